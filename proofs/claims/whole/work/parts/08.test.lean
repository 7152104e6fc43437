def f_X0_isOne (b0 : Nat) (x1 : Int32) (S : Stt) : Option (Int32 × Stt) :=
  if x1 < 0 then (some ((0 : Int32), S)) else (if (S.1 17 b0 0) ≤ x1 then (some ((0 : Int32), S)) else (some ((1 : Int32), S)))
section
variable {p : Program} {l : Launch} {e : Env} {s : State} {m : MethodId} {args : Array Value} {below : List Frame} {meth : Method} {c : Code}
variable {D : va_G} {cI cP cB cA : ClassId} {ad : Nat → Nat} {tL tC : Nat}
end
set_option maxHeartbeats 4000000 in
set_option maxRecDepth 100000 in
theorem m_X0_isOne {l : Launch} {D : va_G} {cI cP cB cA : ClassId} {ad : Nat → Nat} {tL tC : Nat} {b0 : Nat} {x1 : Int32} (hb_0_0 : b0 < 5) {S : Stt} {res : Int32 × Stt} (hf : f_X0_isOne b0 x1 S = some res) : Ct l D cI cP cB cA 79 ad tL tC yX0_isOne cX0_isOne 2 (some .boolean) 1 [.ref (ad (34 + b0)), .int x1] (cfC ad cI cP cB cA S) (QI D 79 ad res.1 (cfC ad cI cP cB cA res.2)) := by
  refine ctOf (by decide) (Nat.le_of_ble_eq_true rfl) ?_
  intro p e s m args below meth c ls X hr hlk hP hl
  have hS : va_S (Ar 79 ad) s.heap s.heap [] := va_S.rf
  have hx := X.1.1
  have hb := X.1.2.1
  have hl : lv_has ls 2 [(0, .ref (ad (34 + b0))), (1, .int x1)] := hl
  unfold f_X0_isOne at hf
  refine lv_iload_n hx hb dX0_isOne_0 rfl (lv_at hl 1 rfl) ?_
  refine lv_if_lt (tgt := 16) hx hb dX0_isOne_1 (by decide) (fun c1 => ?_) (fun c1 => ?_)
  · rw [if_pos c1] at hf
    refine lv_iconst (v := (0 : Int32)) hx hb dX0_isOne_16 (by decide) ?_
    cases hf
    exact rtZ X hr hlk hP hS (Or.inl rfl) dX0_isOne_17
  · rw [if_neg c1] at hf
    refine lv_iload_n hx hb dX0_isOne_4 rfl (lv_at hl 1 rfl) ?_
    refine lv_aload_n hx hb dX0_isOne_5 rfl (lv_at hl 0 rfl) ?_
    refine g_Book_count X hP hb_0_0 tw_24 dX0_isOne_6 ?_
    refine lv_icmp_ge (tgt := 16) hx hb dX0_isOne_9 (by decide) (fun c2 => ?_) (fun c2 => ?_)
    · rw [if_pos c2] at hf
      refine lv_iconst (v := (0 : Int32)) hx hb dX0_isOne_16 (by decide) ?_
      cases hf
      exact rtZ X hr hlk hP hS (Or.inl rfl) dX0_isOne_17
    · rw [if_neg c2] at hf
      refine lv_iconst (v := (1 : Int32)) hx hb dX0_isOne_12 (by decide) ?_
      refine lv_goto (tgt := 17) hx hb dX0_isOne_13 (by decide) ?_
      cases hf
      exact rtZ X hr hlk hP hS (Or.inr rfl) dX0_isOne_17
def f_X3_isOf (b0 : Nat) (i0 : Nat) (x1 : Int32) (S : Stt) : Option (Int32 × Stt) :=
  if x1 = (1 : Int32) then (if (S.1 10 b0 i0) = (1 : Int32) then (some ((1 : Int32), S)) else (if (S.1 10 b0 i0) = (4 : Int32) then (some ((1 : Int32), S)) else (some ((0 : Int32), S)))) else (if x1 = (2 : Int32) then (if (S.1 10 b0 i0) = (2 : Int32) then (some ((1 : Int32), S)) else (if (S.1 10 b0 i0) = (5 : Int32) then (some ((1 : Int32), S)) else (some ((0 : Int32), S)))) else (if (S.1 10 b0 i0) = x1 then (some ((1 : Int32), S)) else (some ((0 : Int32), S))))
section
variable {p : Program} {l : Launch} {e : Env} {s : State} {m : MethodId} {args : Array Value} {below : List Frame} {meth : Method} {c : Code}
variable {D : va_G} {cI cP cB cA : ClassId} {ad : Nat → Nat} {tL tC : Nat}
end
set_option maxHeartbeats 4000000 in
set_option maxRecDepth 100000 in
theorem m_X3_isOf {l : Launch} {D : va_G} {cI cP cB cA : ClassId} {ad : Nat → Nat} {tL tC : Nat} {b0 : Nat} {i0 : Nat} {x1 : Int32} (hb_0_0 : b0 < 5) (hb_0_1 : i0 < 6) {S : Stt} {res : Int32 × Stt} (hf : f_X3_isOf b0 i0 x1 S = some res) : Ct l D cI cP cB cA 79 ad tL tC yX3_isOf cX3_isOf 2 (some .boolean) 1 [.ref (ad (49 + 6 * b0 + i0)), .int x1] (cfC ad cI cP cB cA S) (QI D 79 ad res.1 (cfC ad cI cP cB cA res.2)) := by
  refine ctOf (by decide) (Nat.le_of_ble_eq_true rfl) ?_
  intro p e s m args below meth c ls X hr hlk hP hl
  have hS : va_S (Ar 79 ad) s.heap s.heap [] := va_S.rf
  have hx := X.1.1
  have hb := X.1.2.1
  have hl : lv_has ls 2 [(0, .ref (ad (49 + 6 * b0 + i0))), (1, .int x1)] := hl
  unfold f_X3_isOf at hf
  refine lv_iload_n hx hb dX3_isOf_0 rfl (lv_at hl 1 rfl) ?_
  by_cases c1 : x1 = (1 : Int32)
  · rw [if_pos c1] at hf
    refine W.eq (g2 := F0 m 1 ls [.int (1 : Int32)]) (by rw [c1]) ?_
    refine lv_lookup (x := (1 : Int32)) (off := 27) (tgt := 28) hx hb dX3_isOf_1 (by decide) (by decide) (by decide) ?_
    refine lv_aload_n hx hb dX3_isOf_28 rfl (lv_at hl 0 rfl) ?_
    refine g_Page_kind X hP hb_0_0 hb_0_1 tw_2 dX3_isOf_29 ?_
    refine lv_iconst (v := (1 : Int32)) hx hb dX3_isOf_32 (by decide) ?_
    refine lv_icmp_eq (tgt := 44) hx hb dX3_isOf_33 (by decide) (fun c2 => ?_) (fun c2 => ?_)
    · rw [if_pos c2] at hf
      refine lv_iconst (v := (1 : Int32)) hx hb dX3_isOf_44 (by decide) ?_
      refine lv_goto (tgt := 49) hx hb dX3_isOf_45 (by decide) ?_
      cases hf
      exact rtZ X hr hlk hP hS (Or.inr rfl) dX3_isOf_49
    · rw [if_neg c2] at hf
      refine lv_aload_n hx hb dX3_isOf_36 rfl (lv_at hl 0 rfl) ?_
      refine g_Page_kind X hP hb_0_0 hb_0_1 tw_2 dX3_isOf_37 ?_
      refine lv_iconst (v := (4 : Int32)) hx hb dX3_isOf_40 (by decide) ?_
      refine lv_icmp_ne (tgt := 48) hx hb dX3_isOf_41 (by decide) (fun c3 => ?_) (fun c3 => ?_)
      · rw [if_neg c3] at hf
        refine lv_iconst (v := (0 : Int32)) hx hb dX3_isOf_48 (by decide) ?_
        cases hf
        exact rtZ X hr hlk hP hS (Or.inl rfl) dX3_isOf_49
      · rw [if_pos c3] at hf
        refine lv_iconst (v := (1 : Int32)) hx hb dX3_isOf_44 (by decide) ?_
        refine lv_goto (tgt := 49) hx hb dX3_isOf_45 (by decide) ?_
        cases hf
        exact rtZ X hr hlk hP hS (Or.inr rfl) dX3_isOf_49
  · rw [if_neg c1] at hf
    by_cases c4 : x1 = (2 : Int32)
    · rw [if_pos c4] at hf
      refine W.eq (g2 := F0 m 1 ls [.int (2 : Int32)]) (by rw [c4]) ?_
      refine lv_lookup (x := (2 : Int32)) (off := 49) (tgt := 50) hx hb dX3_isOf_1 (by decide) (by decide) (by decide) ?_
      refine lv_aload_n hx hb dX3_isOf_50 rfl (lv_at hl 0 rfl) ?_
      refine g_Page_kind X hP hb_0_0 hb_0_1 tw_2 dX3_isOf_51 ?_
      refine lv_iconst (v := (2 : Int32)) hx hb dX3_isOf_54 (by decide) ?_
      refine lv_icmp_eq (tgt := 66) hx hb dX3_isOf_55 (by decide) (fun c5 => ?_) (fun c5 => ?_)
      · rw [if_pos c5] at hf
        refine lv_iconst (v := (1 : Int32)) hx hb dX3_isOf_66 (by decide) ?_
        refine lv_goto (tgt := 71) hx hb dX3_isOf_67 (by decide) ?_
        cases hf
        exact rtZ X hr hlk hP hS (Or.inr rfl) dX3_isOf_71
      · rw [if_neg c5] at hf
        refine lv_aload_n hx hb dX3_isOf_58 rfl (lv_at hl 0 rfl) ?_
        refine g_Page_kind X hP hb_0_0 hb_0_1 tw_2 dX3_isOf_59 ?_
        refine lv_iconst (v := (5 : Int32)) hx hb dX3_isOf_62 (by decide) ?_
        refine lv_icmp_ne (tgt := 70) hx hb dX3_isOf_63 (by decide) (fun c6 => ?_) (fun c6 => ?_)
        · rw [if_neg c6] at hf
          refine lv_iconst (v := (0 : Int32)) hx hb dX3_isOf_70 (by decide) ?_
          cases hf
          exact rtZ X hr hlk hP hS (Or.inl rfl) dX3_isOf_71
        · rw [if_pos c6] at hf
          refine lv_iconst (v := (1 : Int32)) hx hb dX3_isOf_66 (by decide) ?_
          refine lv_goto (tgt := 71) hx hb dX3_isOf_67 (by decide) ?_
          cases hf
          exact rtZ X hr hlk hP hS (Or.inr rfl) dX3_isOf_71
    · rw [if_neg c4] at hf
      refine lv_lookup (off := 71) (tgt := 72) hx hb dX3_isOf_1 (by decide) (sw_out2 c1 c4) (by decide) ?_
      refine lv_aload_n hx hb dX3_isOf_72 rfl (lv_at hl 0 rfl) ?_
      refine g_Page_kind X hP hb_0_0 hb_0_1 tw_2 dX3_isOf_73 ?_
      refine lv_iload_n hx hb dX3_isOf_76 rfl (lv_at hl 1 rfl) ?_
      refine lv_icmp_ne (tgt := 84) hx hb dX3_isOf_77 (by decide) (fun c7 => ?_) (fun c7 => ?_)
      · rw [if_neg c7] at hf
        refine lv_iconst (v := (0 : Int32)) hx hb dX3_isOf_84 (by decide) ?_
        cases hf
        exact rtZ X hr hlk hP hS (Or.inl rfl) dX3_isOf_85
      · rw [if_pos c7] at hf
        refine lv_iconst (v := (1 : Int32)) hx hb dX3_isOf_80 (by decide) ?_
        refine lv_goto (tgt := 85) hx hb dX3_isOf_81 (by decide) ?_
        cases hf
        exact rtZ X hr hlk hP hS (Or.inr rfl) dX3_isOf_85
def fj_X0_holds_50_5 (kb : Nat → Int32 → Int32 → Int32 → Stt → Option (Int32 × Stt)) (ke : Stt → Option (Int32 × Stt)) (b0 : Nat) (x2 : Int32) (x4 : Int32) (b5 : Nat) (i5 : Nat) (S : Stt) : Option (Int32 × Stt) :=
  (f_X3_isOf b5 i5 (2 : Int32) S).bind fun q7 => if q7.1 = 0 then (if (q7.2.1 10 b5 i5) = (4 : Int32) then (if ((q7.2.1 15 b5 i5) + (2 : Int32)) < x2 then (some ((0 : Int32), q7.2)) else (some ((1 : Int32), q7.2))) else (some ((1 : Int32), q7.2))) else (kb b0 x2 (q7.2.1 11 b5 i5) (x4 + (1 : Int32)) q7.2)
def fb_X0_holds_5 (kb : Nat → Int32 → Int32 → Int32 → Stt → Option (Int32 × Stt)) (ke : Stt → Option (Int32 × Stt)) (b0 : Nat) (x2 : Int32) (x3 : Int32) (x4 : Int32) (S : Stt) : Option (Int32 × Stt) :=
  if (S.1 17 b0 0) ≤ x4 then (ke  S) else ((f_X0_isOne b0 x3 S).bind fun q2 => if q2.1 = 0 then (ke  q2.2) else (grd (ixb x3 6) (if (q2.2.1 10 b0 x3.toNatClampNeg) = (5 : Int32) then (fj_X0_holds_50_5 kb ke b0 x2 x4 b0 x3.toNatClampNeg q2.2) else (if (q2.2.1 15 b0 x3.toNatClampNeg) ≤ x2 then (fj_X0_holds_50_5 kb ke b0 x2 x4 b0 x3.toNatClampNeg q2.2) else (some ((0 : Int32), q2.2))))))
def fl_X0_holds_5 (ke : Stt → Option (Int32 × Stt)) : Nat → Nat → Int32 → Int32 → Int32 → Stt → Option (Int32 × Stt)
  | 0 => fun _ _ _ _ _ => none
  | n + 1 => fun b0 x2 x3 x4 S => fb_X0_holds_5 (fl_X0_holds_5 ke n) ke b0 x2 x3 x4 S
def f_X0_holds (b0 : Nat) (x1 : Int32) (x2 : Int32) (S : Stt) : Option (Int32 × Stt) :=
  fl_X0_holds_5 (fun S => some ((0 : Int32), S)) 300 b0 x2 x1 (0 : Int32) S
section
variable {p : Program} {l : Launch} {e : Env} {s : State} {m : MethodId} {args : Array Value} {below : List Frame} {meth : Method} {c : Code}
variable {D : va_G} {cI cP cB cA : ClassId} {ad : Nat → Nat} {tL tC : Nat}
set_option maxHeartbeats 4000000 in
set_option maxRecDepth 100000 in
theorem vj_X0_holds_50_5 (X : Cx D cI cP cB cA 79 ad tL tC p s m c cX0_holds 6 args RX0) (hr : meth.sig.returnType = (some .boolean)) (hlk : meth.locks = false) {res : Int32 × Stt} (kb : Nat → Int32 → Int32 → Int32 → Stt → Option (Int32 × Stt)) (ke : Stt → Option (Int32 × Stt)) (hkb : ∀ (b0 : Nat) (x2 : Int32) (x3 : Int32) (x4 : Int32) (S : Stt) (H : Heap) (locs : List Loc) (ls : Array Slot), kb b0 x2 x3 x4 S = some res → b0 < 5 → va_P D vwCl (wl 79 ad (cfC ad cI cP cB cA S)) H → va_S (Ar 79 ad) s.heap H locs → lv_has ls 6 [(0, .ref (ad (34 + b0))), (2, .int x2), (3, .int x3), (4, .int x4)] → W p l e (rmD 2) s m args below meth c H locs 0 0 (MQ below (QI D 79 ad res.1 (cfC ad cI cP cB cA res.2)) args s 0 0 (Ar 79 ad)) (F0 m 5 ls [])) (hke : ∀ (S : Stt) (H : Heap) (locs : List Loc) (ls : Array Slot), ke S = some res → va_P D vwCl (wl 79 ad (cfC ad cI cP cB cA S)) H → va_S (Ar 79 ad) s.heap H locs → lv_has ls 6 [] → W p l e (rmD 2) s m args below meth c H locs 0 0 (MQ below (QI D 79 ad res.1 (cfC ad cI cP cB cA res.2)) args s 0 0 (Ar 79 ad)) (F0 m 97 ls [])) : ∀ (b0 : Nat) (x2 : Int32) (x4 : Int32) (b5 : Nat) (i5 : Nat) (S : Stt) (H : Heap) (locs : List Loc) (ls : Array Slot), fj_X0_holds_50_5 kb ke b0 x2 x4 b5 i5 S = some res → b0 < 5 → b5 < 5 → i5 < 6 → va_P D vwCl (wl 79 ad (cfC ad cI cP cB cA S)) H → va_S (Ar 79 ad) s.heap H locs → lv_has ls 6 [(0, .ref (ad (34 + b0))), (2, .int x2), (4, .int x4), (5, .ref (ad (49 + 6 * b5 + i5)))] → W p l e (rmD 2) s m args below meth c H locs 0 0 (MQ below (QI D 79 ad res.1 (cfC ad cI cP cB cA res.2)) args s 0 0 (Ar 79 ad)) (F0 m 50 ls []) := by
  intro b0 x2 x4 b5 i5 S H locs ls hf hb_0_0 hb_5_0 hb_5_1 hP hS hl
  have hx := X.1.1
  have hb := X.1.2.1
  unfold fj_X0_holds_50_5 at hf
  refine lv_aload hx hb dX0_holds_50 (lv_at hl 3 rfl) ?_
  refine lv_iconst (v := (2 : Int32)) hx hb dX0_holds_52 (by decide) ?_
  obtain ⟨q7, e8, hf⟩ := bind_some hf
  refine aftI hS (cV (rest := []) X hP hS [.int (2 : Int32)] (m_X3_isOf hb_5_0 hb_5_1 e8) cw_X3_isOf tw_176 tw_442 tw_678 (by omega) (cf_Page hb_5_0 hb_5_1) rfl (fits9 (by first | decide | omega) (by decide)) rfl rfl hl.1 (Nat.le_of_ble_eq_true rfl) dX0_holds_53 ⟨Nat.zero_le _, Nat.zero_le _⟩) (fun H locs hP hS => ?_)
  refine lv_if_ne (tgt := 85) hx hb dX0_holds_56 (by decide) (fun c9 => ?_) (fun c9 => ?_)
  · rw [if_neg c9] at hf
    refine lv_aload hx hb dX0_holds_85 (lv_at hl 3 rfl) ?_
    refine gN_Page_points X hP hb_5_0 hb_5_1 tw_6 dX0_holds_87 ?_
    refine lv_istore_n (lv' := [(3, .int (q7.2.1 11 b5 i5)), (0, .ref (ad (34 + b0))), (2, .int x2), (4, .int x4), (5, .ref (ad (49 + 6 * b5 + i5)))]) hx hb dX0_holds_90 rfl hl (by decide) rfl (fun ls hl => ?_)
    refine lv_iinc (v := (x4 + (1 : Int32))) (lv' := [(4, .int (x4 + (1 : Int32))), (3, .int (q7.2.1 11 b5 i5)), (0, .ref (ad (34 + b0))), (2, .int x2), (5, .ref (ad (49 + 6 * b5 + i5)))]) hx hb dX0_holds_91 hl (k := 3) rfl rfl (by decide) rfl (fun ls hl => ?_)
    refine lv_goto (tgt := 5) hx hb dX0_holds_94 (by decide) ?_
    exact hkb _ _ _ _ _ _ _ ls hf hb_0_0 hP hS (lv_sub hl [2, 3, 1, 0] rfl)
  · rw [if_pos c9] at hf
    refine lv_aload hx hb dX0_holds_59 (lv_at hl 3 rfl) ?_
    refine gN_Page_kind X hP hb_5_0 hb_5_1 tw_3 dX0_holds_61 ?_
    refine lv_iconst (v := (4 : Int32)) hx hb dX0_holds_64 (by decide) ?_
    refine lv_icmp_ne (tgt := 79) hx hb dX0_holds_65 (by decide) (fun c10 => ?_) (fun c10 => ?_)
    · rw [if_neg c10] at hf
      refine lv_iconst (v := (1 : Int32)) hx hb dX0_holds_79 (by decide) ?_
      refine lv_goto (tgt := 84) hx hb dX0_holds_80 (by decide) ?_
      cases hf
      exact rtZ X hr hlk hP hS (Or.inr rfl) dX0_holds_84
    · rw [if_pos c10] at hf
      refine lv_iload_n hx hb dX0_holds_68 rfl (lv_at hl 1 rfl) ?_
      refine lv_aload hx hb dX0_holds_69 (lv_at hl 3 rfl) ?_
      refine gN_Page_day X hP hb_5_0 hb_5_1 tw_17 dX0_holds_71 ?_
      refine lv_iconst (v := (2 : Int32)) hx hb dX0_holds_74 (by decide) ?_
      refine lv_iadd hx hb dX0_holds_75 ?_
      refine lv_icmp_gt (tgt := 83) hx hb dX0_holds_76 (by decide) (fun c11 => ?_) (fun c11 => ?_)
      · rw [if_pos c11] at hf
        refine lv_iconst (v := (0 : Int32)) hx hb dX0_holds_83 (by decide) ?_
        cases hf
        exact rtZ X hr hlk hP hS (Or.inl rfl) dX0_holds_84
      · rw [if_neg c11] at hf
        refine lv_iconst (v := (1 : Int32)) hx hb dX0_holds_79 (by decide) ?_
        refine lv_goto (tgt := 84) hx hb dX0_holds_80 (by decide) ?_
        cases hf
        exact rtZ X hr hlk hP hS (Or.inr rfl) dX0_holds_84
set_option maxHeartbeats 4000000 in
set_option maxRecDepth 100000 in
theorem vb_X0_holds_5 (X : Cx D cI cP cB cA 79 ad tL tC p s m c cX0_holds 6 args RX0) (hr : meth.sig.returnType = (some .boolean)) (hlk : meth.locks = false) {res : Int32 × Stt} (kb : Nat → Int32 → Int32 → Int32 → Stt → Option (Int32 × Stt)) (ke : Stt → Option (Int32 × Stt)) (hkb : ∀ (b0 : Nat) (x2 : Int32) (x3 : Int32) (x4 : Int32) (S : Stt) (H : Heap) (locs : List Loc) (ls : Array Slot), kb b0 x2 x3 x4 S = some res → b0 < 5 → va_P D vwCl (wl 79 ad (cfC ad cI cP cB cA S)) H → va_S (Ar 79 ad) s.heap H locs → lv_has ls 6 [(0, .ref (ad (34 + b0))), (2, .int x2), (3, .int x3), (4, .int x4)] → W p l e (rmD 2) s m args below meth c H locs 0 0 (MQ below (QI D 79 ad res.1 (cfC ad cI cP cB cA res.2)) args s 0 0 (Ar 79 ad)) (F0 m 5 ls [])) (hke : ∀ (S : Stt) (H : Heap) (locs : List Loc) (ls : Array Slot), ke S = some res → va_P D vwCl (wl 79 ad (cfC ad cI cP cB cA S)) H → va_S (Ar 79 ad) s.heap H locs → lv_has ls 6 [] → W p l e (rmD 2) s m args below meth c H locs 0 0 (MQ below (QI D 79 ad res.1 (cfC ad cI cP cB cA res.2)) args s 0 0 (Ar 79 ad)) (F0 m 97 ls [])) : ∀ (b0 : Nat) (x2 : Int32) (x3 : Int32) (x4 : Int32) (S : Stt) (H : Heap) (locs : List Loc) (ls : Array Slot), fb_X0_holds_5 kb ke b0 x2 x3 x4 S = some res → b0 < 5 → va_P D vwCl (wl 79 ad (cfC ad cI cP cB cA S)) H → va_S (Ar 79 ad) s.heap H locs → lv_has ls 6 [(0, .ref (ad (34 + b0))), (2, .int x2), (3, .int x3), (4, .int x4)] → W p l e (rmD 2) s m args below meth c H locs 0 0 (MQ below (QI D 79 ad res.1 (cfC ad cI cP cB cA res.2)) args s 0 0 (Ar 79 ad)) (F0 m 5 ls []) := by
  intro b0 x2 x3 x4 S H locs ls hf hb_0_0 hP hS hl
  have hx := X.1.1
  have hb := X.1.2.1
  unfold fb_X0_holds_5 at hf
  refine lv_iload hx hb dX0_holds_5 (lv_at hl 3 rfl) ?_
  refine lv_aload_n hx hb dX0_holds_7 rfl (lv_at hl 0 rfl) ?_
  refine g_Book_count X hP hb_0_0 tw_24 dX0_holds_8 ?_
  refine lv_icmp_ge (tgt := 97) hx hb dX0_holds_11 (by decide) (fun c1 => ?_) (fun c1 => ?_)
  · rw [if_pos c1] at hf
    exact hke  _ _ _ ls hf  hP hS (lv_sub hl [] rfl)
  · rw [if_neg c1] at hf
    refine lv_aload_n hx hb dX0_holds_14 rfl (lv_at hl 0 rfl) ?_
    refine lv_iload_n hx hb dX0_holds_15 rfl (lv_at hl 2 rfl) ?_
    obtain ⟨q2, e3, hf⟩ := bind_some hf
    refine aftI hS (cV (rest := []) X hP hS [.int x3] (m_X0_isOne hb_0_0 e3) cw_X0_isOne tw_171 tw_450 tw_644 (by omega) (cf_Book hb_0_0) rfl (fits9 (by first | decide | omega) (by decide)) rfl rfl hl.1 (Nat.le_of_ble_eq_true rfl) dX0_holds_16 ⟨Nat.zero_le _, Nat.zero_le _⟩) (fun H locs hP hS => ?_)
    refine lv_if_eq (tgt := 97) hx hb dX0_holds_19 (by decide) (fun c4 => ?_) (fun c4 => ?_)
    · rw [if_pos c4] at hf
      exact hke  _ _ _ ls hf  hP hS (lv_sub hl [] rfl)
    · rw [if_neg c4] at hf
      refine lv_aload_n hx hb dX0_holds_22 rfl (lv_at hl 0 rfl) ?_
      refine g_Book_pages X hP hb_0_0 tw_20 dX0_holds_23 ?_
      refine lv_iload_n hx hb dX0_holds_26 rfl (lv_at hl 2 rfl) ?_
      obtain ⟨g5, hf⟩ := grd_some hf
      refine q_pages X hP hb_0_0 g5 dX0_holds_27 ?_
      refine lv_astore (lv' := [(5, .ref (ad (49 + 6 * b0 + x3.toNatClampNeg))), (0, .ref (ad (34 + b0))), (2, .int x2), (3, .int x3), (4, .int x4)]) hx hb dX0_holds_28 hl (by decide) rfl (fun ls hl => ?_)
      refine lv_aload hx hb dX0_holds_30 (lv_at hl 0 rfl) ?_
      refine gN_Page_kind X hP hb_0_0 (ixb_lt g5) tw_3 dX0_holds_32 ?_
      refine lv_iconst (v := (5 : Int32)) hx hb dX0_holds_35 (by decide) ?_
      refine lv_icmp_eq (tgt := 50) hx hb dX0_holds_36 (by decide) (fun c6 => ?_) (fun c6 => ?_)
      · rw [if_pos c6] at hf
        exact vj_X0_holds_50_5 X hr hlk _ _ hkb hke _ _ _ _ _ _ _ _ ls hf hb_0_0 hb_0_0 (ixb_lt g5) hP hS (lv_sub hl [1, 2, 4, 0] rfl)
      · rw [if_neg c6] at hf
        refine lv_iload_n hx hb dX0_holds_39 rfl (lv_at hl 2 rfl) ?_
        refine lv_aload hx hb dX0_holds_40 (lv_at hl 0 rfl) ?_
        refine gN_Page_day X hP hb_0_0 (ixb_lt g5) tw_17 dX0_holds_42 ?_
        refine lv_icmp_ge (tgt := 50) hx hb dX0_holds_45 (by decide) (fun c12 => ?_) (fun c12 => ?_)
        · rw [if_pos c12] at hf
          exact vj_X0_holds_50_5 X hr hlk _ _ hkb hke _ _ _ _ _ _ _ _ ls hf hb_0_0 hb_0_0 (ixb_lt g5) hP hS (lv_sub hl [1, 2, 4, 0] rfl)
        · rw [if_neg c12] at hf
          refine lv_iconst (v := (0 : Int32)) hx hb dX0_holds_48 (by decide) ?_
          cases hf
          exact rtZ X hr hlk hP hS (Or.inl rfl) dX0_holds_49
set_option maxHeartbeats 4000000 in
set_option maxRecDepth 100000 in
theorem vl_X0_holds_5 (X : Cx D cI cP cB cA 79 ad tL tC p s m c cX0_holds 6 args RX0) (hr : meth.sig.returnType = (some .boolean)) (hlk : meth.locks = false) {res : Int32 × Stt} (ke : Stt → Option (Int32 × Stt)) (hke : ∀ (S : Stt) (H : Heap) (locs : List Loc) (ls : Array Slot), ke S = some res → va_P D vwCl (wl 79 ad (cfC ad cI cP cB cA S)) H → va_S (Ar 79 ad) s.heap H locs → lv_has ls 6 [] → W p l e (rmD 2) s m args below meth c H locs 0 0 (MQ below (QI D 79 ad res.1 (cfC ad cI cP cB cA res.2)) args s 0 0 (Ar 79 ad)) (F0 m 97 ls [])) : ∀ (n : Nat), ∀ (b0 : Nat) (x2 : Int32) (x3 : Int32) (x4 : Int32) (S : Stt) (H : Heap) (locs : List Loc) (ls : Array Slot), fl_X0_holds_5 ke n b0 x2 x3 x4 S = some res → b0 < 5 → va_P D vwCl (wl 79 ad (cfC ad cI cP cB cA S)) H → va_S (Ar 79 ad) s.heap H locs → lv_has ls 6 [(0, .ref (ad (34 + b0))), (2, .int x2), (3, .int x3), (4, .int x4)] → W p l e (rmD 2) s m args below meth c H locs 0 0 (MQ below (QI D 79 ad res.1 (cfC ad cI cP cB cA res.2)) args s 0 0 (Ar 79 ad)) (F0 m 5 ls []) := by
  intro n
  induction n with
  | zero =>
    intro b0 x2 x3 x4 S H locs ls hf hb_0_0 hP hS hl
    cases hf
  | succ n ih =>
    intro b0 x2 x3 x4 S H locs ls hf hb_0_0 hP hS hl
    exact vb_X0_holds_5 X hr hlk _ ke ih hke b0 x2 x3 x4 S H locs ls hf hb_0_0 hP hS hl
end
set_option maxHeartbeats 4000000 in
set_option maxRecDepth 100000 in
theorem m_X0_holds {l : Launch} {D : va_G} {cI cP cB cA : ClassId} {ad : Nat → Nat} {tL tC : Nat} {b0 : Nat} {x1 : Int32} {x2 : Int32} (hb_0_0 : b0 < 5) {S : Stt} {res : Int32 × Stt} (hf : f_X0_holds b0 x1 x2 S = some res) : Ct l D cI cP cB cA 79 ad tL tC yX0_holds cX0_holds 6 (some .boolean) 2 [.ref (ad (34 + b0)), .int x1, .int x2] (cfC ad cI cP cB cA S) (QI D 79 ad res.1 (cfC ad cI cP cB cA res.2)) := by
  refine ctOf (by decide) (Nat.le_of_ble_eq_true rfl) ?_
  intro p e s m args below meth c ls X hr hlk hP hl
  have hS : va_S (Ar 79 ad) s.heap s.heap [] := va_S.rf
  have hx := X.1.1
  have hb := X.1.2.1
  have hl : lv_has ls 6 [(0, .ref (ad (34 + b0))), (1, .int x1), (2, .int x2)] := hl
  unfold f_X0_holds at hf
  refine lv_iload_n hx hb dX0_holds_0 rfl (lv_at hl 1 rfl) ?_
  refine lv_istore_n (lv' := [(3, .int x1), (0, .ref (ad (34 + b0))), (1, .int x1), (2, .int x2)]) hx hb dX0_holds_1 rfl hl (by decide) rfl (fun ls hl => ?_)
  refine lv_iconst (v := (0 : Int32)) hx hb dX0_holds_2 (by decide) ?_
  refine lv_istore (lv' := [(4, .int (0 : Int32)), (3, .int x1), (0, .ref (ad (34 + b0))), (1, .int x1), (2, .int x2)]) hx hb dX0_holds_3 hl (by decide) rfl (fun ls hl => ?_)
  refine vl_X0_holds_5 X hr hlk _ ?_ 300 _ _ _ _ _ _ _ ls hf hb_0_0 hP hS (lv_sub hl [2, 4, 1, 0] rfl)
  intro S H locs ls hf hP hS hl
  refine lv_iconst (v := (0 : Int32)) hx hb dX0_holds_97 (by decide) ?_
  cases hf
  exact rtZ X hr hlk hP hS (Or.inl rfl) dX0_holds_98
def fb_X0_bound_4 (kb : Nat → Int32 → Int32 → Int32 → Stt → Option (Int32 × Stt)) (ke : Int32 → Stt → Option (Int32 × Stt)) (b0 : Nat) (x1 : Int32) (x2 : Int32) (x3 : Int32) (S : Stt) : Option (Int32 × Stt) :=
  if (S.1 17 b0 0) ≤ x3 then (ke x2 S) else ((f_X0_holds b0 x3 x1 S).bind fun q2 => if q2.1 = 0 then (kb b0 x1 x2 (x3 + (1 : Int32)) q2.2) else (kb b0 x1 (x2 ||| ((1 : Int32) <<< (x3 &&& 31))) (x3 + (1 : Int32)) q2.2))
def fl_X0_bound_4 (ke : Int32 → Stt → Option (Int32 × Stt)) : Nat → Nat → Int32 → Int32 → Int32 → Stt → Option (Int32 × Stt)
  | 0 => fun _ _ _ _ _ => none
  | n + 1 => fun b0 x1 x2 x3 S => fb_X0_bound_4 (fl_X0_bound_4 ke n) ke b0 x1 x2 x3 S
def f_X0_bound (b0 : Nat) (x1 : Int32) (S : Stt) : Option (Int32 × Stt) :=
  fl_X0_bound_4 (fun x2 S => some (x2, S)) 300 b0 x1 (0 : Int32) (0 : Int32) S
section
variable {p : Program} {l : Launch} {e : Env} {s : State} {m : MethodId} {args : Array Value} {below : List Frame} {meth : Method} {c : Code}
variable {D : va_G} {cI cP cB cA : ClassId} {ad : Nat → Nat} {tL tC : Nat}
set_option maxHeartbeats 4000000 in
set_option maxRecDepth 100000 in
theorem vb_X0_bound_4 (X : Cx D cI cP cB cA 79 ad tL tC p s m c cX0_bound 4 args RX0) (hr : meth.sig.returnType = (some .int)) (hlk : meth.locks = false) {res : Int32 × Stt} (kb : Nat → Int32 → Int32 → Int32 → Stt → Option (Int32 × Stt)) (ke : Int32 → Stt → Option (Int32 × Stt)) (hkb : ∀ (b0 : Nat) (x1 : Int32) (x2 : Int32) (x3 : Int32) (S : Stt) (H : Heap) (locs : List Loc) (ls : Array Slot), kb b0 x1 x2 x3 S = some res → b0 < 5 → va_P D vwCl (wl 79 ad (cfC ad cI cP cB cA S)) H → va_S (Ar 79 ad) s.heap H locs → lv_has ls 4 [(0, .ref (ad (34 + b0))), (1, .int x1), (2, .int x2), (3, .int x3)] → W p l e (rmD 3) s m args below meth c H locs 0 0 (MQ below (QI D 79 ad res.1 (cfC ad cI cP cB cA res.2)) args s 0 0 (Ar 79 ad)) (F0 m 4 ls [])) (hke : ∀ (x2 : Int32) (S : Stt) (H : Heap) (locs : List Loc) (ls : Array Slot), ke x2 S = some res → va_P D vwCl (wl 79 ad (cfC ad cI cP cB cA S)) H → va_S (Ar 79 ad) s.heap H locs → lv_has ls 4 [(2, .int x2)] → W p l e (rmD 3) s m args below meth c H locs 0 0 (MQ below (QI D 79 ad res.1 (cfC ad cI cP cB cA res.2)) args s 0 0 (Ar 79 ad)) (F0 m 33 ls [])) : ∀ (b0 : Nat) (x1 : Int32) (x2 : Int32) (x3 : Int32) (S : Stt) (H : Heap) (locs : List Loc) (ls : Array Slot), fb_X0_bound_4 kb ke b0 x1 x2 x3 S = some res → b0 < 5 → va_P D vwCl (wl 79 ad (cfC ad cI cP cB cA S)) H → va_S (Ar 79 ad) s.heap H locs → lv_has ls 4 [(0, .ref (ad (34 + b0))), (1, .int x1), (2, .int x2), (3, .int x3)] → W p l e (rmD 3) s m args below meth c H locs 0 0 (MQ below (QI D 79 ad res.1 (cfC ad cI cP cB cA res.2)) args s 0 0 (Ar 79 ad)) (F0 m 4 ls []) := by
  intro b0 x1 x2 x3 S H locs ls hf hb_0_0 hP hS hl
  have hx := X.1.1
  have hb := X.1.2.1
  unfold fb_X0_bound_4 at hf
  refine lv_iload_n hx hb dX0_bound_4 rfl (lv_at hl 3 rfl) ?_
  refine lv_aload_n hx hb dX0_bound_5 rfl (lv_at hl 0 rfl) ?_
  refine g_Book_count X hP hb_0_0 tw_24 dX0_bound_6 ?_
  refine lv_icmp_ge (tgt := 33) hx hb dX0_bound_9 (by decide) (fun c1 => ?_) (fun c1 => ?_)
  · rw [if_pos c1] at hf
    exact hke _ _ _ _ ls hf  hP hS (lv_sub hl [2] rfl)
  · rw [if_neg c1] at hf
    refine lv_aload_n hx hb dX0_bound_12 rfl (lv_at hl 0 rfl) ?_
    refine lv_iload_n hx hb dX0_bound_13 rfl (lv_at hl 3 rfl) ?_
    refine lv_iload_n hx hb dX0_bound_14 rfl (lv_at hl 1 rfl) ?_
    obtain ⟨q2, e3, hf⟩ := bind_some hf
    refine aftI hS (cV (rest := []) X hP hS [.int x3, .int x1] (m_X0_holds hb_0_0 e3) cw_X0_holds tw_179 tw_453 tw_658 (by omega) (cf_Book hb_0_0) rfl (fits9 (by first | decide | omega) (by decide)) rfl rfl hl.1 (Nat.le_of_ble_eq_true rfl) dX0_bound_15 ⟨Nat.zero_le _, Nat.zero_le _⟩) (fun H locs hP hS => ?_)
    refine lv_if_eq (tgt := 27) hx hb dX0_bound_18 (by decide) (fun c4 => ?_) (fun c4 => ?_)
    · rw [if_pos c4] at hf
      refine lv_iinc (v := (x3 + (1 : Int32))) (lv' := [(3, .int (x3 + (1 : Int32))), (0, .ref (ad (34 + b0))), (1, .int x1), (2, .int x2)]) hx hb dX0_bound_27 hl (k := 3) rfl rfl (by decide) rfl (fun ls hl => ?_)
      refine lv_goto (tgt := 4) hx hb dX0_bound_30 (by decide) ?_
      exact hkb _ _ _ _ _ _ _ ls hf hb_0_0 hP hS (lv_sub hl [1, 2, 3, 0] rfl)
    · rw [if_neg c4] at hf
      refine lv_iload_n hx hb dX0_bound_21 rfl (lv_at hl 2 rfl) ?_
      refine lv_iconst (v := (1 : Int32)) hx hb dX0_bound_22 (by decide) ?_
      refine lv_iload_n hx hb dX0_bound_23 rfl (lv_at hl 3 rfl) ?_
      refine lv_ishl hx hb dX0_bound_24 ?_
      refine lv_ior hx hb dX0_bound_25 ?_
      refine lv_istore_n (lv' := [(2, .int (x2 ||| ((1 : Int32) <<< (x3 &&& 31)))), (0, .ref (ad (34 + b0))), (1, .int x1), (3, .int x3)]) hx hb dX0_bound_26 rfl hl (by decide) rfl (fun ls hl => ?_)
      refine lv_iinc (v := (x3 + (1 : Int32))) (lv' := [(3, .int (x3 + (1 : Int32))), (2, .int (x2 ||| ((1 : Int32) <<< (x3 &&& 31)))), (0, .ref (ad (34 + b0))), (1, .int x1)]) hx hb dX0_bound_27 hl (k := 3) rfl rfl (by decide) rfl (fun ls hl => ?_)
      refine lv_goto (tgt := 4) hx hb dX0_bound_30 (by decide) ?_
      exact hkb _ _ _ _ _ _ _ ls hf hb_0_0 hP hS (lv_sub hl [2, 3, 1, 0] rfl)
set_option maxHeartbeats 4000000 in
set_option maxRecDepth 100000 in
theorem vl_X0_bound_4 (X : Cx D cI cP cB cA 79 ad tL tC p s m c cX0_bound 4 args RX0) (hr : meth.sig.returnType = (some .int)) (hlk : meth.locks = false) {res : Int32 × Stt} (ke : Int32 → Stt → Option (Int32 × Stt)) (hke : ∀ (x2 : Int32) (S : Stt) (H : Heap) (locs : List Loc) (ls : Array Slot), ke x2 S = some res → va_P D vwCl (wl 79 ad (cfC ad cI cP cB cA S)) H → va_S (Ar 79 ad) s.heap H locs → lv_has ls 4 [(2, .int x2)] → W p l e (rmD 3) s m args below meth c H locs 0 0 (MQ below (QI D 79 ad res.1 (cfC ad cI cP cB cA res.2)) args s 0 0 (Ar 79 ad)) (F0 m 33 ls [])) : ∀ (n : Nat), ∀ (b0 : Nat) (x1 : Int32) (x2 : Int32) (x3 : Int32) (S : Stt) (H : Heap) (locs : List Loc) (ls : Array Slot), fl_X0_bound_4 ke n b0 x1 x2 x3 S = some res → b0 < 5 → va_P D vwCl (wl 79 ad (cfC ad cI cP cB cA S)) H → va_S (Ar 79 ad) s.heap H locs → lv_has ls 4 [(0, .ref (ad (34 + b0))), (1, .int x1), (2, .int x2), (3, .int x3)] → W p l e (rmD 3) s m args below meth c H locs 0 0 (MQ below (QI D 79 ad res.1 (cfC ad cI cP cB cA res.2)) args s 0 0 (Ar 79 ad)) (F0 m 4 ls []) := by
  intro n
  induction n with
  | zero =>
    intro b0 x1 x2 x3 S H locs ls hf hb_0_0 hP hS hl
    cases hf
  | succ n ih =>
    intro b0 x1 x2 x3 S H locs ls hf hb_0_0 hP hS hl
    exact vb_X0_bound_4 X hr hlk _ ke ih hke b0 x1 x2 x3 S H locs ls hf hb_0_0 hP hS hl
end
set_option maxHeartbeats 4000000 in
set_option maxRecDepth 100000 in
theorem m_X0_bound {l : Launch} {D : va_G} {cI cP cB cA : ClassId} {ad : Nat → Nat} {tL tC : Nat} {b0 : Nat} {x1 : Int32} (hb_0_0 : b0 < 5) {S : Stt} {res : Int32 × Stt} (hf : f_X0_bound b0 x1 S = some res) : Ct l D cI cP cB cA 79 ad tL tC yX0_bound cX0_bound 4 (some .int) 3 [.ref (ad (34 + b0)), .int x1] (cfC ad cI cP cB cA S) (QI D 79 ad res.1 (cfC ad cI cP cB cA res.2)) := by
  refine ctOf (by decide) (Nat.le_of_ble_eq_true rfl) ?_
  intro p e s m args below meth c ls X hr hlk hP hl
  have hS : va_S (Ar 79 ad) s.heap s.heap [] := va_S.rf
  have hx := X.1.1
  have hb := X.1.2.1
  have hl : lv_has ls 4 [(0, .ref (ad (34 + b0))), (1, .int x1)] := hl
  unfold f_X0_bound at hf
  refine lv_iconst (v := (0 : Int32)) hx hb dX0_bound_0 (by decide) ?_
  refine lv_istore_n (lv' := [(2, .int (0 : Int32)), (0, .ref (ad (34 + b0))), (1, .int x1)]) hx hb dX0_bound_1 rfl hl (by decide) rfl (fun ls hl => ?_)
  refine lv_iconst (v := (0 : Int32)) hx hb dX0_bound_2 (by decide) ?_
  refine lv_istore_n (lv' := [(3, .int (0 : Int32)), (2, .int (0 : Int32)), (0, .ref (ad (34 + b0))), (1, .int x1)]) hx hb dX0_bound_3 rfl hl (by decide) rfl (fun ls hl => ?_)
  refine vl_X0_bound_4 X hr hlk _ ?_ 300 _ _ _ _ _ _ _ ls hf hb_0_0 hP hS (lv_sub hl [2, 3, 1, 0] rfl)
  intro x2 S H locs ls hf hP hS hl
  refine lv_iload_n hx hb dX0_bound_33 rfl (lv_at hl 0 rfl) ?_
  cases hf
  exact rtI X hr hlk hP hS dX0_bound_34
