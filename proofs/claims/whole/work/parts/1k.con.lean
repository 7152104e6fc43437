/-! X2_findBest -/
section
variable {p : Program} {l : Launch} {e : Env} {s : State} {m : MethodId} {args : Array Value} {below : List Frame} {meth : Method} {c : Code}
variable {D : va_G} {cI cP cB cA : ClassId} {ad : Nat → Nat} {tL tC : Nat}
set_option maxHeartbeats 4000000 in
set_option maxRecDepth 100000 in
theorem vb_X2_findBest_9 (X : Cx D cI cP cB cA 79 ad tL tC p s m c cX2_findBest 4 args RX2) (hr : meth.sig.returnType = none) (hlk : meth.locks = false) {res : Stt} (kb : Nat → Int32 → Stt → Option (Stt)) (ke : Nat → Stt → Option (Stt)) (hkb : ∀ (b1 : Nat) (x3 : Int32) (S : Stt) (H : Heap) (locs : List Loc) (ls : Array Slot), kb b1 x3 S = some res → b1 < 5 → va_P D vwCl (wl 79 ad (cfC ad cI cP cB cA S)) H → va_S (Ar 79 ad) s.heap H locs → lv_has ls 4 [(0, .ref (ad 10)), (1, .ref (ad (34 + b1))), (2, .ref (ad 8)), (3, .int x3)] → W p l e (rmD 25) s m args below meth c H locs 0 0 (MQ below (QV D 79 ad (cfC ad cI cP cB cA res)) args s 0 0 (Ar 79 ad)) (F0 m 9 ls [])) (hke : ∀ (b1 : Nat) (S : Stt) (H : Heap) (locs : List Loc) (ls : Array Slot), ke b1 S = some res → b1 < 5 → va_P D vwCl (wl 79 ad (cfC ad cI cP cB cA S)) H → va_S (Ar 79 ad) s.heap H locs → lv_has ls 4 [(0, .ref (ad 10)), (1, .ref (ad (34 + b1))), (2, .ref (ad 8))] → W p l e (rmD 25) s m args below meth c H locs 0 0 (MQ below (QV D 79 ad (cfC ad cI cP cB cA res)) args s 0 0 (Ar 79 ad)) (F0 m 34 ls [])) : ∀ (b1 : Nat) (x3 : Int32) (S : Stt) (H : Heap) (locs : List Loc) (ls : Array Slot), fb_X2_findBest_9 kb ke b1 x3 S = some res → b1 < 5 → va_P D vwCl (wl 79 ad (cfC ad cI cP cB cA S)) H → va_S (Ar 79 ad) s.heap H locs → lv_has ls 4 [(0, .ref (ad 10)), (1, .ref (ad (34 + b1))), (2, .ref (ad 8)), (3, .int x3)] → W p l e (rmD 25) s m args below meth c H locs 0 0 (MQ below (QV D 79 ad (cfC ad cI cP cB cA res)) args s 0 0 (Ar 79 ad)) (F0 m 9 ls []) := by
  intro b1 x3 S H locs ls hf hb_1_0 hP hS hl
  have hx := X.1.1
  have hb := X.1.2.1
  unfold fb_X2_findBest_9 at hf
  refine lv_iload_n hx hb dX2_findBest_9 rfl (lv_at hl 3 rfl) ?_
  refine lv_aload_n hx hb dX2_findBest_10 rfl (lv_at hl 1 rfl) ?_
  refine gN_Book_count X hP hb_1_0 tw_25 dX2_findBest_11 ?_
  refine lv_icmp_ge (tgt := 34) hx hb dX2_findBest_14 (by decide) (fun c1 => ?_) (fun c1 => ?_)
  · rw [if_pos c1] at hf
    exact hke _ _ _ _ ls hf hb_1_0 hP hS (lv_sub hl [0, 1, 2] rfl)
  · rw [if_neg c1] at hf
    refine lv_aload_n hx hb dX2_findBest_17 rfl (lv_at hl 1 rfl) ?_
    refine gN_Book_pages X hP hb_1_0 tw_21 dX2_findBest_18 ?_
    refine lv_iload_n hx hb dX2_findBest_21 rfl (lv_at hl 3 rfl) ?_
    obtain ⟨g2, hf⟩ := grd_some hf
    refine q_pages X hP hb_1_0 g2 dX2_findBest_22 ?_
    refine lv_bipush (v := (99 : Int32)) hx hb dX2_findBest_23 (by decide) ?_
    refine pN_Page_day X hP hS hb_1_0 (ixb_lt g2) tw_15 dX2_findBest_25 (fun H locs hP hS => ?_)
    refine lv_iinc (v := (x3 + (1 : Int32))) (lv' := [(3, .int (x3 + (1 : Int32))), (0, .ref (ad 10)), (1, .ref (ad (34 + b1))), (2, .ref (ad 8))]) hx hb dX2_findBest_28 hl (k := 3) rfl rfl (by decide) rfl (fun ls hl => ?_)
    refine lv_goto (tgt := 9) hx hb dX2_findBest_31 (by decide) ?_
    exact hkb _ _ _ _ _ ls hf hb_1_0 hP hS (lv_sub hl [1, 2, 3, 0] rfl)
set_option maxHeartbeats 4000000 in
set_option maxRecDepth 100000 in
theorem vl_X2_findBest_9 (X : Cx D cI cP cB cA 79 ad tL tC p s m c cX2_findBest 4 args RX2) (hr : meth.sig.returnType = none) (hlk : meth.locks = false) {res : Stt} (ke : Nat → Stt → Option (Stt)) (hke : ∀ (b1 : Nat) (S : Stt) (H : Heap) (locs : List Loc) (ls : Array Slot), ke b1 S = some res → b1 < 5 → va_P D vwCl (wl 79 ad (cfC ad cI cP cB cA S)) H → va_S (Ar 79 ad) s.heap H locs → lv_has ls 4 [(0, .ref (ad 10)), (1, .ref (ad (34 + b1))), (2, .ref (ad 8))] → W p l e (rmD 25) s m args below meth c H locs 0 0 (MQ below (QV D 79 ad (cfC ad cI cP cB cA res)) args s 0 0 (Ar 79 ad)) (F0 m 34 ls [])) : ∀ (n : Nat), ∀ (b1 : Nat) (x3 : Int32) (S : Stt) (H : Heap) (locs : List Loc) (ls : Array Slot), fl_X2_findBest_9 ke n b1 x3 S = some res → b1 < 5 → va_P D vwCl (wl 79 ad (cfC ad cI cP cB cA S)) H → va_S (Ar 79 ad) s.heap H locs → lv_has ls 4 [(0, .ref (ad 10)), (1, .ref (ad (34 + b1))), (2, .ref (ad 8)), (3, .int x3)] → W p l e (rmD 25) s m args below meth c H locs 0 0 (MQ below (QV D 79 ad (cfC ad cI cP cB cA res)) args s 0 0 (Ar 79 ad)) (F0 m 9 ls []) := by
  intro n
  induction n with
  | zero =>
    intro b1 x3 S H locs ls hf hb_1_0 hP hS hl
    cases hf
  | succ n ih =>
    intro b1 x3 S H locs ls hf hb_1_0 hP hS hl
    exact vb_X2_findBest_9 X hr hlk _ ke ih hke b1 x3 S H locs ls hf hb_1_0 hP hS hl
end
set_option maxHeartbeats 4000000 in
set_option maxRecDepth 100000 in
theorem m_X2_findBest {l : Launch} {D : va_G} {cI cP cB cA : ClassId} {ad : Nat → Nat} {tL tC : Nat} {b1 : Nat} (hb_1_0 : b1 < 5) {S : Stt} {res : Stt} (hf : f_X2_findBest b1 S = some res) : Ct l D cI cP cB cA 79 ad tL tC yX2_findBest cX2_findBest 4 none 25 [.ref (ad 10), .ref (ad (34 + b1)), .ref (ad 8)] (cfC ad cI cP cB cA S) (QV D 79 ad (cfC ad cI cP cB cA res)) := by
  refine ctOf (by decide) (Nat.le_of_ble_eq_true rfl) ?_
  intro p e s m args below meth c ls X hr hlk hP hl
  have hS : va_S (Ar 79 ad) s.heap s.heap [] := va_S.rf
  have hx := X.1.1
  have hb := X.1.2.1
  have hl : lv_has ls 4 [(0, .ref (ad 10)), (1, .ref (ad (34 + b1))), (2, .ref (ad 8))] := hl
  unfold f_X2_findBest at hf
  refine lv_aload_n hx hb dX2_findBest_0 rfl (lv_at hl 0 rfl) ?_
  refine lv_sipush (v := (193 : Int32)) hx hb dX2_findBest_1 (by decide) ?_
  refine p_Orders_least X hP hS  tw_58 dX2_findBest_4 (fun H locs hP hS => ?_)
  refine lv_iconst (v := (0 : Int32)) hx hb dX2_findBest_7 (by decide) ?_
  refine lv_istore_n (lv' := [(3, .int (0 : Int32)), (0, .ref (ad 10)), (1, .ref (ad (34 + b1))), (2, .ref (ad 8))]) hx hb dX2_findBest_8 rfl hl (by decide) rfl (fun ls hl => ?_)
  refine vl_X2_findBest_9 X hr hlk _ ?_ 300 _ _ _ _ _ ls hf hb_1_0 hP hS (lv_sub hl [1, 2, 3, 0] rfl)
  intro b1 S H locs ls hf hb_1_0 hP hS hl
  refine lv_aload_n hx hb dX2_findBest_34 rfl (lv_at hl 0 rfl) ?_
  refine lv_aload_n hx hb dX2_findBest_35 rfl (lv_at hl 1 rfl) ?_
  refine lv_aload_n hx hb dX2_findBest_36 rfl (lv_at hl 2 rfl) ?_
  refine lv_iconst (v := (0 : Int32)) hx hb dX2_findBest_37 (by decide) ?_
  refine lv_iconst (v := (0 : Int32)) hx hb dX2_findBest_38 (by decide) ?_
  obtain ⟨q3, e4, hf⟩ := bind_some hf
  refine aftV hS (cV (rest := []) X hP hS [.ref (ad (34 + b1)), .ref (ad 8), .int (0 : Int32), .int (0 : Int32)] (m_X2_tryDay 10 hb_1_0 e4) cw_X2_tryDay tw_255 tw_514 tw_674 (by decide) (cf_Orders ) rfl (fits9 (by first | decide | omega) (by decide)) rfl rfl hl.1 (Nat.le_of_ble_eq_true rfl) dX2_findBest_39 ⟨Nat.zero_le _, Nat.zero_le _⟩) (fun H locs hP hS => ?_)
  cases hf
  exact rtV X hr hlk hP hS dX2_findBest_42
/-! X7_best -/
section
variable {p : Program} {l : Launch} {e : Env} {s : State} {m : MethodId} {args : Array Value} {below : List Frame} {meth : Method} {c : Code}
variable {D : va_G} {cI cP cB cA : ClassId} {ad : Nat → Nat} {tL tC : Nat}
set_option maxHeartbeats 4000000 in
set_option maxRecDepth 100000 in
theorem vb_X7_best_70 (X : Cx D cI cP cB cA 79 ad tL tC p s m c cX7_best 3 args RX7) (hr : meth.sig.returnType = (some .int)) (hlk : meth.locks = false) {res : Int32 × Stt} (kb : Int32 → Int32 → Stt → Option (Int32 × Stt)) (ke : Stt → Option (Int32 × Stt)) (hkb : ∀ (x1 : Int32) (x2 : Int32) (S : Stt) (H : Heap) (locs : List Loc) (ls : Array Slot), kb x1 x2 S = some res → va_P D vwCl (wl 79 ad (cfC ad cI cP cB cA S)) H → va_S (Ar 79 ad) s.heap H locs → lv_has ls 3 [(0, .ref (ad 0)), (1, .int x1), (2, .int x2)] → W p l e (rmD 26) s m args below meth c H locs 0 0 (MQ below (QI D 79 ad res.1 (cfC ad cI cP cB cA res.2)) args s 0 0 (Ar 79 ad)) (F0 m 70 ls [])) (hke : ∀ (S : Stt) (H : Heap) (locs : List Loc) (ls : Array Slot), ke S = some res → va_P D vwCl (wl 79 ad (cfC ad cI cP cB cA S)) H → va_S (Ar 79 ad) s.heap H locs → lv_has ls 3 [(0, .ref (ad 0))] → W p l e (rmD 26) s m args below meth c H locs 0 0 (MQ below (QI D 79 ad res.1 (cfC ad cI cP cB cA res.2)) args s 0 0 (Ar 79 ad)) (F0 m 105 ls [])) : ∀ (x1 : Int32) (x2 : Int32) (S : Stt) (H : Heap) (locs : List Loc) (ls : Array Slot), fb_X7_best_70 kb ke x1 x2 S = some res → va_P D vwCl (wl 79 ad (cfC ad cI cP cB cA S)) H → va_S (Ar 79 ad) s.heap H locs → lv_has ls 3 [(0, .ref (ad 0)), (1, .int x1), (2, .int x2)] → W p l e (rmD 26) s m args below meth c H locs 0 0 (MQ below (QI D 79 ad res.1 (cfC ad cI cP cB cA res.2)) args s 0 0 (Ar 79 ad)) (F0 m 70 ls []) := by
  intro x1 x2 S H locs ls hf hP hS hl
  have hx := X.1.1
  have hb := X.1.2.1
  unfold fb_X7_best_70 at hf
  refine lv_iload_n hx hb dX7_best_70 rfl (lv_at hl 2 rfl) ?_
  refine lv_aload_n hx hb dX7_best_71 rfl (lv_at hl 0 rfl) ?_
  refine g_LP_book X hP  tw_62 dX7_best_72 ?_
  refine gN_Book_count X hP (by decide) tw_28 dX7_best_75 ?_
  refine lv_icmp_ge (tgt := 105) hx hb dX7_best_78 (by decide) (fun c11 => ?_) (fun c11 => ?_)
  · rw [if_pos c11] at hf
    exact hke  _ _ _ ls hf  hP hS (lv_sub hl [0] rfl)
  · rw [if_neg c11] at hf
    refine lv_aload_n hx hb dX7_best_81 rfl (lv_at hl 0 rfl) ?_
    refine g_LP_rows X hP  tw_60 dX7_best_82 ?_
    refine lv_iload_n hx hb dX7_best_85 rfl (lv_at hl 1 rfl) ?_
    refine lv_iload_n hx hb dX7_best_86 rfl (lv_at hl 2 rfl) ?_
    refine lv_aload_n hx hb dX7_best_87 rfl (lv_at hl 0 rfl) ?_
    refine g_LP_orders X hP  tw_68 dX7_best_88 ?_
    refine gN_Orders_best X hP  tw_57 dX7_best_91 ?_
    refine lv_iload_n hx hb dX7_best_94 rfl (lv_at hl 2 rfl) ?_
    obtain ⟨g12, hf⟩ := grd_some hf
    refine r_obest X hP  g12 dX7_best_95 ?_
    obtain ⟨q13, e14, hf⟩ := bind_some hf
    refine aftV hS (cV (rest := []) X hP hS [.int x1, .int x2, .int (S.1 51 0 x2.toNatClampNeg)] (m_X6_write (by decide) e14) cw_X6_write tw_132 tw_412 tw_700 (sh_lt (by decide)) (cf_Shelf (by decide)) rfl (fits9 (by first | decide | omega) (by decide)) rfl rfl hl.1 (Nat.le_of_ble_eq_true rfl) dX7_best_96 ⟨Nat.zero_le _, Nat.zero_le _⟩) (fun H locs hP hS => ?_)
    refine lv_iinc (v := (x2 + (1 : Int32))) (lv' := [(2, .int (x2 + (1 : Int32))), (0, .ref (ad 0)), (1, .int x1)]) hx hb dX7_best_99 hl (k := 2) rfl rfl (by decide) rfl (fun ls hl => ?_)
    refine lv_goto (tgt := 70) hx hb dX7_best_102 (by decide) ?_
    exact hkb _ _ _ _ _ ls hf  hP hS (lv_sub hl [1, 2, 0] rfl)
set_option maxHeartbeats 4000000 in
set_option maxRecDepth 100000 in
theorem vl_X7_best_70 (X : Cx D cI cP cB cA 79 ad tL tC p s m c cX7_best 3 args RX7) (hr : meth.sig.returnType = (some .int)) (hlk : meth.locks = false) {res : Int32 × Stt} (ke : Stt → Option (Int32 × Stt)) (hke : ∀ (S : Stt) (H : Heap) (locs : List Loc) (ls : Array Slot), ke S = some res → va_P D vwCl (wl 79 ad (cfC ad cI cP cB cA S)) H → va_S (Ar 79 ad) s.heap H locs → lv_has ls 3 [(0, .ref (ad 0))] → W p l e (rmD 26) s m args below meth c H locs 0 0 (MQ below (QI D 79 ad res.1 (cfC ad cI cP cB cA res.2)) args s 0 0 (Ar 79 ad)) (F0 m 105 ls [])) : ∀ (n : Nat), ∀ (x1 : Int32) (x2 : Int32) (S : Stt) (H : Heap) (locs : List Loc) (ls : Array Slot), fl_X7_best_70 ke n x1 x2 S = some res → va_P D vwCl (wl 79 ad (cfC ad cI cP cB cA S)) H → va_S (Ar 79 ad) s.heap H locs → lv_has ls 3 [(0, .ref (ad 0)), (1, .int x1), (2, .int x2)] → W p l e (rmD 26) s m args below meth c H locs 0 0 (MQ below (QI D 79 ad res.1 (cfC ad cI cP cB cA res.2)) args s 0 0 (Ar 79 ad)) (F0 m 70 ls []) := by
  intro n
  induction n with
  | zero =>
    intro x1 x2 S H locs ls hf hP hS hl
    cases hf
  | succ n ih =>
    intro x1 x2 S H locs ls hf hP hS hl
    exact vb_X7_best_70 X hr hlk _ ke ih hke x1 x2 S H locs ls hf  hP hS hl
end
set_option maxHeartbeats 4000000 in
set_option maxRecDepth 100000 in
theorem m_X7_best {l : Launch} {D : va_G} {cI cP cB cA : ClassId} {ad : Nat → Nat} {tL tC : Nat} {x1 : Int32} {S : Stt} {res : Int32 × Stt} (hf : f_X7_best x1 S = some res) : Ct l D cI cP cB cA 79 ad tL tC yX7_best cX7_best 3 (some .int) 26 [.ref (ad 0), .int x1] (cfC ad cI cP cB cA S) (QI D 79 ad res.1 (cfC ad cI cP cB cA res.2)) := by
  refine ctOf (by decide) (Nat.le_of_ble_eq_true rfl) ?_
  intro p e s m args below meth c ls X hr hlk hP hl
  have hS : va_S (Ar 79 ad) s.heap s.heap [] := va_S.rf
  have hx := X.1.1
  have hb := X.1.2.1
  have hl : lv_has ls 3 [(0, .ref (ad 0)), (1, .int x1)] := hl
  unfold f_X7_best at hf
  refine lv_aload_n hx hb dX7_best_0 rfl (lv_at hl 0 rfl) ?_
  refine g_LP_rows X hP  tw_60 dX7_best_1 ?_
  refine lv_iload_n hx hb dX7_best_4 rfl (lv_at hl 1 rfl) ?_
  obtain ⟨q1, e2, hf⟩ := bind_some hf
  refine aftI hS (cV (rest := []) X hP hS [.int x1] (m_X6_isOne (by decide) e2) cw_X6_isOne tw_125 tw_405 tw_694 (sh_lt (by decide)) (cf_Shelf (by decide)) rfl (fits9 (by first | decide | omega) (by decide)) rfl rfl hl.1 (Nat.le_of_ble_eq_true rfl) dX7_best_5 ⟨Nat.zero_le _, Nat.zero_le _⟩) (fun H locs hP hS => ?_)
  refine lv_if_ne (tgt := 13) hx hb dX7_best_8 (by decide) (fun c3 => ?_) (fun c3 => ?_)
  · rw [if_neg c3] at hf
    refine lv_aload_n hx hb dX7_best_13 rfl (lv_at hl 0 rfl) ?_
    refine g_LP_book X hP  tw_62 dX7_best_14 ?_
    refine gN_Book_count X hP (by decide) tw_28 dX7_best_17 ?_
    refine lv_if_ne (tgt := 26) hx hb dX7_best_20 (by decide) (fun c4 => ?_) (fun c4 => ?_)
    · rw [if_neg c4] at hf
      refine lv_aload_n hx hb dX7_best_26 rfl (lv_at hl 0 rfl) ?_
      refine g_LP_trial X hP  tw_63 dX7_best_27 ?_
      refine lv_aload_n hx hb dX7_best_30 rfl (lv_at hl 0 rfl) ?_
      refine g_LP_book X hP  tw_62 dX7_best_31 ?_
      obtain ⟨q5, e6, hf⟩ := bind_some hf
      refine aftV hS (cV (rest := []) X hP hS [.ref (ad (34 + 0))] (m_X0_become (by decide) (by decide) e6) cw_X0_become tw_164 tw_446 tw_646 (bk_lt (by decide)) (cf_Book (by decide)) rfl (fits9 (by first | decide | omega) (by decide)) rfl rfl hl.1 (Nat.le_of_ble_eq_true rfl) dX7_best_34 ⟨Nat.zero_le _, Nat.zero_le _⟩) (fun H locs hP hS => ?_)
      refine lv_aload_n hx hb dX7_best_37 rfl (lv_at hl 0 rfl) ?_
      refine g_LP_orders X hP  tw_68 dX7_best_38 ?_
      refine lv_aload_n hx hb dX7_best_41 rfl (lv_at hl 0 rfl) ?_
      refine g_LP_trial X hP  tw_63 dX7_best_42 ?_
      refine lv_aload_n hx hb dX7_best_45 rfl (lv_at hl 0 rfl) ?_
      refine g_LP_court X hP  tw_66 dX7_best_46 ?_
      obtain ⟨q7, e8, hf⟩ := bind_some hf
      refine aftV hS (cV (rest := []) X hP hS [.ref (ad (34 + 1)), .ref (ad 8)] (m_X2_findBest (by decide) e8) cw_X2_findBest tw_254 tw_513 tw_673 (by decide) (cf_Orders ) rfl (fits9 (by first | decide | omega) (by decide)) rfl rfl hl.1 (Nat.le_of_ble_eq_true rfl) dX7_best_49 ⟨Nat.zero_le _, Nat.zero_le _⟩) (fun H locs hP hS => ?_)
      refine lv_aload_n hx hb dX7_best_52 rfl (lv_at hl 0 rfl) ?_
      refine g_LP_rows X hP  tw_60 dX7_best_53 ?_
      refine lv_iload_n hx hb dX7_best_56 rfl (lv_at hl 1 rfl) ?_
      refine lv_aload_n hx hb dX7_best_57 rfl (lv_at hl 0 rfl) ?_
      refine g_LP_book X hP  tw_62 dX7_best_58 ?_
      refine gN_Book_count X hP (by decide) tw_28 dX7_best_61 ?_
      refine lv_iconst (v := (0 : Int32)) hx hb dX7_best_64 (by decide) ?_
      obtain ⟨q9, e10, hf⟩ := bind_some hf
      refine aftV hS (cV (rest := []) X hP hS [.int x1, .int (q7.1 17 0 0), .int (0 : Int32)] (m_X6_make (by decide) e10) cw_X6_make tw_127 tw_407 tw_701 (sh_lt (by decide)) (cf_Shelf (by decide)) rfl (fits9 (by first | decide | omega) (by decide)) rfl rfl hl.1 (Nat.le_of_ble_eq_true rfl) dX7_best_65 ⟨Nat.zero_le _, Nat.zero_le _⟩) (fun H locs hP hS => ?_)
      refine lv_iconst (v := (0 : Int32)) hx hb dX7_best_68 (by decide) ?_
      refine lv_istore_n (lv' := [(2, .int (0 : Int32)), (0, .ref (ad 0)), (1, .int x1)]) hx hb dX7_best_69 rfl hl (by decide) rfl (fun ls hl => ?_)
      refine vl_X7_best_70 X hr hlk _ ?_ 300 _ _ _ _ _ ls hf  hP hS (lv_sub hl [1, 2, 0] rfl)
      intro S H locs ls hf hP hS hl
      refine lv_aload_n hx hb dX7_best_105 rfl (lv_at hl 0 rfl) ?_
      refine g_LP_orders X hP  tw_68 dX7_best_106 ?_
      refine gN_Orders_least X hP  tw_59 dX7_best_109 ?_
      cases hf
      exact rtI X hr hlk hP hS dX7_best_112
    · rw [if_pos c4] at hf
      refine lv_bipush (v := (-4 : Int32)) hx hb dX7_best_23 (by decide) ?_
      cases hf
      exact rtI X hr hlk hP hS dX7_best_25
  · rw [if_pos c3] at hf
    refine lv_iconst (v := (-1 : Int32)) hx hb dX7_best_11 (by decide) ?_
    cases hf
    exact rtI X hr hlk hP hS dX7_best_12
