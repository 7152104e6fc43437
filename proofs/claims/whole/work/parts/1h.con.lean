/-! X7_add -/
section
variable {p : Program} {l : Launch} {e : Env} {s : State} {m : MethodId} {args : Array Value} {below : List Frame} {meth : Method} {c : Code}
variable {D : va_G} {cI cP cB cA : ClassId} {ad : Nat → Nat} {tL tC : Nat}
end
set_option maxHeartbeats 4000000 in
set_option maxRecDepth 100000 in
theorem m_X7_add {l : Launch} {D : va_G} {cI cP cB cA : ClassId} {ad : Nat → Nat} {tL tC : Nat} {x1 : Int32} {x2 : Int32} {S : Stt} {res : Int32 × Stt} (hf : f_X7_add x1 x2 S = some res) : Ct l D cI cP cB cA 79 ad tL tC yX7_add cX7_add 3 (some .int) 5 [.ref (ad 0), .int x1, .int x2] (cfC ad cI cP cB cA S) (QI D 79 ad res.1 (cfC ad cI cP cB cA res.2)) := by
  refine ctOf (by decide) (Nat.le_of_ble_eq_true rfl) ?_
  intro p e s m args below meth c ls X hr hlk hP hl
  have hS : va_S (Ar 79 ad) s.heap s.heap [] := va_S.rf
  have hx := X.1.1
  have hb := X.1.2.1
  have hl : lv_has ls 3 [(0, .ref (ad 0)), (1, .int x1), (2, .int x2)] := hl
  unfold f_X7_add at hf
  refine lv_iload_n hx hb dX7_add_0 rfl (lv_at hl 1 rfl) ?_
  obtain ⟨q1, e2, hf⟩ := bind_some hf
  refine aftI hS (cS (rest := []) X hP hS [.int x1] (m_X7_isVerdict  e2) cw_X7_isVerdict tw_181 tw_457 (fits9 (by first | decide | omega) (by decide)) rfl rfl hl.1 (Nat.le_of_ble_eq_true rfl) dX7_add_1 ⟨Nat.zero_le _, Nat.zero_le _⟩) (fun H locs hP hS => ?_)
  refine lv_if_eq (tgt := 17) hx hb dX7_add_4 (by decide) (fun c3 => ?_) (fun c3 => ?_)
  · rw [if_pos c3] at hf
    refine lv_iconst (v := (-1 : Int32)) hx hb dX7_add_17 (by decide) ?_
    cases hf
    exact rtI X hr hlk hP hS dX7_add_18
  · rw [if_neg c3] at hf
    refine lv_iload_n hx hb dX7_add_7 rfl (lv_at hl 2 rfl) ?_
    refine lv_if_lt (tgt := 17) hx hb dX7_add_8 (by decide) (fun c4 => ?_) (fun c4 => ?_)
    · rw [if_pos c4] at hf
      refine lv_iconst (v := (-1 : Int32)) hx hb dX7_add_17 (by decide) ?_
      cases hf
      exact rtI X hr hlk hP hS dX7_add_18
    · rw [if_neg c4] at hf
      refine lv_iload_n hx hb dX7_add_11 rfl (lv_at hl 2 rfl) ?_
      refine lv_bipush (v := (127 : Int32)) hx hb dX7_add_12 (by decide) ?_
      refine lv_icmp_le (tgt := 19) hx hb dX7_add_14 (by decide) (fun c5 => ?_) (fun c5 => ?_)
      · rw [if_pos c5] at hf
        refine lv_aload_n hx hb dX7_add_19 rfl (lv_at hl 0 rfl) ?_
        refine g_LP_book X hP  tw_62 dX7_add_20 ?_
        refine gN_Book_count X hP (by decide) tw_28 dX7_add_23 ?_
        refine lv_bipush (v := (6 : Int32)) hx hb dX7_add_26 (by decide) ?_
        refine lv_icmp_ne (tgt := 34) hx hb dX7_add_28 (by decide) (fun c6 => ?_) (fun c6 => ?_)
        · rw [if_neg c6] at hf
          refine lv_aload_n hx hb dX7_add_34 rfl (lv_at hl 0 rfl) ?_
          refine g_LP_book X hP  tw_62 dX7_add_35 ?_
          refine lv_iconst (v := (0 : Int32)) hx hb dX7_add_38 (by decide) ?_
          refine lv_bipush (v := (-9 : Int32)) hx hb dX7_add_39 (by decide) ?_
          refine lv_iload_n hx hb dX7_add_41 rfl (lv_at hl 1 rfl) ?_
          refine lv_iload_n hx hb dX7_add_42 rfl (lv_at hl 2 rfl) ?_
          refine lv_bipush (v := (-9 : Int32)) hx hb dX7_add_43 (by decide) ?_
          obtain ⟨q7, e8, hf⟩ := bind_some hf
          refine aftV hS (cV (rest := []) X hP hS [.int (0 : Int32), .int (-9 : Int32), .int x1, .int x2, .int (-9 : Int32)] (m_X0_append (by decide) e8) cw_X0_append tw_187 tw_433 tw_647 (bk_lt (by decide)) (cf_Book (by decide)) rfl (fits9 (by first | decide | omega) (by decide)) rfl rfl hl.1 (Nat.le_of_ble_eq_true rfl) dX7_add_45 ⟨Nat.zero_le _, Nat.zero_le _⟩) (fun H locs hP hS => ?_)
          refine lv_aload_n hx hb dX7_add_48 rfl (lv_at hl 0 rfl) ?_
          refine g_LP_book X hP  tw_62 dX7_add_49 ?_
          refine gN_Book_count X hP (by decide) tw_28 dX7_add_52 ?_
          refine lv_iconst (v := (1 : Int32)) hx hb dX7_add_55 (by decide) ?_
          refine lv_isub hx hb dX7_add_56 ?_
          cases hf
          exact rtI X hr hlk hP hS dX7_add_57
        · rw [if_pos c6] at hf
          refine lv_bipush (v := (-2 : Int32)) hx hb dX7_add_31 (by decide) ?_
          cases hf
          exact rtI X hr hlk hP hS dX7_add_33
      · rw [if_neg c5] at hf
        refine lv_iconst (v := (-1 : Int32)) hx hb dX7_add_17 (by decide) ?_
        cases hf
        exact rtI X hr hlk hP hS dX7_add_18
/-! X7_bitIfKind -/
section
variable {p : Program} {l : Launch} {e : Env} {s : State} {m : MethodId} {args : Array Value} {below : List Frame} {meth : Method} {c : Code}
variable {D : va_G} {cI cP cB cA : ClassId} {ad : Nat → Nat} {tL tC : Nat}
end
set_option maxHeartbeats 4000000 in
set_option maxRecDepth 100000 in
theorem m_X7_bitIfKind {l : Launch} {D : va_G} {cI cP cB cA : ClassId} {ad : Nat → Nat} {tL tC : Nat} {x1 : Int32} {x2 : Int32} {x3 : Int32} {x4 : Int32} {x5 : Int32} {S : Stt} {res : Int32 × Stt} (hf : f_X7_bitIfKind x1 x2 x3 x4 x5 S = some res) : Ct l D cI cP cB cA 79 ad tL tC yX7_bitIfKind cX7_bitIfKind 6 (some .int) 5 [.ref (ad 0), .int x1, .int x2, .int x3, .int x4, .int x5] (cfC ad cI cP cB cA S) (QI D 79 ad res.1 (cfC ad cI cP cB cA res.2)) := by
  refine ctOf (by decide) (Nat.le_of_ble_eq_true rfl) ?_
  intro p e s m args below meth c ls X hr hlk hP hl
  have hS : va_S (Ar 79 ad) s.heap s.heap [] := va_S.rf
  have hx := X.1.1
  have hb := X.1.2.1
  have hl : lv_has ls 6 [(0, .ref (ad 0)), (1, .int x1), (2, .int x2), (3, .int x3), (4, .int x4), (5, .int x5)] := hl
  unfold f_X7_bitIfKind at hf
  refine lv_aload_n hx hb dX7_bitIfKind_0 rfl (lv_at hl 0 rfl) ?_
  refine g_LP_trial X hP  tw_63 dX7_bitIfKind_1 ?_
  refine lv_aload_n hx hb dX7_bitIfKind_4 rfl (lv_at hl 0 rfl) ?_
  refine g_LP_book X hP  tw_62 dX7_bitIfKind_5 ?_
  obtain ⟨q1, e2, hf⟩ := bind_some hf
  refine aftV hS (cV (rest := []) X hP hS [.ref (ad (34 + 0))] (m_X0_become (by decide) (by decide) e2) cw_X0_become tw_164 tw_446 tw_646 (bk_lt (by decide)) (cf_Book (by decide)) rfl (fits9 (by first | decide | omega) (by decide)) rfl rfl hl.1 (Nat.le_of_ble_eq_true rfl) dX7_bitIfKind_8 ⟨Nat.zero_le _, Nat.zero_le _⟩) (fun H locs hP hS => ?_)
  refine lv_aload_n hx hb dX7_bitIfKind_11 rfl (lv_at hl 0 rfl) ?_
  refine g_LP_trial X hP  tw_63 dX7_bitIfKind_12 ?_
  refine lv_iload_n hx hb dX7_bitIfKind_15 rfl (lv_at hl 2 rfl) ?_
  refine lv_iload_n hx hb dX7_bitIfKind_16 rfl (lv_at hl 1 rfl) ?_
  obtain ⟨q3, e4, hf⟩ := bind_some hf
  refine aftV hS (cV (rest := []) X hP hS [.int x2, .int x1] (m_X0_changeKind (by decide) e4) cw_X0_changeKind tw_269 tw_511 tw_649 (bk_lt (by decide)) (cf_Book (by decide)) rfl (fits9 (by first | decide | omega) (by decide)) rfl rfl hl.1 (Nat.le_of_ble_eq_true rfl) dX7_bitIfKind_17 ⟨Nat.zero_le _, Nat.zero_le _⟩) (fun H locs hP hS => ?_)
  refine lv_aload_n hx hb dX7_bitIfKind_20 rfl (lv_at hl 0 rfl) ?_
  refine g_LP_court X hP  tw_66 dX7_bitIfKind_21 ?_
  refine lv_aload_n hx hb dX7_bitIfKind_24 rfl (lv_at hl 0 rfl) ?_
  refine g_LP_trial X hP  tw_63 dX7_bitIfKind_25 ?_
  refine lv_iload hx hb dX7_bitIfKind_28 (lv_at hl 4 rfl) ?_
  obtain ⟨q5, e6, hf⟩ := bind_some hf
  refine aftV hS (cV (rest := []) X hP hS [.ref (ad (34 + 1)), .int x4] (m_X1_hear (by decide) e6) cw_X1_hear tw_205 tw_477 tw_665 (by decide) (cf_Court ) rfl (fits9 (by first | decide | omega) (by decide)) rfl rfl hl.1 (Nat.le_of_ble_eq_true rfl) dX7_bitIfKind_30 ⟨Nat.zero_le _, Nat.zero_le _⟩) (fun H locs hP hS => ?_)
  refine lv_aload_n hx hb dX7_bitIfKind_33 rfl (lv_at hl 0 rfl) ?_
  refine g_LP_court X hP  tw_66 dX7_bitIfKind_34 ?_
  refine lv_iload_n hx hb dX7_bitIfKind_37 rfl (lv_at hl 3 rfl) ?_
  obtain ⟨q7, e8, hf⟩ := bind_some hf
  refine aftI hS (cV (rest := []) X hP hS [.int x3] (m_X1_stateOf  e8) cw_X1_stateOf tw_213 tw_482 tw_669 (by decide) (cf_Court ) rfl (fits9 (by first | decide | omega) (by decide)) rfl rfl hl.1 (Nat.le_of_ble_eq_true rfl) dX7_bitIfKind_38 ⟨Nat.zero_le _, Nat.zero_le _⟩) (fun H locs hP hS => ?_)
  refine lv_iload hx hb dX7_bitIfKind_41 (lv_at hl 5 rfl) ?_
  refine lv_icmp_ne (tgt := 52) hx hb dX7_bitIfKind_43 (by decide) (fun c9 => ?_) (fun c9 => ?_)
  · rw [if_neg c9] at hf
    refine lv_iconst (v := (0 : Int32)) hx hb dX7_bitIfKind_52 (by decide) ?_
    cases hf
    exact rtI X hr hlk hP hS dX7_bitIfKind_53
  · rw [if_pos c9] at hf
    refine lv_iconst (v := (1 : Int32)) hx hb dX7_bitIfKind_46 (by decide) ?_
    refine lv_iload_n hx hb dX7_bitIfKind_47 rfl (lv_at hl 1 rfl) ?_
    refine lv_ishl hx hb dX7_bitIfKind_48 ?_
    refine lv_goto (tgt := 53) hx hb dX7_bitIfKind_49 (by decide) ?_
    cases hf
    exact rtI X hr hlk hP hS dX7_bitIfKind_53
/-! X7_free -/
section
variable {p : Program} {l : Launch} {e : Env} {s : State} {m : MethodId} {args : Array Value} {below : List Frame} {meth : Method} {c : Code}
variable {D : va_G} {cI cP cB cA : ClassId} {ad : Nat → Nat} {tL tC : Nat}
set_option maxHeartbeats 4000000 in
set_option maxRecDepth 100000 in
theorem vb_X7_free_18 (X : Cx D cI cP cB cA 79 ad tL tC p s m c cX7_free 4 args RX7) (hr : meth.sig.returnType = (some .int)) (hlk : meth.locks = false) {res : Int32 × Stt} (kb : Int32 → Int32 → Stt → Option (Int32 × Stt)) (ke : Stt → Option (Int32 × Stt)) (hkb : ∀ (x1 : Int32) (x3 : Int32) (S : Stt) (H : Heap) (locs : List Loc) (ls : Array Slot), kb x1 x3 S = some res → va_P D vwCl (wl 79 ad (cfC ad cI cP cB cA S)) H → va_S (Ar 79 ad) s.heap H locs → lv_has ls 4 [(0, .ref (ad 0)), (1, .int x1), (3, .int x3)] → W p l e (rmD 5) s m args below meth c H locs 0 0 (MQ below (QI D 79 ad res.1 (cfC ad cI cP cB cA res.2)) args s 0 0 (Ar 79 ad)) (F0 m 18 ls [])) (hke : ∀ (S : Stt) (H : Heap) (locs : List Loc) (ls : Array Slot), ke S = some res → va_P D vwCl (wl 79 ad (cfC ad cI cP cB cA S)) H → va_S (Ar 79 ad) s.heap H locs → lv_has ls 4 [] → W p l e (rmD 5) s m args below meth c H locs 0 0 (MQ below (QI D 79 ad res.1 (cfC ad cI cP cB cA res.2)) args s 0 0 (Ar 79 ad)) (F0 m 55 ls [])) : ∀ (x1 : Int32) (x3 : Int32) (S : Stt) (H : Heap) (locs : List Loc) (ls : Array Slot), fb_X7_free_18 kb ke x1 x3 S = some res → va_P D vwCl (wl 79 ad (cfC ad cI cP cB cA S)) H → va_S (Ar 79 ad) s.heap H locs → lv_has ls 4 [(0, .ref (ad 0)), (1, .int x1), (3, .int x3)] → W p l e (rmD 5) s m args below meth c H locs 0 0 (MQ below (QI D 79 ad res.1 (cfC ad cI cP cB cA res.2)) args s 0 0 (Ar 79 ad)) (F0 m 18 ls []) := by
  intro x1 x3 S H locs ls hf hP hS hl
  have hx := X.1.1
  have hb := X.1.2.1
  unfold fb_X7_free_18 at hf
  refine lv_iload_n hx hb dX7_free_18 rfl (lv_at hl 2 rfl) ?_
  refine lv_bipush (v := (20 : Int32)) hx hb dX7_free_19 (by decide) ?_
  refine lv_icmp_gt (tgt := 55) hx hb dX7_free_21 (by decide) (fun c7 => ?_) (fun c7 => ?_)
  · rw [if_pos c7] at hf
    exact hke  _ _ _ ls hf  hP hS (lv_sub hl [] rfl)
  · rw [if_neg c7] at hf
    refine lv_aload_n hx hb dX7_free_24 rfl (lv_at hl 0 rfl) ?_
    refine g_LP_court X hP  tw_66 dX7_free_25 ?_
    refine lv_aload_n hx hb dX7_free_28 rfl (lv_at hl 0 rfl) ?_
    refine g_LP_book X hP  tw_62 dX7_free_29 ?_
    refine lv_iload_n hx hb dX7_free_32 rfl (lv_at hl 2 rfl) ?_
    obtain ⟨q8, e9, hf⟩ := bind_some hf
    refine aftV hS (cV (rest := []) X hP hS [.ref (ad (34 + 0)), .int x3] (m_X1_hear (by decide) e9) cw_X1_hear tw_205 tw_477 tw_665 (by decide) (cf_Court ) rfl (fits9 (by first | decide | omega) (by decide)) rfl rfl hl.1 (Nat.le_of_ble_eq_true rfl) dX7_free_33 ⟨Nat.zero_le _, Nat.zero_le _⟩) (fun H locs hP hS => ?_)
    refine lv_aload_n hx hb dX7_free_36 rfl (lv_at hl 0 rfl) ?_
    refine g_LP_court X hP  tw_66 dX7_free_37 ?_
    refine lv_iload_n hx hb dX7_free_40 rfl (lv_at hl 1 rfl) ?_
    obtain ⟨q10, e11, hf⟩ := bind_some hf
    refine aftI hS (cV (rest := []) X hP hS [.int x1] (m_X1_stateOf  e11) cw_X1_stateOf tw_213 tw_482 tw_669 (by decide) (cf_Court ) rfl (fits9 (by first | decide | omega) (by decide)) rfl rfl hl.1 (Nat.le_of_ble_eq_true rfl) dX7_free_41 ⟨Nat.zero_le _, Nat.zero_le _⟩) (fun H locs hP hS => ?_)
    refine lv_if_ne (tgt := 49) hx hb dX7_free_44 (by decide) (fun c12 => ?_) (fun c12 => ?_)
    · rw [if_neg c12] at hf
      refine lv_iinc (v := (x3 + (1 : Int32))) (lv' := [(3, .int (x3 + (1 : Int32))), (0, .ref (ad 0)), (1, .int x1)]) hx hb dX7_free_49 hl (k := 2) rfl rfl (by decide) rfl (fun ls hl => ?_)
      refine lv_goto (tgt := 18) hx hb dX7_free_52 (by decide) ?_
      exact hkb _ _ _ _ _ ls hf  hP hS (lv_sub hl [1, 2, 0] rfl)
    · rw [if_pos c12] at hf
      refine lv_iload_n hx hb dX7_free_47 rfl (lv_at hl 2 rfl) ?_
      cases hf
      exact rtI X hr hlk hP hS dX7_free_48
set_option maxHeartbeats 4000000 in
set_option maxRecDepth 100000 in
theorem vl_X7_free_18 (X : Cx D cI cP cB cA 79 ad tL tC p s m c cX7_free 4 args RX7) (hr : meth.sig.returnType = (some .int)) (hlk : meth.locks = false) {res : Int32 × Stt} (ke : Stt → Option (Int32 × Stt)) (hke : ∀ (S : Stt) (H : Heap) (locs : List Loc) (ls : Array Slot), ke S = some res → va_P D vwCl (wl 79 ad (cfC ad cI cP cB cA S)) H → va_S (Ar 79 ad) s.heap H locs → lv_has ls 4 [] → W p l e (rmD 5) s m args below meth c H locs 0 0 (MQ below (QI D 79 ad res.1 (cfC ad cI cP cB cA res.2)) args s 0 0 (Ar 79 ad)) (F0 m 55 ls [])) : ∀ (n : Nat), ∀ (x1 : Int32) (x3 : Int32) (S : Stt) (H : Heap) (locs : List Loc) (ls : Array Slot), fl_X7_free_18 ke n x1 x3 S = some res → va_P D vwCl (wl 79 ad (cfC ad cI cP cB cA S)) H → va_S (Ar 79 ad) s.heap H locs → lv_has ls 4 [(0, .ref (ad 0)), (1, .int x1), (3, .int x3)] → W p l e (rmD 5) s m args below meth c H locs 0 0 (MQ below (QI D 79 ad res.1 (cfC ad cI cP cB cA res.2)) args s 0 0 (Ar 79 ad)) (F0 m 18 ls []) := by
  intro n
  induction n with
  | zero =>
    intro x1 x3 S H locs ls hf hP hS hl
    cases hf
  | succ n ih =>
    intro x1 x3 S H locs ls hf hP hS hl
    exact vb_X7_free_18 X hr hlk _ ke ih hke x1 x3 S H locs ls hf  hP hS hl
end
set_option maxHeartbeats 4000000 in
set_option maxRecDepth 100000 in
theorem m_X7_free {l : Launch} {D : va_G} {cI cP cB cA : ClassId} {ad : Nat → Nat} {tL tC : Nat} {x1 : Int32} {x2 : Int32} {S : Stt} {res : Int32 × Stt} (hf : f_X7_free x1 x2 S = some res) : Ct l D cI cP cB cA 79 ad tL tC yX7_free cX7_free 4 (some .int) 5 [.ref (ad 0), .int x1, .int x2] (cfC ad cI cP cB cA S) (QI D 79 ad res.1 (cfC ad cI cP cB cA res.2)) := by
  refine ctOf (by decide) (Nat.le_of_ble_eq_true rfl) ?_
  intro p e s m args below meth c ls X hr hlk hP hl
  have hS : va_S (Ar 79 ad) s.heap s.heap [] := va_S.rf
  have hx := X.1.1
  have hb := X.1.2.1
  have hl : lv_has ls 4 [(0, .ref (ad 0)), (1, .int x1), (2, .int x2)] := hl
  unfold f_X7_free at hf
  refine lv_iload_n hx hb dX7_free_0 rfl (lv_at hl 1 rfl) ?_
  obtain ⟨q1, e2, hf⟩ := bind_some hf
  refine aftI hS (cS (rest := []) X hP hS [.int x1] (m_X7_isCase  e2) cw_X7_isCase tw_204 tw_476 (fits9 (by first | decide | omega) (by decide)) rfl rfl hl.1 (Nat.le_of_ble_eq_true rfl) dX7_free_1 ⟨Nat.zero_le _, Nat.zero_le _⟩) (fun H locs hP hS => ?_)
  refine lv_if_eq (tgt := 14) hx hb dX7_free_4 (by decide) (fun c3 => ?_) (fun c3 => ?_)
  · rw [if_pos c3] at hf
    refine lv_iconst (v := (-1 : Int32)) hx hb dX7_free_14 (by decide) ?_
    cases hf
    exact rtI X hr hlk hP hS dX7_free_15
  · rw [if_neg c3] at hf
    refine lv_iload_n hx hb dX7_free_7 rfl (lv_at hl 2 rfl) ?_
    obtain ⟨q4, e5, hf⟩ := bind_some hf
    refine aftI hS (cS (rest := []) X hP hS [.int x2] (m_X7_isDay  e5) cw_X7_isDay tw_194 tw_468 (fits9 (by first | decide | omega) (by decide)) rfl rfl hl.1 (Nat.le_of_ble_eq_true rfl) dX7_free_8 ⟨Nat.zero_le _, Nat.zero_le _⟩) (fun H locs hP hS => ?_)
    refine lv_if_ne (tgt := 16) hx hb dX7_free_11 (by decide) (fun c6 => ?_) (fun c6 => ?_)
    · rw [if_neg c6] at hf
      refine lv_iload_n hx hb dX7_free_16 rfl (lv_at hl 2 rfl) ?_
      refine lv_istore_n (lv' := [(3, .int x2), (0, .ref (ad 0)), (1, .int x1), (2, .int x2)]) hx hb dX7_free_17 rfl hl (by decide) rfl (fun ls hl => ?_)
      refine vl_X7_free_18 X hr hlk _ ?_ 300 _ _ _ _ _ ls hf  hP hS (lv_sub hl [1, 2, 0] rfl)
      intro S H locs ls hf hP hS hl
      refine lv_bipush (v := (-9 : Int32)) hx hb dX7_free_55 (by decide) ?_
      cases hf
      exact rtI X hr hlk hP hS dX7_free_57
    · rw [if_pos c6] at hf
      refine lv_iconst (v := (-1 : Int32)) hx hb dX7_free_14 (by decide) ?_
      cases hf
      exact rtI X hr hlk hP hS dX7_free_15
/-! X7_lots -/
section
variable {p : Program} {l : Launch} {e : Env} {s : State} {m : MethodId} {args : Array Value} {below : List Frame} {meth : Method} {c : Code}
variable {D : va_G} {cI cP cB cA : ClassId} {ad : Nat → Nat} {tL tC : Nat}
set_option maxHeartbeats 4000000 in
set_option maxRecDepth 100000 in
theorem vb_X7_lots_34 (X : Cx D cI cP cB cA 79 ad tL tC p s m c cX7_lots 7 args RX7) (hr : meth.sig.returnType = (some .int)) (hlk : meth.locks = false) {res : Int32 × Stt} (kb : Int32 → Int32 → Int64 → Int32 → Stt → Option (Int32 × Stt)) (ke : Int32 → Stt → Option (Int32 × Stt)) (hkb : ∀ (x1 : Int32) (x3 : Int32) (y4 : Int64) (x6 : Int32) (S : Stt) (H : Heap) (locs : List Loc) (ls : Array Slot), kb x1 x3 y4 x6 S = some res → va_P D vwCl (wl 79 ad (cfC ad cI cP cB cA S)) H → va_S (Ar 79 ad) s.heap H locs → lv_has ls 7 [(0, .ref (ad 0)), (1, .int x1), (3, .int x3), (4, .long y4), (6, .int x6)] → W p l e (rmD 5) s m args below meth c H locs 0 0 (MQ below (QI D 79 ad res.1 (cfC ad cI cP cB cA res.2)) args s 0 0 (Ar 79 ad)) (F0 m 34 ls [])) (hke : ∀ (x3 : Int32) (S : Stt) (H : Heap) (locs : List Loc) (ls : Array Slot), ke x3 S = some res → va_P D vwCl (wl 79 ad (cfC ad cI cP cB cA S)) H → va_S (Ar 79 ad) s.heap H locs → lv_has ls 7 [(3, .int x3)] → W p l e (rmD 5) s m args below meth c H locs 0 0 (MQ below (QI D 79 ad res.1 (cfC ad cI cP cB cA res.2)) args s 0 0 (Ar 79 ad)) (F0 m 103 ls [])) : ∀ (x1 : Int32) (x3 : Int32) (y4 : Int64) (x6 : Int32) (S : Stt) (H : Heap) (locs : List Loc) (ls : Array Slot), fb_X7_lots_34 kb ke x1 x3 y4 x6 S = some res → va_P D vwCl (wl 79 ad (cfC ad cI cP cB cA S)) H → va_S (Ar 79 ad) s.heap H locs → lv_has ls 7 [(0, .ref (ad 0)), (1, .int x1), (3, .int x3), (4, .long y4), (6, .int x6)] → W p l e (rmD 5) s m args below meth c H locs 0 0 (MQ below (QI D 79 ad res.1 (cfC ad cI cP cB cA res.2)) args s 0 0 (Ar 79 ad)) (F0 m 34 ls []) := by
  intro x1 x3 y4 x6 S H locs ls hf hP hS hl
  have hx := X.1.1
  have hb := X.1.2.1
  unfold fb_X7_lots_34 at hf
  refine lv_iload hx hb dX7_lots_34 (lv_at hl 4 rfl) ?_
  refine lv_iload_n hx hb dX7_lots_36 rfl (lv_at hl 1 rfl) ?_
  refine lv_icmp_ge (tgt := 103) hx hb dX7_lots_37 (by decide) (fun c5 => ?_) (fun c5 => ?_)
  · rw [if_pos c5] at hf
    exact hke _ _ _ _ ls hf  hP hS (lv_sub hl [2] rfl)
  · rw [if_neg c5] at hf
    refine lv_ldc2 (v := (48271 : Int64)) hx hb X.1.2.2.2.1 (X.1.2.2.2.2 _ tw_525) dX7_lots_40 ?_
    refine lv_lload hx hb dX7_lots_43 (lv_at hl 3 rfl) ?_
    refine lv_lmul hx hb dX7_lots_45 ?_
    refine lv_ldc2 (v := (2147483647 : Int64)) hx hb X.1.2.2.2.1 (X.1.2.2.2.2 _ tw_526) dX7_lots_46 ?_
    refine lv_lrem hx hb dX7_lots_49 (by decide) ?_
    refine lv_lstore (lv' := [(4, .long (((48271 : Int64) * y4) - ((48271 : Int64) * y4) / (2147483647 : Int64) * (2147483647 : Int64))), (0, .ref (ad 0)), (1, .int x1), (3, .int x3), (6, .int x6)]) hx hb dX7_lots_50 hl (by decide) rfl (fun ls hl => ?_)
    refine lv_aload_n hx hb dX7_lots_52 rfl (lv_at hl 1 rfl) ?_
    refine g_LP_court X hP  tw_66 dX7_lots_53 ?_
    refine lv_aload_n hx hb dX7_lots_56 rfl (lv_at hl 1 rfl) ?_
    refine g_LP_book X hP  tw_62 dX7_lots_57 ?_
    refine lv_lload hx hb dX7_lots_60 (lv_at hl 0 rfl) ?_
    refine lv_ldc2 (v := (32 : Int64)) hx hb X.1.2.2.2.1 (X.1.2.2.2.2 _ tw_527) dX7_lots_62 ?_
    refine lv_ldiv hx hb dX7_lots_65 (by decide) ?_
    refine lv_ldc2 (v := (21 : Int64)) hx hb X.1.2.2.2.1 (X.1.2.2.2.2 _ tw_528) dX7_lots_66 ?_
    refine lv_lrem hx hb dX7_lots_69 (by decide) ?_
    refine lv_l2i hx hb dX7_lots_70 rfl ?_
    obtain ⟨q6, e7, hf⟩ := bind_some hf
    refine aftV hS (cV (rest := []) X hP hS [.ref (ad (34 + 0)), .int (((((48271 : Int64) * y4) - ((48271 : Int64) * y4) / (2147483647 : Int64) * (2147483647 : Int64)) / (32 : Int64)) - ((((48271 : Int64) * y4) - ((48271 : Int64) * y4) / (2147483647 : Int64) * (2147483647 : Int64)) / (32 : Int64)) / (21 : Int64) * (21 : Int64)).toInt32] (m_X1_hear (by decide) e7) cw_X1_hear tw_205 tw_477 tw_665 (by decide) (cf_Court ) rfl (fits9 (by first | decide | omega) (by decide)) rfl rfl hl.1 (Nat.le_of_ble_eq_true rfl) dX7_lots_71 ⟨Nat.zero_le _, Nat.zero_le _⟩) (fun H locs hP hS => ?_)
    refine lv_aload_n hx hb dX7_lots_74 rfl (lv_at hl 1 rfl) ?_
    refine g_LP_court X hP  tw_66 dX7_lots_75 ?_
    obtain ⟨q8, e9, hf⟩ := bind_some hf
    refine aftI hS (cV (rest := []) X hP hS [] (m_X1_waiting  e9) cw_X1_waiting tw_219 tw_488 tw_667 (by decide) (cf_Court ) rfl (fits9 (by first | decide | omega) (by decide)) rfl rfl hl.1 (Nat.le_of_ble_eq_true rfl) dX7_lots_78 ⟨Nat.zero_le _, Nat.zero_le _⟩) (fun H locs hP hS => ?_)
    refine lv_lload hx hb dX7_lots_81 (lv_at hl 0 rfl) ?_
    refine lv_ldc2 (v := (32 : Int64)) hx hb X.1.2.2.2.1 (X.1.2.2.2.2 _ tw_527) dX7_lots_83 ?_
    refine lv_lrem hx hb dX7_lots_86 (by decide) ?_
    refine lv_l2i hx hb dX7_lots_87 rfl ?_
    obtain ⟨q10, e11, hf⟩ := bind_some hf
    refine aftI hS (cS (rest := []) X hP hS [.int q8.1, .int ((((48271 : Int64) * y4) - ((48271 : Int64) * y4) / (2147483647 : Int64) * (2147483647 : Int64)) - (((48271 : Int64) * y4) - ((48271 : Int64) * y4) / (2147483647 : Int64) * (2147483647 : Int64)) / (32 : Int64) * (32 : Int64)).toInt32] (m_X7_hasBit  e11) cw_X7_hasBit tw_185 tw_435 (fits9 (by first | decide | omega) (by decide)) rfl rfl hl.1 (Nat.le_of_ble_eq_true rfl) dX7_lots_88 ⟨Nat.zero_le _, Nat.zero_le _⟩) (fun H locs hP hS => ?_)
    refine lv_if_eq (tgt := 97) hx hb dX7_lots_91 (by decide) (fun c12 => ?_) (fun c12 => ?_)
    · rw [if_pos c12] at hf
      refine lv_iinc (v := (x6 + (1 : Int32))) (lv' := [(6, .int (x6 + (1 : Int32))), (4, .long (((48271 : Int64) * y4) - ((48271 : Int64) * y4) / (2147483647 : Int64) * (2147483647 : Int64))), (0, .ref (ad 0)), (1, .int x1), (3, .int x3)]) hx hb dX7_lots_97 hl (k := 4) rfl rfl (by decide) rfl (fun ls hl => ?_)
      refine lv_goto (tgt := 34) hx hb dX7_lots_100 (by decide) ?_
      exact hkb _ _ _ _ _ _ _ ls hf  hP hS (lv_sub hl [2, 3, 4, 1, 0] rfl)
    · rw [if_neg c12] at hf
      refine lv_iinc (v := (x3 + (1 : Int32))) (lv' := [(3, .int (x3 + (1 : Int32))), (4, .long (((48271 : Int64) * y4) - ((48271 : Int64) * y4) / (2147483647 : Int64) * (2147483647 : Int64))), (0, .ref (ad 0)), (1, .int x1), (6, .int x6)]) hx hb dX7_lots_94 hl (k := 3) rfl rfl (by decide) rfl (fun ls hl => ?_)
      refine lv_iinc (v := (x6 + (1 : Int32))) (lv' := [(6, .int (x6 + (1 : Int32))), (3, .int (x3 + (1 : Int32))), (4, .long (((48271 : Int64) * y4) - ((48271 : Int64) * y4) / (2147483647 : Int64) * (2147483647 : Int64))), (0, .ref (ad 0)), (1, .int x1)]) hx hb dX7_lots_97 hl (k := 4) rfl rfl (by decide) rfl (fun ls hl => ?_)
      refine lv_goto (tgt := 34) hx hb dX7_lots_100 (by decide) ?_
      exact hkb _ _ _ _ _ _ _ ls hf  hP hS (lv_sub hl [3, 4, 1, 2, 0] rfl)
set_option maxHeartbeats 4000000 in
set_option maxRecDepth 100000 in
theorem vl_X7_lots_34 (X : Cx D cI cP cB cA 79 ad tL tC p s m c cX7_lots 7 args RX7) (hr : meth.sig.returnType = (some .int)) (hlk : meth.locks = false) {res : Int32 × Stt} (ke : Int32 → Stt → Option (Int32 × Stt)) (hke : ∀ (x3 : Int32) (S : Stt) (H : Heap) (locs : List Loc) (ls : Array Slot), ke x3 S = some res → va_P D vwCl (wl 79 ad (cfC ad cI cP cB cA S)) H → va_S (Ar 79 ad) s.heap H locs → lv_has ls 7 [(3, .int x3)] → W p l e (rmD 5) s m args below meth c H locs 0 0 (MQ below (QI D 79 ad res.1 (cfC ad cI cP cB cA res.2)) args s 0 0 (Ar 79 ad)) (F0 m 103 ls [])) : ∀ (n : Nat), ∀ (x1 : Int32) (x3 : Int32) (y4 : Int64) (x6 : Int32) (S : Stt) (H : Heap) (locs : List Loc) (ls : Array Slot), fl_X7_lots_34 ke n x1 x3 y4 x6 S = some res → va_P D vwCl (wl 79 ad (cfC ad cI cP cB cA S)) H → va_S (Ar 79 ad) s.heap H locs → lv_has ls 7 [(0, .ref (ad 0)), (1, .int x1), (3, .int x3), (4, .long y4), (6, .int x6)] → W p l e (rmD 5) s m args below meth c H locs 0 0 (MQ below (QI D 79 ad res.1 (cfC ad cI cP cB cA res.2)) args s 0 0 (Ar 79 ad)) (F0 m 34 ls []) := by
  intro n
  induction n with
  | zero =>
    intro x1 x3 y4 x6 S H locs ls hf hP hS hl
    cases hf
  | succ n ih =>
    intro x1 x3 y4 x6 S H locs ls hf hP hS hl
    exact vb_X7_lots_34 X hr hlk _ ke ih hke x1 x3 y4 x6 S H locs ls hf  hP hS hl
end
set_option maxHeartbeats 4000000 in
set_option maxRecDepth 100000 in
theorem m_X7_lots {l : Launch} {D : va_G} {cI cP cB cA : ClassId} {ad : Nat → Nat} {tL tC : Nat} {x1 : Int32} {x2 : Int32} {S : Stt} {res : Int32 × Stt} (hf : f_X7_lots x1 x2 S = some res) : Ct l D cI cP cB cA 79 ad tL tC yX7_lots cX7_lots 7 (some .int) 5 [.ref (ad 0), .int x1, .int x2] (cfC ad cI cP cB cA S) (QI D 79 ad res.1 (cfC ad cI cP cB cA res.2)) := by
  refine ctOf (by decide) (Nat.le_of_ble_eq_true rfl) ?_
  intro p e s m args below meth c ls X hr hlk hP hl
  have hS : va_S (Ar 79 ad) s.heap s.heap [] := va_S.rf
  have hx := X.1.1
  have hb := X.1.2.1
  have hl : lv_has ls 7 [(0, .ref (ad 0)), (1, .int x1), (2, .int x2)] := hl
  unfold f_X7_lots at hf
  refine lv_iload_n hx hb dX7_lots_0 rfl (lv_at hl 1 rfl) ?_
  refine lv_iconst (v := (1 : Int32)) hx hb dX7_lots_1 (by decide) ?_
  refine lv_icmp_lt (tgt := 23) hx hb dX7_lots_2 (by decide) (fun c1 => ?_) (fun c1 => ?_)
  · rw [if_pos c1] at hf
    refine lv_iconst (v := (-1 : Int32)) hx hb dX7_lots_23 (by decide) ?_
    cases hf
    exact rtI X hr hlk hP hS dX7_lots_24
  · rw [if_neg c1] at hf
    refine lv_iload_n hx hb dX7_lots_5 rfl (lv_at hl 1 rfl) ?_
    refine lv_bipush (v := (60 : Int32)) hx hb dX7_lots_6 (by decide) ?_
    refine lv_icmp_gt (tgt := 23) hx hb dX7_lots_8 (by decide) (fun c2 => ?_) (fun c2 => ?_)
    · rw [if_pos c2] at hf
      refine lv_iconst (v := (-1 : Int32)) hx hb dX7_lots_23 (by decide) ?_
      cases hf
      exact rtI X hr hlk hP hS dX7_lots_24
    · rw [if_neg c2] at hf
      refine lv_iload_n hx hb dX7_lots_11 rfl (lv_at hl 2 rfl) ?_
      refine lv_iconst (v := (1 : Int32)) hx hb dX7_lots_12 (by decide) ?_
      refine lv_icmp_lt (tgt := 23) hx hb dX7_lots_13 (by decide) (fun c3 => ?_) (fun c3 => ?_)
      · rw [if_pos c3] at hf
        refine lv_iconst (v := (-1 : Int32)) hx hb dX7_lots_23 (by decide) ?_
        cases hf
        exact rtI X hr hlk hP hS dX7_lots_24
      · rw [if_neg c3] at hf
        refine lv_iload_n hx hb dX7_lots_16 rfl (lv_at hl 2 rfl) ?_
        refine lv_ldcw (v := (2147483646 : Int32)) hx hb X.1.2.2.2.1 (X.1.2.2.2.2 _ tw_524) dX7_lots_17 ?_
        refine lv_icmp_le (tgt := 25) hx hb dX7_lots_20 (by decide) (fun c4 => ?_) (fun c4 => ?_)
        · rw [if_pos c4] at hf
          refine lv_iconst (v := (0 : Int32)) hx hb dX7_lots_25 (by decide) ?_
          refine lv_istore_n (lv' := [(3, .int (0 : Int32)), (0, .ref (ad 0)), (1, .int x1), (2, .int x2)]) hx hb dX7_lots_26 rfl hl (by decide) rfl (fun ls hl => ?_)
          refine lv_iload_n hx hb dX7_lots_27 rfl (lv_at hl 3 rfl) ?_
          refine lv_i2l hx hb dX7_lots_28 rfl ?_
          refine lv_lstore (lv' := [(4, .long x2.toInt64), (3, .int (0 : Int32)), (0, .ref (ad 0)), (1, .int x1), (2, .int x2)]) hx hb dX7_lots_29 hl (by decide) rfl (fun ls hl => ?_)
          refine lv_iconst (v := (0 : Int32)) hx hb dX7_lots_31 (by decide) ?_
          refine lv_istore (lv' := [(6, .int (0 : Int32)), (4, .long x2.toInt64), (3, .int (0 : Int32)), (0, .ref (ad 0)), (1, .int x1), (2, .int x2)]) hx hb dX7_lots_32 hl (by decide) rfl (fun ls hl => ?_)
          refine vl_X7_lots_34 X hr hlk _ ?_ 300 _ _ _ _ _ _ _ ls hf  hP hS (lv_sub hl [3, 4, 2, 1, 0] rfl)
          intro x3 S H locs ls hf hP hS hl
          refine lv_iload_n hx hb dX7_lots_103 rfl (lv_at hl 0 rfl) ?_
          cases hf
          exact rtI X hr hlk hP hS dX7_lots_104
        · rw [if_neg c4] at hf
          refine lv_iconst (v := (-1 : Int32)) hx hb dX7_lots_23 (by decide) ?_
          cases hf
          exact rtI X hr hlk hP hS dX7_lots_24
/-! X7_meant -/
section
variable {p : Program} {l : Launch} {e : Env} {s : State} {m : MethodId} {args : Array Value} {below : List Frame} {meth : Method} {c : Code}
variable {D : va_G} {cI cP cB cA : ClassId} {ad : Nat → Nat} {tL tC : Nat}
set_option maxHeartbeats 4000000 in
set_option maxRecDepth 100000 in
theorem vb_X7_meant_79 (X : Cx D cI cP cB cA 79 ad tL tC p s m c cX7_meant 6 args RX7) (hr : meth.sig.returnType = (some .int)) (hlk : meth.locks = false) {res : Int32 × Stt} (kb : Int32 → Int32 → Int32 → Int32 → Int32 → Stt → Option (Int32 × Stt)) (ke : Int32 → Int32 → Int32 → Int32 → Stt → Option (Int32 × Stt)) (hkb : ∀ (x1 : Int32) (x2 : Int32) (x3 : Int32) (x4 : Int32) (x5 : Int32) (S : Stt) (H : Heap) (locs : List Loc) (ls : Array Slot), kb x1 x2 x3 x4 x5 S = some res → va_P D vwCl (wl 79 ad (cfC ad cI cP cB cA S)) H → va_S (Ar 79 ad) s.heap H locs → lv_has ls 6 [(0, .ref (ad 0)), (1, .int x1), (2, .int x2), (3, .int x3), (4, .int x4), (5, .int x5)] → W p l e (rmD 5) s m args below meth c H locs 0 0 (MQ below (QI D 79 ad res.1 (cfC ad cI cP cB cA res.2)) args s 0 0 (Ar 79 ad)) (F0 m 79 ls [])) (hke : ∀ (x1 : Int32) (x2 : Int32) (x3 : Int32) (x4 : Int32) (S : Stt) (H : Heap) (locs : List Loc) (ls : Array Slot), ke x1 x2 x3 x4 S = some res → va_P D vwCl (wl 79 ad (cfC ad cI cP cB cA S)) H → va_S (Ar 79 ad) s.heap H locs → lv_has ls 6 [(0, .ref (ad 0)), (1, .int x1), (2, .int x2), (3, .int x3), (4, .int x4)] → W p l e (rmD 5) s m args below meth c H locs 0 0 (MQ below (QI D 79 ad res.1 (cfC ad cI cP cB cA res.2)) args s 0 0 (Ar 79 ad)) (F0 m 116 ls [])) : ∀ (x1 : Int32) (x2 : Int32) (x3 : Int32) (x4 : Int32) (x5 : Int32) (S : Stt) (H : Heap) (locs : List Loc) (ls : Array Slot), fb_X7_meant_79 kb ke x1 x2 x3 x4 x5 S = some res → va_P D vwCl (wl 79 ad (cfC ad cI cP cB cA S)) H → va_S (Ar 79 ad) s.heap H locs → lv_has ls 6 [(0, .ref (ad 0)), (1, .int x1), (2, .int x2), (3, .int x3), (4, .int x4), (5, .int x5)] → W p l e (rmD 5) s m args below meth c H locs 0 0 (MQ below (QI D 79 ad res.1 (cfC ad cI cP cB cA res.2)) args s 0 0 (Ar 79 ad)) (F0 m 79 ls []) := by
  intro x1 x2 x3 x4 x5 S H locs ls hf hP hS hl
  have hx := X.1.1
  have hb := X.1.2.1
  unfold fb_X7_meant_79 at hf
  refine lv_iload hx hb dX7_meant_79 (lv_at hl 5 rfl) ?_
  refine lv_iconst (v := (5 : Int32)) hx hb dX7_meant_81 (by decide) ?_
  refine lv_icmp_ge (tgt := 116) hx hb dX7_meant_82 (by decide) (fun c14 => ?_) (fun c14 => ?_)
  · rw [if_pos c14] at hf
    exact hke _ _ _ _ _ _ _ ls hf  hP hS (lv_sub hl [0, 1, 2, 3, 4] rfl)
  · rw [if_neg c14] at hf
    refine lv_aload_n hx hb dX7_meant_85 rfl (lv_at hl 0 rfl) ?_
    refine lv_iload_n hx hb dX7_meant_86 rfl (lv_at hl 1 rfl) ?_
    refine lv_iload hx hb dX7_meant_87 (lv_at hl 4 rfl) ?_
    refine lv_iload hx hb dX7_meant_89 (lv_at hl 5 rfl) ?_
    obtain ⟨q15, e16, hf⟩ := bind_some hf
    refine aftI hS (cV (rest := []) X hP hS [.int x1, .int x4, .int x5] (m_X7_couldMean  e16) cw_X7_couldMean tw_265 tw_520 tw_760 (by decide) (cf_LP ) rfl (fits9 (by first | decide | omega) (by decide)) rfl rfl hl.1 (Nat.le_of_ble_eq_true rfl) dX7_meant_91 ⟨Nat.zero_le _, Nat.zero_le _⟩) (fun H locs hP hS => ?_)
    refine lv_if_ne (tgt := 100) hx hb dX7_meant_94 (by decide) (fun c17 => ?_) (fun c17 => ?_)
    · rw [if_neg c17] at hf
      refine lv_iinc (v := (x2 + (1 : Int32))) (lv' := [(2, .int (x2 + (1 : Int32))), (0, .ref (ad 0)), (1, .int x1), (3, .int x3), (4, .int x4), (5, .int x5)]) hx hb dX7_meant_100 hl (k := 2) rfl rfl (by decide) rfl (fun ls hl => ?_)
      refine lv_iload_n hx hb dX7_meant_103 rfl (lv_at hl 3 rfl) ?_
      refine lv_iconst (v := (1 : Int32)) hx hb dX7_meant_104 (by decide) ?_
      refine lv_iload hx hb dX7_meant_105 (lv_at hl 4 rfl) ?_
      refine lv_ishl hx hb dX7_meant_107 ?_
      refine lv_ior hx hb dX7_meant_108 ?_
      refine lv_istore_n (lv' := [(3, .int (x3 ||| ((1 : Int32) <<< (x4 &&& 31)))), (2, .int (x2 + (1 : Int32))), (0, .ref (ad 0)), (1, .int x1), (4, .int x4), (5, .int x5)]) hx hb dX7_meant_109 rfl hl (by decide) rfl (fun ls hl => ?_)
      refine lv_iinc (v := (x5 + (1 : Int32))) (lv' := [(5, .int (x5 + (1 : Int32))), (3, .int (x3 ||| ((1 : Int32) <<< (x4 &&& 31)))), (2, .int (x2 + (1 : Int32))), (0, .ref (ad 0)), (1, .int x1), (4, .int x4)]) hx hb dX7_meant_110 hl (k := 5) rfl rfl (by decide) rfl (fun ls hl => ?_)
      refine lv_goto (tgt := 79) hx hb dX7_meant_113 (by decide) ?_
      exact hkb _ _ _ _ _ _ _ _ ls hf  hP hS (lv_sub hl [3, 4, 2, 1, 5, 0] rfl)
    · rw [if_pos c17] at hf
      refine lv_goto (tgt := 110) hx hb dX7_meant_97 (by decide) ?_
      refine lv_iinc (v := (x5 + (1 : Int32))) (lv' := [(5, .int (x5 + (1 : Int32))), (0, .ref (ad 0)), (1, .int x1), (2, .int x2), (3, .int x3), (4, .int x4)]) hx hb dX7_meant_110 hl (k := 5) rfl rfl (by decide) rfl (fun ls hl => ?_)
      refine lv_goto (tgt := 79) hx hb dX7_meant_113 (by decide) ?_
      exact hkb _ _ _ _ _ _ _ _ ls hf  hP hS (lv_sub hl [1, 2, 3, 4, 5, 0] rfl)
set_option maxHeartbeats 4000000 in
set_option maxRecDepth 100000 in
theorem vl_X7_meant_79 (X : Cx D cI cP cB cA 79 ad tL tC p s m c cX7_meant 6 args RX7) (hr : meth.sig.returnType = (some .int)) (hlk : meth.locks = false) {res : Int32 × Stt} (ke : Int32 → Int32 → Int32 → Int32 → Stt → Option (Int32 × Stt)) (hke : ∀ (x1 : Int32) (x2 : Int32) (x3 : Int32) (x4 : Int32) (S : Stt) (H : Heap) (locs : List Loc) (ls : Array Slot), ke x1 x2 x3 x4 S = some res → va_P D vwCl (wl 79 ad (cfC ad cI cP cB cA S)) H → va_S (Ar 79 ad) s.heap H locs → lv_has ls 6 [(0, .ref (ad 0)), (1, .int x1), (2, .int x2), (3, .int x3), (4, .int x4)] → W p l e (rmD 5) s m args below meth c H locs 0 0 (MQ below (QI D 79 ad res.1 (cfC ad cI cP cB cA res.2)) args s 0 0 (Ar 79 ad)) (F0 m 116 ls [])) : ∀ (n : Nat), ∀ (x1 : Int32) (x2 : Int32) (x3 : Int32) (x4 : Int32) (x5 : Int32) (S : Stt) (H : Heap) (locs : List Loc) (ls : Array Slot), fl_X7_meant_79 ke n x1 x2 x3 x4 x5 S = some res → va_P D vwCl (wl 79 ad (cfC ad cI cP cB cA S)) H → va_S (Ar 79 ad) s.heap H locs → lv_has ls 6 [(0, .ref (ad 0)), (1, .int x1), (2, .int x2), (3, .int x3), (4, .int x4), (5, .int x5)] → W p l e (rmD 5) s m args below meth c H locs 0 0 (MQ below (QI D 79 ad res.1 (cfC ad cI cP cB cA res.2)) args s 0 0 (Ar 79 ad)) (F0 m 79 ls []) := by
  intro n
  induction n with
  | zero =>
    intro x1 x2 x3 x4 x5 S H locs ls hf hP hS hl
    cases hf
  | succ n ih =>
    intro x1 x2 x3 x4 x5 S H locs ls hf hP hS hl
    exact vb_X7_meant_79 X hr hlk _ ke ih hke x1 x2 x3 x4 x5 S H locs ls hf  hP hS hl
set_option maxHeartbeats 4000000 in
set_option maxRecDepth 100000 in
theorem vb_X7_meant_70 (X : Cx D cI cP cB cA 79 ad tL tC p s m c cX7_meant 6 args RX7) (hr : meth.sig.returnType = (some .int)) (hlk : meth.locks = false) {res : Int32 × Stt} (kb : Int32 → Int32 → Int32 → Int32 → Stt → Option (Int32 × Stt)) (ke : Int32 → Int32 → Stt → Option (Int32 × Stt)) (hkb : ∀ (x1 : Int32) (x2 : Int32) (x3 : Int32) (x4 : Int32) (S : Stt) (H : Heap) (locs : List Loc) (ls : Array Slot), kb x1 x2 x3 x4 S = some res → va_P D vwCl (wl 79 ad (cfC ad cI cP cB cA S)) H → va_S (Ar 79 ad) s.heap H locs → lv_has ls 6 [(0, .ref (ad 0)), (1, .int x1), (2, .int x2), (3, .int x3), (4, .int x4)] → W p l e (rmD 5) s m args below meth c H locs 0 0 (MQ below (QI D 79 ad res.1 (cfC ad cI cP cB cA res.2)) args s 0 0 (Ar 79 ad)) (F0 m 70 ls [])) (hke : ∀ (x2 : Int32) (x3 : Int32) (S : Stt) (H : Heap) (locs : List Loc) (ls : Array Slot), ke x2 x3 S = some res → va_P D vwCl (wl 79 ad (cfC ad cI cP cB cA S)) H → va_S (Ar 79 ad) s.heap H locs → lv_has ls 6 [(0, .ref (ad 0)), (2, .int x2), (3, .int x3)] → W p l e (rmD 5) s m args below meth c H locs 0 0 (MQ below (QI D 79 ad res.1 (cfC ad cI cP cB cA res.2)) args s 0 0 (Ar 79 ad)) (F0 m 122 ls [])) : ∀ (x1 : Int32) (x2 : Int32) (x3 : Int32) (x4 : Int32) (S : Stt) (H : Heap) (locs : List Loc) (ls : Array Slot), fb_X7_meant_70 kb ke x1 x2 x3 x4 S = some res → va_P D vwCl (wl 79 ad (cfC ad cI cP cB cA S)) H → va_S (Ar 79 ad) s.heap H locs → lv_has ls 6 [(0, .ref (ad 0)), (1, .int x1), (2, .int x2), (3, .int x3), (4, .int x4)] → W p l e (rmD 5) s m args below meth c H locs 0 0 (MQ below (QI D 79 ad res.1 (cfC ad cI cP cB cA res.2)) args s 0 0 (Ar 79 ad)) (F0 m 70 ls []) := by
  intro x1 x2 x3 x4 S H locs ls hf hP hS hl
  have hx := X.1.1
  have hb := X.1.2.1
  unfold fb_X7_meant_70 at hf
  refine lv_iload hx hb dX7_meant_70 (lv_at hl 4 rfl) ?_
  refine lv_iconst (v := (5 : Int32)) hx hb dX7_meant_72 (by decide) ?_
  refine lv_icmp_ge (tgt := 122) hx hb dX7_meant_73 (by decide) (fun c13 => ?_) (fun c13 => ?_)
  · rw [if_pos c13] at hf
    exact hke _ _ _ _ _ ls hf  hP hS (lv_sub hl [0, 2, 3] rfl)
  · rw [if_neg c13] at hf
    refine lv_iconst (v := (0 : Int32)) hx hb dX7_meant_76 (by decide) ?_
    refine lv_istore (lv' := [(5, .int (0 : Int32)), (0, .ref (ad 0)), (1, .int x1), (2, .int x2), (3, .int x3), (4, .int x4)]) hx hb dX7_meant_77 hl (by decide) rfl (fun ls hl => ?_)
    refine vl_X7_meant_79 X hr hlk _ ?_ 300 _ _ _ _ _ _ _ _ ls hf  hP hS (lv_sub hl [1, 2, 3, 4, 5, 0] rfl)
    intro x1 x2 x3 x4 S H locs ls hf hP hS hl
    refine lv_iinc (v := (x4 + (1 : Int32))) (lv' := [(4, .int (x4 + (1 : Int32))), (0, .ref (ad 0)), (1, .int x1), (2, .int x2), (3, .int x3)]) hx hb dX7_meant_116 hl (k := 4) rfl rfl (by decide) rfl (fun ls hl => ?_)
    refine lv_goto (tgt := 70) hx hb dX7_meant_119 (by decide) ?_
    exact hkb _ _ _ _ _ _ _ ls hf  hP hS (lv_sub hl [1, 2, 3, 4, 0] rfl)
set_option maxHeartbeats 4000000 in
set_option maxRecDepth 100000 in
theorem vl_X7_meant_70 (X : Cx D cI cP cB cA 79 ad tL tC p s m c cX7_meant 6 args RX7) (hr : meth.sig.returnType = (some .int)) (hlk : meth.locks = false) {res : Int32 × Stt} (ke : Int32 → Int32 → Stt → Option (Int32 × Stt)) (hke : ∀ (x2 : Int32) (x3 : Int32) (S : Stt) (H : Heap) (locs : List Loc) (ls : Array Slot), ke x2 x3 S = some res → va_P D vwCl (wl 79 ad (cfC ad cI cP cB cA S)) H → va_S (Ar 79 ad) s.heap H locs → lv_has ls 6 [(0, .ref (ad 0)), (2, .int x2), (3, .int x3)] → W p l e (rmD 5) s m args below meth c H locs 0 0 (MQ below (QI D 79 ad res.1 (cfC ad cI cP cB cA res.2)) args s 0 0 (Ar 79 ad)) (F0 m 122 ls [])) : ∀ (n : Nat), ∀ (x1 : Int32) (x2 : Int32) (x3 : Int32) (x4 : Int32) (S : Stt) (H : Heap) (locs : List Loc) (ls : Array Slot), fl_X7_meant_70 ke n x1 x2 x3 x4 S = some res → va_P D vwCl (wl 79 ad (cfC ad cI cP cB cA S)) H → va_S (Ar 79 ad) s.heap H locs → lv_has ls 6 [(0, .ref (ad 0)), (1, .int x1), (2, .int x2), (3, .int x3), (4, .int x4)] → W p l e (rmD 5) s m args below meth c H locs 0 0 (MQ below (QI D 79 ad res.1 (cfC ad cI cP cB cA res.2)) args s 0 0 (Ar 79 ad)) (F0 m 70 ls []) := by
  intro n
  induction n with
  | zero =>
    intro x1 x2 x3 x4 S H locs ls hf hP hS hl
    cases hf
  | succ n ih =>
    intro x1 x2 x3 x4 S H locs ls hf hP hS hl
    exact vb_X7_meant_70 X hr hlk _ ke ih hke x1 x2 x3 x4 S H locs ls hf  hP hS hl
end
set_option maxHeartbeats 4000000 in
set_option maxRecDepth 100000 in
theorem m_X7_meant {l : Launch} {D : va_G} {cI cP cB cA : ClassId} {ad : Nat → Nat} {tL tC : Nat} {x1 : Int32} {S : Stt} {res : Int32 × Stt} (hf : f_X7_meant x1 S = some res) : Ct l D cI cP cB cA 79 ad tL tC yX7_meant cX7_meant 6 (some .int) 5 [.ref (ad 0), .int x1] (cfC ad cI cP cB cA S) (QI D 79 ad res.1 (cfC ad cI cP cB cA res.2)) := by
  refine ctOf (by decide) (Nat.le_of_ble_eq_true rfl) ?_
  intro p e s m args below meth c ls X hr hlk hP hl
  have hS : va_S (Ar 79 ad) s.heap s.heap [] := va_S.rf
  have hx := X.1.1
  have hb := X.1.2.1
  have hl : lv_has ls 6 [(0, .ref (ad 0)), (1, .int x1)] := hl
  unfold f_X7_meant at hf
  refine lv_aload_n hx hb dX7_meant_0 rfl (lv_at hl 0 rfl) ?_
  refine g_LP_rows X hP  tw_60 dX7_meant_1 ?_
  refine lv_iload_n hx hb dX7_meant_4 rfl (lv_at hl 1 rfl) ?_
  obtain ⟨q1, e2, hf⟩ := bind_some hf
  refine aftI hS (cV (rest := []) X hP hS [.int x1] (m_X6_isOne (by decide) e2) cw_X6_isOne tw_125 tw_405 tw_694 (sh_lt (by decide)) (cf_Shelf (by decide)) rfl (fits9 (by first | decide | omega) (by decide)) rfl rfl hl.1 (Nat.le_of_ble_eq_true rfl) dX7_meant_5 ⟨Nat.zero_le _, Nat.zero_le _⟩) (fun H locs hP hS => ?_)
  refine lv_if_ne (tgt := 13) hx hb dX7_meant_8 (by decide) (fun c3 => ?_) (fun c3 => ?_)
  · rw [if_neg c3] at hf
    refine lv_aload_n hx hb dX7_meant_13 rfl (lv_at hl 0 rfl) ?_
    refine g_LP_rows X hP  tw_60 dX7_meant_14 ?_
    refine lv_iload_n hx hb dX7_meant_17 rfl (lv_at hl 1 rfl) ?_
    obtain ⟨q4, e5, hf⟩ := bind_some hf
    refine aftI hS (cV (rest := []) X hP hS [.int x1] (m_X6_isThere (by decide) e5) cw_X6_isThere tw_129 tw_409 tw_695 (sh_lt (by decide)) (cf_Shelf (by decide)) rfl (fits9 (by first | decide | omega) (by decide)) rfl rfl hl.1 (Nat.le_of_ble_eq_true rfl) dX7_meant_18 ⟨Nat.zero_le _, Nat.zero_le _⟩) (fun H locs hP hS => ?_)
    refine lv_if_ne (tgt := 30) hx hb dX7_meant_21 (by decide) (fun c6 => ?_) (fun c6 => ?_)
    · rw [if_neg c6] at hf
      refine lv_aload_n hx hb dX7_meant_30 rfl (lv_at hl 0 rfl) ?_
      refine g_LP_rows X hP  tw_60 dX7_meant_31 ?_
      refine lv_iload_n hx hb dX7_meant_34 rfl (lv_at hl 1 rfl) ?_
      obtain ⟨q7, e8, hf⟩ := bind_some hf
      refine aftI hS (cV (rest := []) X hP hS [.int x1] (m_X6_sizeOf (by decide) e8) cw_X6_sizeOf tw_141 tw_422 tw_698 (sh_lt (by decide)) (cf_Shelf (by decide)) rfl (fits9 (by first | decide | omega) (by decide)) rfl rfl hl.1 (Nat.le_of_ble_eq_true rfl) dX7_meant_35 ⟨Nat.zero_le _, Nat.zero_le _⟩) (fun H locs hP hS => ?_)
      refine lv_iconst (v := (3 : Int32)) hx hb dX7_meant_38 (by decide) ?_
      refine lv_irem hx hb dX7_meant_39 (by decide) ?_
      refine lv_if_eq (tgt := 49) hx hb dX7_meant_40 (by decide) (fun c9 => ?_) (fun c9 => ?_)
      · rw [if_pos c9] at hf
        refine lv_aload_n hx hb dX7_meant_49 rfl (lv_at hl 0 rfl) ?_
        refine lv_iload_n hx hb dX7_meant_50 rfl (lv_at hl 1 rfl) ?_
        obtain ⟨q10, e11, hf⟩ := bind_some hf
        refine aftI hS (cV (rest := []) X hP hS [.int x1] (m_X7_tellsJudgements  e11) cw_X7_tellsJudgements tw_264 tw_519 tw_759 (by decide) (cf_LP ) rfl (fits9 (by first | decide | omega) (by decide)) rfl rfl hl.1 (Nat.le_of_ble_eq_true rfl) dX7_meant_51 ⟨Nat.zero_le _, Nat.zero_le _⟩) (fun H locs hP hS => ?_)
        refine lv_if_ne (tgt := 63) hx hb dX7_meant_54 (by decide) (fun c12 => ?_) (fun c12 => ?_)
        · rw [if_neg c12] at hf
          refine lv_iconst (v := (0 : Int32)) hx hb dX7_meant_63 (by decide) ?_
          refine lv_istore_n (lv' := [(2, .int (0 : Int32)), (0, .ref (ad 0)), (1, .int x1)]) hx hb dX7_meant_64 rfl hl (by decide) rfl (fun ls hl => ?_)
          refine lv_iconst (v := (0 : Int32)) hx hb dX7_meant_65 (by decide) ?_
          refine lv_istore_n (lv' := [(3, .int (0 : Int32)), (2, .int (0 : Int32)), (0, .ref (ad 0)), (1, .int x1)]) hx hb dX7_meant_66 rfl hl (by decide) rfl (fun ls hl => ?_)
          refine lv_iconst (v := (0 : Int32)) hx hb dX7_meant_67 (by decide) ?_
          refine lv_istore (lv' := [(4, .int (0 : Int32)), (3, .int (0 : Int32)), (2, .int (0 : Int32)), (0, .ref (ad 0)), (1, .int x1)]) hx hb dX7_meant_68 hl (by decide) rfl (fun ls hl => ?_)
          refine vl_X7_meant_70 X hr hlk _ ?_ 300 _ _ _ _ _ _ _ ls hf  hP hS (lv_sub hl [3, 4, 2, 1, 0] rfl)
          intro x2 x3 S H locs ls hf hP hS hl
          refine lv_aload_n hx hb dX7_meant_122 rfl (lv_at hl 0 rfl) ?_
          refine lv_iload_n hx hb dX7_meant_123 rfl (lv_at hl 2 rfl) ?_
          refine p_LP_lastAsked X hP hS  tw_71 dX7_meant_124 (fun H locs hP hS => ?_)
          refine lv_iload_n hx hb dX7_meant_127 rfl (lv_at hl 1 rfl) ?_
          cases hf
          exact rtI X hr hlk hP hS dX7_meant_128
        · rw [if_pos c12] at hf
          refine lv_aload_n hx hb dX7_meant_57 rfl (lv_at hl 0 rfl) ?_
          refine lv_iconst (v := (3 : Int32)) hx hb dX7_meant_58 (by decide) ?_
          obtain ⟨q18, e19, hf⟩ := bind_some hf
          refine aftI hS (cV (rest := []) X hP hS [.int (3 : Int32)] (m_X7_refuse  e19) cw_X7_refuse tw_126 tw_406 tw_754 (by decide) (cf_LP ) rfl (fits9 (by first | decide | omega) (by decide)) rfl rfl hl.1 (Nat.le_of_ble_eq_true rfl) dX7_meant_59 ⟨Nat.zero_le _, Nat.zero_le _⟩) (fun H locs hP hS => ?_)
          cases hf
          exact rtI X hr hlk hP hS dX7_meant_62
      · rw [if_neg c9] at hf
        refine lv_aload_n hx hb dX7_meant_43 rfl (lv_at hl 0 rfl) ?_
        refine lv_iconst (v := (5 : Int32)) hx hb dX7_meant_44 (by decide) ?_
        obtain ⟨q20, e21, hf⟩ := bind_some hf
        refine aftI hS (cV (rest := []) X hP hS [.int (5 : Int32)] (m_X7_refuse  e21) cw_X7_refuse tw_126 tw_406 tw_754 (by decide) (cf_LP ) rfl (fits9 (by first | decide | omega) (by decide)) rfl rfl hl.1 (Nat.le_of_ble_eq_true rfl) dX7_meant_45 ⟨Nat.zero_le _, Nat.zero_le _⟩) (fun H locs hP hS => ?_)
        cases hf
        exact rtI X hr hlk hP hS dX7_meant_48
    · rw [if_pos c6] at hf
      refine lv_aload_n hx hb dX7_meant_24 rfl (lv_at hl 0 rfl) ?_
      refine lv_iconst (v := (1 : Int32)) hx hb dX7_meant_25 (by decide) ?_
      obtain ⟨q22, e23, hf⟩ := bind_some hf
      refine aftI hS (cV (rest := []) X hP hS [.int (1 : Int32)] (m_X7_refuse  e23) cw_X7_refuse tw_126 tw_406 tw_754 (by decide) (cf_LP ) rfl (fits9 (by first | decide | omega) (by decide)) rfl rfl hl.1 (Nat.le_of_ble_eq_true rfl) dX7_meant_26 ⟨Nat.zero_le _, Nat.zero_le _⟩) (fun H locs hP hS => ?_)
      cases hf
      exact rtI X hr hlk hP hS dX7_meant_29
  · rw [if_pos c3] at hf
    refine lv_iconst (v := (-1 : Int32)) hx hb dX7_meant_11 (by decide) ?_
    cases hf
    exact rtI X hr hlk hP hS dX7_meant_12
/-! X7_odds -/
section
variable {p : Program} {l : Launch} {e : Env} {s : State} {m : MethodId} {args : Array Value} {below : List Frame} {meth : Method} {c : Code}
variable {D : va_G} {cI cP cB cA : ClassId} {ad : Nat → Nat} {tL tC : Nat}
end
set_option maxHeartbeats 4000000 in
set_option maxRecDepth 100000 in
theorem m_X7_odds {l : Launch} {D : va_G} {cI cP cB cA : ClassId} {ad : Nat → Nat} {tL tC : Nat} {x1 : Int32} {x2 : Int32} {S : Stt} {res : Int32 × Stt} (hf : f_X7_odds x1 x2 S = some res) : Ct l D cI cP cB cA 79 ad tL tC yX7_odds cX7_odds 3 (some .int) 5 [.ref (ad 0), .int x1, .int x2] (cfC ad cI cP cB cA S) (QI D 79 ad res.1 (cfC ad cI cP cB cA res.2)) := by
  refine ctOf (by decide) (Nat.le_of_ble_eq_true rfl) ?_
  intro p e s m args below meth c ls X hr hlk hP hl
  have hS : va_S (Ar 79 ad) s.heap s.heap [] := va_S.rf
  have hx := X.1.1
  have hb := X.1.2.1
  have hl : lv_has ls 3 [(0, .ref (ad 0)), (1, .int x1), (2, .int x2)] := hl
  unfold f_X7_odds at hf
  refine lv_iload_n hx hb dX7_odds_0 rfl (lv_at hl 1 rfl) ?_
  obtain ⟨q1, e2, hf⟩ := bind_some hf
  refine aftI hS (cS (rest := []) X hP hS [.int x1] (m_X7_isCase  e2) cw_X7_isCase tw_204 tw_476 (fits9 (by first | decide | omega) (by decide)) rfl rfl hl.1 (Nat.le_of_ble_eq_true rfl) dX7_odds_1 ⟨Nat.zero_le _, Nat.zero_le _⟩) (fun H locs hP hS => ?_)
  refine lv_if_eq (tgt := 14) hx hb dX7_odds_4 (by decide) (fun c3 => ?_) (fun c3 => ?_)
  · rw [if_pos c3] at hf
    refine lv_iconst (v := (-1 : Int32)) hx hb dX7_odds_14 (by decide) ?_
    cases hf
    exact rtI X hr hlk hP hS dX7_odds_15
  · rw [if_neg c3] at hf
    refine lv_iload_n hx hb dX7_odds_7 rfl (lv_at hl 2 rfl) ?_
    obtain ⟨q4, e5, hf⟩ := bind_some hf
    refine aftI hS (cS (rest := []) X hP hS [.int x2] (m_X7_isDay  e5) cw_X7_isDay tw_194 tw_468 (fits9 (by first | decide | omega) (by decide)) rfl rfl hl.1 (Nat.le_of_ble_eq_true rfl) dX7_odds_8 ⟨Nat.zero_le _, Nat.zero_le _⟩) (fun H locs hP hS => ?_)
    refine lv_if_ne (tgt := 16) hx hb dX7_odds_11 (by decide) (fun c6 => ?_) (fun c6 => ?_)
    · rw [if_neg c6] at hf
      refine lv_aload_n hx hb dX7_odds_16 rfl (lv_at hl 0 rfl) ?_
      refine g_LP_court X hP  tw_66 dX7_odds_17 ?_
      refine lv_aload_n hx hb dX7_odds_20 rfl (lv_at hl 0 rfl) ?_
      refine g_LP_book X hP  tw_62 dX7_odds_21 ?_
      refine lv_iload_n hx hb dX7_odds_24 rfl (lv_at hl 2 rfl) ?_
      obtain ⟨q7, e8, hf⟩ := bind_some hf
      refine aftV hS (cV (rest := []) X hP hS [.ref (ad (34 + 0)), .int x2] (m_X1_hear (by decide) e8) cw_X1_hear tw_205 tw_477 tw_665 (by decide) (cf_Court ) rfl (fits9 (by first | decide | omega) (by decide)) rfl rfl hl.1 (Nat.le_of_ble_eq_true rfl) dX7_odds_25 ⟨Nat.zero_le _, Nat.zero_le _⟩) (fun H locs hP hS => ?_)
      refine lv_aload_n hx hb dX7_odds_28 rfl (lv_at hl 0 rfl) ?_
      refine lv_aload_n hx hb dX7_odds_29 rfl (lv_at hl 0 rfl) ?_
      refine g_LP_court X hP  tw_66 dX7_odds_30 ?_
      refine lv_iload_n hx hb dX7_odds_33 rfl (lv_at hl 1 rfl) ?_
      obtain ⟨q9, e10, hf⟩ := bind_some hf
      refine aftI hS (cV (rest := [.ref (ad 0)]) X hP hS [.int x1] (m_X1_timesOne  e10) cw_X1_timesOne tw_212 tw_481 tw_668 (by decide) (cf_Court ) rfl (fits9 (by first | decide | omega) (by decide)) rfl rfl hl.1 (Nat.le_of_ble_eq_true rfl) dX7_odds_34 ⟨Nat.zero_le _, Nat.zero_le _⟩) (fun H locs hP hS => ?_)
      refine lv_aload_n hx hb dX7_odds_37 rfl (lv_at hl 0 rfl) ?_
      refine g_LP_court X hP  tw_66 dX7_odds_38 ?_
      refine gN_Court_heard X hP  tw_36 dX7_odds_41 ?_
      obtain ⟨q11, e12, hf⟩ := bind_some hf
      refine aftV hS (cV (rest := []) X hP hS [.int q9.1, .int (q9.2.1 31 0 0)] (m_X7_tellFraction  e12) cw_X7_tellFraction tw_217 tw_486 tw_757 (by decide) (cf_LP ) rfl (fits9 (by first | decide | omega) (by decide)) rfl rfl hl.1 (Nat.le_of_ble_eq_true rfl) dX7_odds_44 ⟨Nat.zero_le _, Nat.zero_le _⟩) (fun H locs hP hS => ?_)
      refine lv_iconst (v := (1 : Int32)) hx hb dX7_odds_47 (by decide) ?_
      cases hf
      exact rtI X hr hlk hP hS dX7_odds_48
    · rw [if_pos c6] at hf
      refine lv_iconst (v := (-1 : Int32)) hx hb dX7_odds_14 (by decide) ?_
      cases hf
      exact rtI X hr hlk hP hS dX7_odds_15
/-! X7_rip -/
section
variable {p : Program} {l : Launch} {e : Env} {s : State} {m : MethodId} {args : Array Value} {below : List Frame} {meth : Method} {c : Code}
variable {D : va_G} {cI cP cB cA : ClassId} {ad : Nat → Nat} {tL tC : Nat}
end
set_option maxHeartbeats 4000000 in
set_option maxRecDepth 100000 in
theorem m_X7_rip {l : Launch} {D : va_G} {cI cP cB cA : ClassId} {ad : Nat → Nat} {tL tC : Nat} {S : Stt} {res : Int32 × Stt} (hf : f_X7_rip  S = some res) : Ct l D cI cP cB cA 79 ad tL tC yX7_rip cX7_rip 1 (some .int) 5 [.ref (ad 0)] (cfC ad cI cP cB cA S) (QI D 79 ad res.1 (cfC ad cI cP cB cA res.2)) := by
  refine ctOf (by decide) (Nat.le_of_ble_eq_true rfl) ?_
  intro p e s m args below meth c ls X hr hlk hP hl
  have hS : va_S (Ar 79 ad) s.heap s.heap [] := va_S.rf
  have hx := X.1.1
  have hb := X.1.2.1
  have hl : lv_has ls 1 [(0, .ref (ad 0))] := hl
  unfold f_X7_rip at hf
  refine lv_aload_n hx hb dX7_rip_0 rfl (lv_at hl 0 rfl) ?_
  refine g_LP_book X hP  tw_62 dX7_rip_1 ?_
  refine gN_Book_count X hP (by decide) tw_28 dX7_rip_4 ?_
  refine lv_if_ne (tgt := 13) hx hb dX7_rip_7 (by decide) (fun c1 => ?_) (fun c1 => ?_)
  · rw [if_neg c1] at hf
    refine lv_aload_n hx hb dX7_rip_13 rfl (lv_at hl 0 rfl) ?_
    refine g_LP_book X hP  tw_62 dX7_rip_14 ?_
    obtain ⟨q2, e3, hf⟩ := bind_some hf
    refine aftV hS (cV (rest := []) X hP hS [] (m_X0_dropLast (by decide) e3) cw_X0_dropLast tw_189 tw_463 tw_648 (bk_lt (by decide)) (cf_Book (by decide)) rfl (fits9 (by first | decide | omega) (by decide)) rfl rfl hl.1 (Nat.le_of_ble_eq_true rfl) dX7_rip_17 ⟨Nat.zero_le _, Nat.zero_le _⟩) (fun H locs hP hS => ?_)
    refine lv_aload_n hx hb dX7_rip_20 rfl (lv_at hl 0 rfl) ?_
    refine g_LP_book X hP  tw_62 dX7_rip_21 ?_
    refine gN_Book_count X hP (by decide) tw_28 dX7_rip_24 ?_
    cases hf
    exact rtI X hr hlk hP hS dX7_rip_27
  · rw [if_pos c1] at hf
    refine lv_bipush (v := (-4 : Int32)) hx hb dX7_rip_10 (by decide) ?_
    cases hf
    exact rtI X hr hlk hP hS dX7_rip_12
/-! X7_verdict -/
section
variable {p : Program} {l : Launch} {e : Env} {s : State} {m : MethodId} {args : Array Value} {below : List Frame} {meth : Method} {c : Code}
variable {D : va_G} {cI cP cB cA : ClassId} {ad : Nat → Nat} {tL tC : Nat}
end
set_option maxHeartbeats 4000000 in
set_option maxRecDepth 100000 in
theorem m_X7_verdict {l : Launch} {D : va_G} {cI cP cB cA : ClassId} {ad : Nat → Nat} {tL tC : Nat} {x1 : Int32} {x2 : Int32} {S : Stt} {res : Int32 × Stt} (hf : f_X7_verdict x1 x2 S = some res) : Ct l D cI cP cB cA 79 ad tL tC yX7_verdict cX7_verdict 3 (some .int) 5 [.ref (ad 0), .int x1, .int x2] (cfC ad cI cP cB cA S) (QI D 79 ad res.1 (cfC ad cI cP cB cA res.2)) := by
  refine ctOf (by decide) (Nat.le_of_ble_eq_true rfl) ?_
  intro p e s m args below meth c ls X hr hlk hP hl
  have hS : va_S (Ar 79 ad) s.heap s.heap [] := va_S.rf
  have hx := X.1.1
  have hb := X.1.2.1
  have hl : lv_has ls 3 [(0, .ref (ad 0)), (1, .int x1), (2, .int x2)] := hl
  unfold f_X7_verdict at hf
  refine lv_iload_n hx hb dX7_verdict_0 rfl (lv_at hl 1 rfl) ?_
  obtain ⟨q1, e2, hf⟩ := bind_some hf
  refine aftI hS (cS (rest := []) X hP hS [.int x1] (m_X7_isCase  e2) cw_X7_isCase tw_204 tw_476 (fits9 (by first | decide | omega) (by decide)) rfl rfl hl.1 (Nat.le_of_ble_eq_true rfl) dX7_verdict_1 ⟨Nat.zero_le _, Nat.zero_le _⟩) (fun H locs hP hS => ?_)
  refine lv_if_eq (tgt := 14) hx hb dX7_verdict_4 (by decide) (fun c3 => ?_) (fun c3 => ?_)
  · rw [if_pos c3] at hf
    refine lv_iconst (v := (-1 : Int32)) hx hb dX7_verdict_14 (by decide) ?_
    cases hf
    exact rtI X hr hlk hP hS dX7_verdict_15
  · rw [if_neg c3] at hf
    refine lv_iload_n hx hb dX7_verdict_7 rfl (lv_at hl 2 rfl) ?_
    obtain ⟨q4, e5, hf⟩ := bind_some hf
    refine aftI hS (cS (rest := []) X hP hS [.int x2] (m_X7_isDay  e5) cw_X7_isDay tw_194 tw_468 (fits9 (by first | decide | omega) (by decide)) rfl rfl hl.1 (Nat.le_of_ble_eq_true rfl) dX7_verdict_8 ⟨Nat.zero_le _, Nat.zero_le _⟩) (fun H locs hP hS => ?_)
    refine lv_if_ne (tgt := 16) hx hb dX7_verdict_11 (by decide) (fun c6 => ?_) (fun c6 => ?_)
    · rw [if_neg c6] at hf
      refine lv_aload_n hx hb dX7_verdict_16 rfl (lv_at hl 0 rfl) ?_
      refine g_LP_court X hP  tw_66 dX7_verdict_17 ?_
      refine lv_aload_n hx hb dX7_verdict_20 rfl (lv_at hl 0 rfl) ?_
      refine g_LP_book X hP  tw_62 dX7_verdict_21 ?_
      refine lv_iload_n hx hb dX7_verdict_24 rfl (lv_at hl 2 rfl) ?_
      obtain ⟨q7, e8, hf⟩ := bind_some hf
      refine aftV hS (cV (rest := []) X hP hS [.ref (ad (34 + 0)), .int x2] (m_X1_hear (by decide) e8) cw_X1_hear tw_205 tw_477 tw_665 (by decide) (cf_Court ) rfl (fits9 (by first | decide | omega) (by decide)) rfl rfl hl.1 (Nat.le_of_ble_eq_true rfl) dX7_verdict_25 ⟨Nat.zero_le _, Nat.zero_le _⟩) (fun H locs hP hS => ?_)
      refine lv_aload_n hx hb dX7_verdict_28 rfl (lv_at hl 0 rfl) ?_
      refine lv_aload_n hx hb dX7_verdict_29 rfl (lv_at hl 0 rfl) ?_
      refine g_LP_court X hP  tw_66 dX7_verdict_30 ?_
      refine lv_iload_n hx hb dX7_verdict_33 rfl (lv_at hl 1 rfl) ?_
      obtain ⟨q9, e10, hf⟩ := bind_some hf
      refine aftI hS (cV (rest := [.ref (ad 0)]) X hP hS [.int x1] (m_X1_timesOne  e10) cw_X1_timesOne tw_212 tw_481 tw_668 (by decide) (cf_Court ) rfl (fits9 (by first | decide | omega) (by decide)) rfl rfl hl.1 (Nat.le_of_ble_eq_true rfl) dX7_verdict_34 ⟨Nat.zero_le _, Nat.zero_le _⟩) (fun H locs hP hS => ?_)
      refine p_LP_lastAsked X hP hS  tw_71 dX7_verdict_37 (fun H locs hP hS => ?_)
      refine lv_aload_n hx hb dX7_verdict_40 rfl (lv_at hl 0 rfl) ?_
      refine g_LP_court X hP  tw_66 dX7_verdict_41 ?_
      refine lv_iload_n hx hb dX7_verdict_44 rfl (lv_at hl 1 rfl) ?_
      obtain ⟨q11, e12, hf⟩ := bind_some hf
      refine aftI hS (cV (rest := []) X hP hS [.int x1] (m_X1_stateOf  e12) cw_X1_stateOf tw_213 tw_482 tw_669 (by decide) (cf_Court ) rfl (fits9 (by first | decide | omega) (by decide)) rfl rfl hl.1 (Nat.le_of_ble_eq_true rfl) dX7_verdict_45 ⟨Nat.zero_le _, Nat.zero_le _⟩) (fun H locs hP hS => ?_)
      cases hf
      exact rtI X hr hlk hP hS dX7_verdict_48
    · rw [if_pos c6] at hf
      refine lv_iconst (v := (-1 : Int32)) hx hb dX7_verdict_14 (by decide) ?_
      cases hf
      exact rtI X hr hlk hP hS dX7_verdict_15
/-! X7_waits -/
section
variable {p : Program} {l : Launch} {e : Env} {s : State} {m : MethodId} {args : Array Value} {below : List Frame} {meth : Method} {c : Code}
variable {D : va_G} {cI cP cB cA : ClassId} {ad : Nat → Nat} {tL tC : Nat}
end
set_option maxHeartbeats 4000000 in
set_option maxRecDepth 100000 in
theorem m_X7_waits {l : Launch} {D : va_G} {cI cP cB cA : ClassId} {ad : Nat → Nat} {tL tC : Nat} {x1 : Int32} {S : Stt} {res : Int32 × Stt} (hf : f_X7_waits x1 S = some res) : Ct l D cI cP cB cA 79 ad tL tC yX7_waits cX7_waits 2 (some .int) 5 [.ref (ad 0), .int x1] (cfC ad cI cP cB cA S) (QI D 79 ad res.1 (cfC ad cI cP cB cA res.2)) := by
  refine ctOf (by decide) (Nat.le_of_ble_eq_true rfl) ?_
  intro p e s m args below meth c ls X hr hlk hP hl
  have hS : va_S (Ar 79 ad) s.heap s.heap [] := va_S.rf
  have hx := X.1.1
  have hb := X.1.2.1
  have hl : lv_has ls 2 [(0, .ref (ad 0)), (1, .int x1)] := hl
  unfold f_X7_waits at hf
  refine lv_iload_n hx hb dX7_waits_0 rfl (lv_at hl 1 rfl) ?_
  obtain ⟨q1, e2, hf⟩ := bind_some hf
  refine aftI hS (cS (rest := []) X hP hS [.int x1] (m_X7_isDay  e2) cw_X7_isDay tw_194 tw_468 (fits9 (by first | decide | omega) (by decide)) rfl rfl hl.1 (Nat.le_of_ble_eq_true rfl) dX7_waits_1 ⟨Nat.zero_le _, Nat.zero_le _⟩) (fun H locs hP hS => ?_)
  refine lv_if_ne (tgt := 9) hx hb dX7_waits_4 (by decide) (fun c3 => ?_) (fun c3 => ?_)
  · rw [if_neg c3] at hf
    refine lv_aload_n hx hb dX7_waits_9 rfl (lv_at hl 0 rfl) ?_
    refine g_LP_court X hP  tw_66 dX7_waits_10 ?_
    refine lv_aload_n hx hb dX7_waits_13 rfl (lv_at hl 0 rfl) ?_
    refine g_LP_book X hP  tw_62 dX7_waits_14 ?_
    refine lv_iload_n hx hb dX7_waits_17 rfl (lv_at hl 1 rfl) ?_
    obtain ⟨q4, e5, hf⟩ := bind_some hf
    refine aftV hS (cV (rest := []) X hP hS [.ref (ad (34 + 0)), .int x1] (m_X1_hear (by decide) e5) cw_X1_hear tw_205 tw_477 tw_665 (by decide) (cf_Court ) rfl (fits9 (by first | decide | omega) (by decide)) rfl rfl hl.1 (Nat.le_of_ble_eq_true rfl) dX7_waits_18 ⟨Nat.zero_le _, Nat.zero_le _⟩) (fun H locs hP hS => ?_)
    refine lv_aload_n hx hb dX7_waits_21 rfl (lv_at hl 0 rfl) ?_
    refine lv_aload_n hx hb dX7_waits_22 rfl (lv_at hl 0 rfl) ?_
    refine g_LP_court X hP  tw_66 dX7_waits_23 ?_
    refine gN_Court_always X hP  tw_38 dX7_waits_26 ?_
    obtain ⟨q6, e7, hf⟩ := bind_some hf
    refine aftI hS (cS (rest := [.ref (ad 0)]) X hP hS [.int (q4.1 32 0 0)] (m_J6_bitCount_0f7a4  e7) cw_J6_bitCount_0f7a4 tw_200 tw_438 (fits9 (by first | decide | omega) (by decide)) rfl rfl hl.1 (Nat.le_of_ble_eq_true rfl) dX7_waits_29 ⟨Nat.zero_le _, Nat.zero_le _⟩) (fun H locs hP hS => ?_)
    refine p_LP_lastAsked X hP hS  tw_71 dX7_waits_32 (fun H locs hP hS => ?_)
    refine lv_aload_n hx hb dX7_waits_35 rfl (lv_at hl 0 rfl) ?_
    refine g_LP_court X hP  tw_66 dX7_waits_36 ?_
    obtain ⟨q8, e9, hf⟩ := bind_some hf
    refine aftI hS (cV (rest := []) X hP hS [] (m_X1_waiting  e9) cw_X1_waiting tw_219 tw_488 tw_667 (by decide) (cf_Court ) rfl (fits9 (by first | decide | omega) (by decide)) rfl rfl hl.1 (Nat.le_of_ble_eq_true rfl) dX7_waits_39 ⟨Nat.zero_le _, Nat.zero_le _⟩) (fun H locs hP hS => ?_)
    obtain ⟨q10, e11, hf⟩ := bind_some hf
    refine aftI hS (cS (rest := []) X hP hS [.int q8.1] (m_J6_bitCount_0f7a4  e11) cw_J6_bitCount_0f7a4 tw_200 tw_438 (fits9 (by first | decide | omega) (by decide)) rfl rfl hl.1 (Nat.le_of_ble_eq_true rfl) dX7_waits_42 ⟨Nat.zero_le _, Nat.zero_le _⟩) (fun H locs hP hS => ?_)
    cases hf
    exact rtI X hr hlk hP hS dX7_waits_45
  · rw [if_pos c3] at hf
    refine lv_iconst (v := (-1 : Int32)) hx hb dX7_waits_7 (by decide) ?_
    cases hf
    exact rtI X hr hlk hP hS dX7_waits_8
/-! X8_binds -/
section
variable {p : Program} {l : Launch} {e : Env} {s : State} {m : MethodId} {args : Array Value} {below : List Frame} {meth : Method} {c : Code}
variable {D : va_G} {cI cP cB cA : ClassId} {ad : Nat → Nat} {tL tC : Nat}
end
set_option maxHeartbeats 4000000 in
set_option maxRecDepth 100000 in
theorem m_X8_binds {l : Launch} {D : va_G} {cI cP cB cA : ClassId} {ad : Nat → Nat} {tL tC : Nat} {x1 : Int32} {S : Stt} {res : Int32 × Stt} (hf : f_X8_binds x1 S = some res) : Ct l D cI cP cB cA 19 ad tL tC yX8_binds cX8_binds 2 (some .int) 5 [.ref (ad 0), .int x1] (cfM ad cI S) (QI D 19 ad res.1 (cfM ad cI res.2)) := by
  refine ctOf (by decide) (Nat.le_of_ble_eq_true rfl) ?_
  intro p e s m args below meth c ls X hr hlk hP hl
  have hS : va_S (Ar 19 ad) s.heap s.heap [] := va_S.rf
  have hx := X.1.1
  have hb := X.1.2.1
  have hl : lv_has ls 2 [(0, .ref (ad 0)), (1, .int x1)] := hl
  unfold f_X8_binds at hf
  refine lv_iload_n hx hb dX8_binds_0 rfl (lv_at hl 1 rfl) ?_
  obtain ⟨q1, e2, hf⟩ := bind_some hf
  refine aftI hS (cS (rest := []) X hP hS [.int x1] (m_X8_isDay  e2) cw_X8_isDay tw_317 tw_574 (fits9 (by first | decide | omega) (by decide)) rfl rfl hl.1 (Nat.le_of_ble_eq_true rfl) dX8_binds_1 ⟨Nat.zero_le _, Nat.zero_le _⟩) (fun H locs hP hS => ?_)
  refine lv_if_eq (tgt := 15) hx hb dX8_binds_4 (by decide) (fun c3 => ?_) (fun c3 => ?_)
  · rw [if_pos c3] at hf
    refine lv_iconst (v := (-1 : Int32)) hx hb dX8_binds_15 (by decide) ?_
    cases hf
    exact rtI X hr hlk hP hS dX8_binds_16
  · rw [if_neg c3] at hf
    refine lv_aload_n hx hb dX8_binds_7 rfl (lv_at hl 0 rfl) ?_
    refine lv_iload_n hx hb dX8_binds_8 rfl (lv_at hl 1 rfl) ?_
    obtain ⟨q4, e5, hf⟩ := bind_some hf
    refine aftI hS (cV (rest := []) X hP hS [.int x1] (m_X8_bindSet  e5) cw_X8_bindSet tw_318 tw_575 tw_788 (by decide) (cf_M ) rfl (fits9 (by first | decide | omega) (by decide)) rfl rfl hl.1 (Nat.le_of_ble_eq_true rfl) dX8_binds_9 ⟨Nat.zero_le _, Nat.zero_le _⟩) (fun H locs hP hS => ?_)
    refine lv_goto (tgt := 16) hx hb dX8_binds_12 (by decide) ?_
    cases hf
    exact rtI X hr hlk hP hS dX8_binds_16
/-! X8_book -/
section
variable {p : Program} {l : Launch} {e : Env} {s : State} {m : MethodId} {args : Array Value} {below : List Frame} {meth : Method} {c : Code}
variable {D : va_G} {cI cP cB cA : ClassId} {ad : Nat → Nat} {tL tC : Nat}
set_option maxHeartbeats 4000000 in
set_option maxRecDepth 100000 in
theorem vb_X8_book_35 (X : Cx D cI cP cB cA 19 ad tL tC p s m c cX8_book 4 args RX8) (hr : meth.sig.returnType = (some .int)) (hlk : meth.locks = false) {res : Int32 × Stt} (kb : Int32 → Stt → Option (Int32 × Stt)) (ke : Stt → Option (Int32 × Stt)) (hkb : ∀ (x3 : Int32) (S : Stt) (H : Heap) (locs : List Loc) (ls : Array Slot), kb x3 S = some res → va_P D vwCl (wl 19 ad (cfM ad cI S)) H → va_S (Ar 19 ad) s.heap H locs → lv_has ls 4 [(0, .ref (ad 0)), (3, .int x3)] → W p l e (rmD 5) s m args below meth c H locs 0 0 (MQ below (QI D 19 ad res.1 (cfM ad cI res.2)) args s 0 0 (Ar 19 ad)) (F0 m 35 ls [])) (hke : ∀ (S : Stt) (H : Heap) (locs : List Loc) (ls : Array Slot), ke S = some res → va_P D vwCl (wl 19 ad (cfM ad cI S)) H → va_S (Ar 19 ad) s.heap H locs → lv_has ls 4 [(0, .ref (ad 0))] → W p l e (rmD 5) s m args below meth c H locs 0 0 (MQ below (QI D 19 ad res.1 (cfM ad cI res.2)) args s 0 0 (Ar 19 ad)) (F0 m 141 ls [])) : ∀ (x3 : Int32) (S : Stt) (H : Heap) (locs : List Loc) (ls : Array Slot), fb_X8_book_35 kb ke x3 S = some res → va_P D vwCl (wl 19 ad (cfM ad cI S)) H → va_S (Ar 19 ad) s.heap H locs → lv_has ls 4 [(0, .ref (ad 0)), (3, .int x3)] → W p l e (rmD 5) s m args below meth c H locs 0 0 (MQ below (QI D 19 ad res.1 (cfM ad cI res.2)) args s 0 0 (Ar 19 ad)) (F0 m 35 ls []) := by
  intro x3 S H locs ls hf hP hS hl
  have hx := X.1.1
  have hb := X.1.2.1
  unfold fb_X8_book_35 at hf
  refine lv_iload_n hx hb dX8_book_35 rfl (lv_at hl 1 rfl) ?_
  refine lv_aload_n hx hb dX8_book_36 rfl (lv_at hl 0 rfl) ?_
  refine g_M_many X hP  tw_86 dX8_book_37 ?_
  refine lv_icmp_ge (tgt := 141) hx hb dX8_book_40 (by decide) (fun c7 => ?_) (fun c7 => ?_)
  · rw [if_pos c7] at hf
    exact hke  _ _ _ ls hf  hP hS (lv_sub hl [0] rfl)
  · rw [if_neg c7] at hf
    refine lv_aload_n hx hb dX8_book_43 rfl (lv_at hl 0 rfl) ?_
    refine g_M_kinds X hP  tw_87 dX8_book_44 ?_
    refine lv_iload_n hx hb dX8_book_47 rfl (lv_at hl 1 rfl) ?_
    refine lv_aload_n hx hb dX8_book_48 rfl (lv_at hl 0 rfl) ?_
    refine g_M_readPages X hP  tw_95 dX8_book_49 ?_
    refine lv_iconst (v := (5 : Int32)) hx hb dX8_book_52 (by decide) ?_
    refine lv_iload_n hx hb dX8_book_53 rfl (lv_at hl 1 rfl) ?_
    refine lv_imul hx hb dX8_book_54 ?_
    obtain ⟨g8, hf⟩ := grd_some hf
    refine r_m_readPages X hP  g8 dX8_book_55 ?_
    obtain ⟨g9, hf⟩ := grd_some hf
    refine w_m_kinds X hP hS  g9 dX8_book_56 (fun H locs hP hS => ?_)
    refine lv_aload_n hx hb dX8_book_57 rfl (lv_at hl 0 rfl) ?_
    refine g_M_verdicts X hP  tw_88 dX8_book_58 ?_
    refine lv_iload_n hx hb dX8_book_61 rfl (lv_at hl 1 rfl) ?_
    refine lv_aload_n hx hb dX8_book_62 rfl (lv_at hl 0 rfl) ?_
    refine g_M_readPages X hP  tw_95 dX8_book_63 ?_
    refine lv_iconst (v := (5 : Int32)) hx hb dX8_book_66 (by decide) ?_
    refine lv_iload_n hx hb dX8_book_67 rfl (lv_at hl 1 rfl) ?_
    refine lv_imul hx hb dX8_book_68 ?_
    refine lv_iconst (v := (1 : Int32)) hx hb dX8_book_69 (by decide) ?_
    refine lv_iadd hx hb dX8_book_70 ?_
    obtain ⟨g10, hf⟩ := grd_some hf
    refine r_m_readPages X hP  g10 dX8_book_71 ?_
    obtain ⟨g11, hf⟩ := grd_some hf
    refine w_m_verdicts X hP hS  g11 dX8_book_72 (fun H locs hP hS => ?_)
    refine lv_aload_n hx hb dX8_book_73 rfl (lv_at hl 0 rfl) ?_
    refine g_M_words X hP  tw_89 dX8_book_74 ?_
    refine lv_iload_n hx hb dX8_book_77 rfl (lv_at hl 1 rfl) ?_
    refine lv_aload_n hx hb dX8_book_78 rfl (lv_at hl 0 rfl) ?_
    refine g_M_readPages X hP  tw_95 dX8_book_79 ?_
    refine lv_iconst (v := (5 : Int32)) hx hb dX8_book_82 (by decide) ?_
    refine lv_iload_n hx hb dX8_book_83 rfl (lv_at hl 1 rfl) ?_
    refine lv_imul hx hb dX8_book_84 ?_
    refine lv_iconst (v := (2 : Int32)) hx hb dX8_book_85 (by decide) ?_
    refine lv_iadd hx hb dX8_book_86 ?_
    obtain ⟨g12, hf⟩ := grd_some hf
    refine r_m_readPages X hP  g12 dX8_book_87 ?_
    obtain ⟨g13, hf⟩ := grd_some hf
    refine w_m_words X hP hS  g13 dX8_book_88 (fun H locs hP hS => ?_)
    refine lv_aload_n hx hb dX8_book_89 rfl (lv_at hl 0 rfl) ?_
    refine g_M_points X hP  tw_90 dX8_book_90 ?_
    refine lv_iload_n hx hb dX8_book_93 rfl (lv_at hl 1 rfl) ?_
    refine lv_aload_n hx hb dX8_book_94 rfl (lv_at hl 0 rfl) ?_
    refine g_M_readPages X hP  tw_95 dX8_book_95 ?_
    refine lv_iconst (v := (5 : Int32)) hx hb dX8_book_98 (by decide) ?_
    refine lv_iload_n hx hb dX8_book_99 rfl (lv_at hl 1 rfl) ?_
    refine lv_imul hx hb dX8_book_100 ?_
    refine lv_iconst (v := (3 : Int32)) hx hb dX8_book_101 (by decide) ?_
    refine lv_iadd hx hb dX8_book_102 ?_
    obtain ⟨g14, hf⟩ := grd_some hf
    refine r_m_readPages X hP  g14 dX8_book_103 ?_
    obtain ⟨g15, hf⟩ := grd_some hf
    refine w_m_points X hP hS  g15 dX8_book_104 (fun H locs hP hS => ?_)
    refine lv_aload_n hx hb dX8_book_105 rfl (lv_at hl 0 rfl) ?_
    refine g_M_facts X hP  tw_91 dX8_book_106 ?_
    refine lv_iload_n hx hb dX8_book_109 rfl (lv_at hl 1 rfl) ?_
    refine lv_aload_n hx hb dX8_book_110 rfl (lv_at hl 0 rfl) ?_
    refine g_M_readPages X hP  tw_95 dX8_book_111 ?_
    refine lv_iconst (v := (5 : Int32)) hx hb dX8_book_114 (by decide) ?_
    refine lv_iload_n hx hb dX8_book_115 rfl (lv_at hl 1 rfl) ?_
    refine lv_imul hx hb dX8_book_116 ?_
    refine lv_iconst (v := (4 : Int32)) hx hb dX8_book_117 (by decide) ?_
    refine lv_iadd hx hb dX8_book_118 ?_
    obtain ⟨g16, hf⟩ := grd_some hf
    refine r_m_readPages X hP  g16 dX8_book_119 ?_
    obtain ⟨g17, hf⟩ := grd_some hf
    refine w_m_facts X hP hS  g17 dX8_book_120 (fun H locs hP hS => ?_)
    refine lv_aload_n hx hb dX8_book_121 rfl (lv_at hl 0 rfl) ?_
    refine g_M_days X hP  tw_92 dX8_book_122 ?_
    refine lv_iload_n hx hb dX8_book_125 rfl (lv_at hl 1 rfl) ?_
    refine lv_aload_n hx hb dX8_book_126 rfl (lv_at hl 0 rfl) ?_
    refine g_M_many X hP  tw_86 dX8_book_127 ?_
    refine lv_iconst (v := (1 : Int32)) hx hb dX8_book_130 (by decide) ?_
    refine lv_isub hx hb dX8_book_131 ?_
    refine lv_iload_n hx hb dX8_book_132 rfl (lv_at hl 1 rfl) ?_
    refine lv_isub hx hb dX8_book_133 ?_
    obtain ⟨g18, hf⟩ := grd_some hf
    refine w_m_days X hP hS  g18 dX8_book_134 (fun H locs hP hS => ?_)
    refine lv_iinc (v := (x3 + (1 : Int32))) (lv' := [(3, .int (x3 + (1 : Int32))), (0, .ref (ad 0))]) hx hb dX8_book_135 hl (k := 1) rfl rfl (by decide) rfl (fun ls hl => ?_)
    refine lv_goto (tgt := 35) hx hb dX8_book_138 (by decide) ?_
    exact hkb _ _ _ _ ls hf  hP hS (lv_sub hl [1, 0] rfl)
set_option maxHeartbeats 4000000 in
set_option maxRecDepth 100000 in
theorem vl_X8_book_35 (X : Cx D cI cP cB cA 19 ad tL tC p s m c cX8_book 4 args RX8) (hr : meth.sig.returnType = (some .int)) (hlk : meth.locks = false) {res : Int32 × Stt} (ke : Stt → Option (Int32 × Stt)) (hke : ∀ (S : Stt) (H : Heap) (locs : List Loc) (ls : Array Slot), ke S = some res → va_P D vwCl (wl 19 ad (cfM ad cI S)) H → va_S (Ar 19 ad) s.heap H locs → lv_has ls 4 [(0, .ref (ad 0))] → W p l e (rmD 5) s m args below meth c H locs 0 0 (MQ below (QI D 19 ad res.1 (cfM ad cI res.2)) args s 0 0 (Ar 19 ad)) (F0 m 141 ls [])) : ∀ (n : Nat), ∀ (x3 : Int32) (S : Stt) (H : Heap) (locs : List Loc) (ls : Array Slot), fl_X8_book_35 ke n x3 S = some res → va_P D vwCl (wl 19 ad (cfM ad cI S)) H → va_S (Ar 19 ad) s.heap H locs → lv_has ls 4 [(0, .ref (ad 0)), (3, .int x3)] → W p l e (rmD 5) s m args below meth c H locs 0 0 (MQ below (QI D 19 ad res.1 (cfM ad cI res.2)) args s 0 0 (Ar 19 ad)) (F0 m 35 ls []) := by
  intro n
  induction n with
  | zero =>
    intro x3 S H locs ls hf hP hS hl
    cases hf
  | succ n ih =>
    intro x3 S H locs ls hf hP hS hl
    exact vb_X8_book_35 X hr hlk _ ke ih hke x3 S H locs ls hf  hP hS hl
set_option maxHeartbeats 4000000 in
set_option maxRecDepth 100000 in
theorem vb_X8_book_143 (X : Cx D cI cP cB cA 19 ad tL tC p s m c cX8_book 4 args RX8) (hr : meth.sig.returnType = (some .int)) (hlk : meth.locks = false) {res : Int32 × Stt} (kb : Int32 → Stt → Option (Int32 × Stt)) (ke : Stt → Option (Int32 × Stt)) (hkb : ∀ (x3 : Int32) (S : Stt) (H : Heap) (locs : List Loc) (ls : Array Slot), kb x3 S = some res → va_P D vwCl (wl 19 ad (cfM ad cI S)) H → va_S (Ar 19 ad) s.heap H locs → lv_has ls 4 [(0, .ref (ad 0)), (3, .int x3)] → W p l e (rmD 5) s m args below meth c H locs 0 0 (MQ below (QI D 19 ad res.1 (cfM ad cI res.2)) args s 0 0 (Ar 19 ad)) (F0 m 143 ls [])) (hke : ∀ (S : Stt) (H : Heap) (locs : List Loc) (ls : Array Slot), ke S = some res → va_P D vwCl (wl 19 ad (cfM ad cI S)) H → va_S (Ar 19 ad) s.heap H locs → lv_has ls 4 [(0, .ref (ad 0))] → W p l e (rmD 5) s m args below meth c H locs 0 0 (MQ below (QI D 19 ad res.1 (cfM ad cI res.2)) args s 0 0 (Ar 19 ad)) (F0 m 165 ls [])) : ∀ (x3 : Int32) (S : Stt) (H : Heap) (locs : List Loc) (ls : Array Slot), fb_X8_book_143 kb ke x3 S = some res → va_P D vwCl (wl 19 ad (cfM ad cI S)) H → va_S (Ar 19 ad) s.heap H locs → lv_has ls 4 [(0, .ref (ad 0)), (3, .int x3)] → W p l e (rmD 5) s m args below meth c H locs 0 0 (MQ below (QI D 19 ad res.1 (cfM ad cI res.2)) args s 0 0 (Ar 19 ad)) (F0 m 143 ls []) := by
  intro x3 S H locs ls hf hP hS hl
  have hx := X.1.1
  have hb := X.1.2.1
  unfold fb_X8_book_143 at hf
  refine lv_iload_n hx hb dX8_book_143 rfl (lv_at hl 1 rfl) ?_
  refine lv_iconst (v := (3 : Int32)) hx hb dX8_book_144 (by decide) ?_
  refine lv_icmp_ge (tgt := 165) hx hb dX8_book_145 (by decide) (fun c19 => ?_) (fun c19 => ?_)
  · rw [if_pos c19] at hf
    exact hke  _ _ _ ls hf  hP hS (lv_sub hl [0] rfl)
  · rw [if_neg c19] at hf
    refine lv_aload_n hx hb dX8_book_148 rfl (lv_at hl 0 rfl) ?_
    refine g_M_kept X hP  tw_97 dX8_book_149 ?_
    refine lv_bipush (v := (38 : Int32)) hx hb dX8_book_152 (by decide) ?_
    refine lv_iload_n hx hb dX8_book_154 rfl (lv_at hl 1 rfl) ?_
    refine lv_imul hx hb dX8_book_155 ?_
    refine lv_bipush (v := (-9 : Int32)) hx hb dX8_book_156 (by decide) ?_
    obtain ⟨g20, hf⟩ := grd_some hf
    refine w_m_kept X hP hS  g20 dX8_book_158 (fun H locs hP hS => ?_)
    refine lv_iinc (v := (x3 + (1 : Int32))) (lv' := [(3, .int (x3 + (1 : Int32))), (0, .ref (ad 0))]) hx hb dX8_book_159 hl (k := 1) rfl rfl (by decide) rfl (fun ls hl => ?_)
    refine lv_goto (tgt := 143) hx hb dX8_book_162 (by decide) ?_
    exact hkb _ _ _ _ ls hf  hP hS (lv_sub hl [1, 0] rfl)
set_option maxHeartbeats 4000000 in
set_option maxRecDepth 100000 in
theorem vl_X8_book_143 (X : Cx D cI cP cB cA 19 ad tL tC p s m c cX8_book 4 args RX8) (hr : meth.sig.returnType = (some .int)) (hlk : meth.locks = false) {res : Int32 × Stt} (ke : Stt → Option (Int32 × Stt)) (hke : ∀ (S : Stt) (H : Heap) (locs : List Loc) (ls : Array Slot), ke S = some res → va_P D vwCl (wl 19 ad (cfM ad cI S)) H → va_S (Ar 19 ad) s.heap H locs → lv_has ls 4 [(0, .ref (ad 0))] → W p l e (rmD 5) s m args below meth c H locs 0 0 (MQ below (QI D 19 ad res.1 (cfM ad cI res.2)) args s 0 0 (Ar 19 ad)) (F0 m 165 ls [])) : ∀ (n : Nat), ∀ (x3 : Int32) (S : Stt) (H : Heap) (locs : List Loc) (ls : Array Slot), fl_X8_book_143 ke n x3 S = some res → va_P D vwCl (wl 19 ad (cfM ad cI S)) H → va_S (Ar 19 ad) s.heap H locs → lv_has ls 4 [(0, .ref (ad 0)), (3, .int x3)] → W p l e (rmD 5) s m args below meth c H locs 0 0 (MQ below (QI D 19 ad res.1 (cfM ad cI res.2)) args s 0 0 (Ar 19 ad)) (F0 m 143 ls []) := by
  intro n
  induction n with
  | zero =>
    intro x3 S H locs ls hf hP hS hl
    cases hf
  | succ n ih =>
    intro x3 S H locs ls hf hP hS hl
    exact vb_X8_book_143 X hr hlk _ ke ih hke x3 S H locs ls hf  hP hS hl
end
set_option maxHeartbeats 4000000 in
set_option maxRecDepth 100000 in
theorem m_X8_book {l : Launch} {D : va_G} {cI cP cB cA : ClassId} {ad : Nat → Nat} {tL tC : Nat} {x1 : Int32} {S : Stt} {res : Int32 × Stt} (hf : f_X8_book x1 S = some res) : Ct l D cI cP cB cA 19 ad tL tC yX8_book cX8_book 4 (some .int) 5 [.ref (ad 0), .int x1] (cfM ad cI S) (QI D 19 ad res.1 (cfM ad cI res.2)) := by
  refine ctOf (by decide) (Nat.le_of_ble_eq_true rfl) ?_
  intro p e s m args below meth c ls X hr hlk hP hl
  have hS : va_S (Ar 19 ad) s.heap s.heap [] := va_S.rf
  have hx := X.1.1
  have hb := X.1.2.1
  have hl : lv_has ls 4 [(0, .ref (ad 0)), (1, .int x1)] := hl
  unfold f_X8_book at hf
  refine lv_aload_n hx hb dX8_book_0 rfl (lv_at hl 0 rfl) ?_
  refine lv_iload_n hx hb dX8_book_1 rfl (lv_at hl 1 rfl) ?_
  obtain ⟨q1, e2, hf⟩ := bind_some hf
  refine aftI hS (cV (rest := []) X hP hS [.int x1] (m_X8_askedText  e2) cw_X8_askedText tw_303 tw_560 tw_765 (by decide) (cf_M ) rfl (fits9 (by first | decide | omega) (by decide)) rfl rfl hl.1 (Nat.le_of_ble_eq_true rfl) dX8_book_2 ⟨Nat.zero_le _, Nat.zero_le _⟩) (fun H locs hP hS => ?_)
  refine lv_istore_n (lv' := [(2, .int q1.1), (0, .ref (ad 0)), (1, .int x1)]) hx hb dX8_book_5 rfl hl (by decide) rfl (fun ls hl => ?_)
  refine lv_iload_n hx hb dX8_book_6 rfl (lv_at hl 0 rfl) ?_
  refine lv_if_ge (tgt := 12) hx hb dX8_book_7 (by decide) (fun c3 => ?_) (fun c3 => ?_)
  · rw [if_pos c3] at hf
    refine lv_aload_n hx hb dX8_book_12 rfl (lv_at hl 1 rfl) ?_
    refine lv_iload_n hx hb dX8_book_13 rfl (lv_at hl 2 rfl) ?_
    obtain ⟨q4, e5, hf⟩ := bind_some hf
    refine aftI hS (cV (rest := []) X hP hS [.int x1] (m_X8_goesOn  e5) cw_X8_goesOn tw_305 tw_562 tw_780 (by decide) (cf_M ) rfl (fits9 (by first | decide | omega) (by decide)) rfl rfl hl.1 (Nat.le_of_ble_eq_true rfl) dX8_book_14 ⟨Nat.zero_le _, Nat.zero_le _⟩) (fun H locs hP hS => ?_)
    refine lv_bipush (v := (-9 : Int32)) hx hb dX8_book_17 (by decide) ?_
    refine lv_icmp_eq (tgt := 25) hx hb dX8_book_19 (by decide) (fun c6 => ?_) (fun c6 => ?_)
    · rw [if_pos c6] at hf
      refine lv_aload_n hx hb dX8_book_25 rfl (lv_at hl 1 rfl) ?_
      refine lv_aload_n hx hb dX8_book_26 rfl (lv_at hl 1 rfl) ?_
      refine g_M_readMany X hP  tw_94 dX8_book_27 ?_
      refine p_M_many X hP hS  tw_86 dX8_book_30 (fun H locs hP hS => ?_)
      refine lv_iconst (v := (0 : Int32)) hx hb dX8_book_33 (by decide) ?_
      refine lv_istore_n (lv' := [(3, .int (0 : Int32)), (2, .int q1.1), (0, .ref (ad 0)), (1, .int x1)]) hx hb dX8_book_34 rfl hl (by decide) rfl (fun ls hl => ?_)
      refine vl_X8_book_35 X hr hlk _ ?_ 300 _ _ _ _ ls hf  hP hS (lv_sub hl [2, 0] rfl)
      intro S H locs ls hf hP hS hl
      refine lv_iconst (v := (0 : Int32)) hx hb dX8_book_141 (by decide) ?_
      refine lv_istore_n (lv' := [(3, .int (0 : Int32)), (0, .ref (ad 0))]) hx hb dX8_book_142 rfl hl (by decide) rfl (fun ls hl => ?_)
      refine vl_X8_book_143 X hr hlk _ ?_ 300 _ _ _ _ ls hf  hP hS (lv_sub hl [1, 0] rfl)
      intro S H locs ls hf hP hS hl
      refine lv_aload_n hx hb dX8_book_165 rfl (lv_at hl 0 rfl) ?_
      refine g_M_many X hP  tw_86 dX8_book_166 ?_
      cases hf
      exact rtI X hr hlk hP hS dX8_book_169
    · rw [if_neg c6] at hf
      refine lv_bipush (v := (-4 : Int32)) hx hb dX8_book_22 (by decide) ?_
      cases hf
      exact rtI X hr hlk hP hS dX8_book_24
  · rw [if_neg c3] at hf
    refine lv_iload_n hx hb dX8_book_10 rfl (lv_at hl 0 rfl) ?_
    cases hf
    exact rtI X hr hlk hP hS dX8_book_11
/-! X8_fault -/
section
variable {p : Program} {l : Launch} {e : Env} {s : State} {m : MethodId} {args : Array Value} {below : List Frame} {meth : Method} {c : Code}
variable {D : va_G} {cI cP cB cA : ClassId} {ad : Nat → Nat} {tL tC : Nat}
end
set_option maxHeartbeats 4000000 in
set_option maxRecDepth 100000 in
theorem m_X8_fault {l : Launch} {D : va_G} {cI cP cB cA : ClassId} {ad : Nat → Nat} {tL tC : Nat} {x1 : Int32} {S : Stt} {res : Int32 × Stt} (hf : f_X8_fault x1 S = some res) : Ct l D cI cP cB cA 19 ad tL tC yX8_fault cX8_fault 3 (some .int) 5 [.ref (ad 0), .int x1] (cfM ad cI S) (QI D 19 ad res.1 (cfM ad cI res.2)) := by
  refine ctOf (by decide) (Nat.le_of_ble_eq_true rfl) ?_
  intro p e s m args below meth c ls X hr hlk hP hl
  have hS : va_S (Ar 19 ad) s.heap s.heap [] := va_S.rf
  have hx := X.1.1
  have hb := X.1.2.1
  have hl : lv_has ls 3 [(0, .ref (ad 0)), (1, .int x1)] := hl
  unfold f_X8_fault at hf
  refine lv_aload_n hx hb dX8_fault_0 rfl (lv_at hl 0 rfl) ?_
  refine lv_iload_n hx hb dX8_fault_1 rfl (lv_at hl 1 rfl) ?_
  obtain ⟨q1, e2, hf⟩ := bind_some hf
  refine aftI hS (cV (rest := []) X hP hS [.int x1] (m_X8_askedText  e2) cw_X8_askedText tw_303 tw_560 tw_765 (by decide) (cf_M ) rfl (fits9 (by first | decide | omega) (by decide)) rfl rfl hl.1 (Nat.le_of_ble_eq_true rfl) dX8_fault_2 ⟨Nat.zero_le _, Nat.zero_le _⟩) (fun H locs hP hS => ?_)
  refine lv_istore_n (lv' := [(2, .int q1.1), (0, .ref (ad 0)), (1, .int x1)]) hx hb dX8_fault_5 rfl hl (by decide) rfl (fun ls hl => ?_)
  refine lv_iload_n hx hb dX8_fault_6 rfl (lv_at hl 0 rfl) ?_
  refine lv_if_ge (tgt := 14) hx hb dX8_fault_7 (by decide) (fun c3 => ?_) (fun c3 => ?_)
  · rw [if_pos c3] at hf
    refine lv_aload_n hx hb dX8_fault_14 rfl (lv_at hl 1 rfl) ?_
    refine lv_iload_n hx hb dX8_fault_15 rfl (lv_at hl 2 rfl) ?_
    obtain ⟨q4, e5, hf⟩ := bind_some hf
    refine aftI hS (cV (rest := []) X hP hS [.int x1] (m_X8_goesOn  e5) cw_X8_goesOn tw_305 tw_562 tw_780 (by decide) (cf_M ) rfl (fits9 (by first | decide | omega) (by decide)) rfl rfl hl.1 (Nat.le_of_ble_eq_true rfl) dX8_fault_16 ⟨Nat.zero_le _, Nat.zero_le _⟩) (fun H locs hP hS => ?_)
    cases hf
    exact rtI X hr hlk hP hS dX8_fault_19
  · rw [if_neg c3] at hf
    refine lv_iload_n hx hb dX8_fault_10 rfl (lv_at hl 0 rfl) ?_
    refine lv_goto (tgt := 19) hx hb dX8_fault_11 (by decide) ?_
    cases hf
    exact rtI X hr hlk hP hS dX8_fault_19
/-! X8_judge -/
section
variable {p : Program} {l : Launch} {e : Env} {s : State} {m : MethodId} {args : Array Value} {below : List Frame} {meth : Method} {c : Code}
variable {D : va_G} {cI cP cB cA : ClassId} {ad : Nat → Nat} {tL tC : Nat}
end
set_option maxHeartbeats 4000000 in
set_option maxRecDepth 100000 in
theorem m_X8_judge {l : Launch} {D : va_G} {cI cP cB cA : ClassId} {ad : Nat → Nat} {tL tC : Nat} {x1 : Int32} {x2 : Int32} {x3 : Int32} {S : Stt} {res : Int32 × Stt} (hf : f_X8_judge x1 x2 x3 S = some res) : Ct l D cI cP cB cA 19 ad tL tC yX8_judge cX8_judge 6 (some .int) 5 [.ref (ad 0), .int x1, .int x2, .int x3] (cfM ad cI S) (QI D 19 ad res.1 (cfM ad cI res.2)) := by
  refine ctOf (by decide) (Nat.le_of_ble_eq_true rfl) ?_
  intro p e s m args below meth c ls X hr hlk hP hl
  have hS : va_S (Ar 19 ad) s.heap s.heap [] := va_S.rf
  have hx := X.1.1
  have hb := X.1.2.1
  have hl : lv_has ls 6 [(0, .ref (ad 0)), (1, .int x1), (2, .int x2), (3, .int x3)] := hl
  unfold f_X8_judge at hf
  refine lv_iload_n hx hb dX8_judge_0 rfl (lv_at hl 1 rfl) ?_
  obtain ⟨q1, e2, hf⟩ := bind_some hf
  refine aftI hS (cS (rest := []) X hP hS [.int x1] (m_X8_isCase  e2) cw_X8_isCase tw_338 tw_595 (fits9 (by first | decide | omega) (by decide)) rfl rfl hl.1 (Nat.le_of_ble_eq_true rfl) dX8_judge_1 ⟨Nat.zero_le _, Nat.zero_le _⟩) (fun H locs hP hS => ?_)
  refine lv_if_eq (tgt := 24) hx hb dX8_judge_4 (by decide) (fun c3 => ?_) (fun c3 => ?_)
  · rw [if_pos c3] at hf
    refine lv_iconst (v := (-1 : Int32)) hx hb dX8_judge_24 (by decide) ?_
    cases hf
    exact rtI X hr hlk hP hS dX8_judge_25
  · rw [if_neg c3] at hf
    refine lv_iload_n hx hb dX8_judge_7 rfl (lv_at hl 3 rfl) ?_
    obtain ⟨q4, e5, hf⟩ := bind_some hf
    refine aftI hS (cS (rest := []) X hP hS [.int x3] (m_X8_isDay  e5) cw_X8_isDay tw_317 tw_574 (fits9 (by first | decide | omega) (by decide)) rfl rfl hl.1 (Nat.le_of_ble_eq_true rfl) dX8_judge_8 ⟨Nat.zero_le _, Nat.zero_le _⟩) (fun H locs hP hS => ?_)
    refine lv_if_eq (tgt := 24) hx hb dX8_judge_11 (by decide) (fun c6 => ?_) (fun c6 => ?_)
    · rw [if_pos c6] at hf
      refine lv_iconst (v := (-1 : Int32)) hx hb dX8_judge_24 (by decide) ?_
      cases hf
      exact rtI X hr hlk hP hS dX8_judge_25
    · rw [if_neg c6] at hf
      refine lv_iload_n hx hb dX8_judge_14 rfl (lv_at hl 2 rfl) ?_
      refine lv_iconst (v := (0 : Int32)) hx hb dX8_judge_15 (by decide) ?_
      refine lv_bipush (v := (44 : Int32)) hx hb dX8_judge_16 (by decide) ?_
      obtain ⟨q7, e8, hf⟩ := bind_some hf
      refine aftI hS (cS (rest := []) X hP hS [.int x2, .int (0 : Int32), .int (44 : Int32)] (m_X8_in  e8) cw_X8_in tw_288 tw_546 (fits9 (by first | decide | omega) (by decide)) rfl rfl hl.1 (Nat.le_of_ble_eq_true rfl) dX8_judge_18 ⟨Nat.zero_le _, Nat.zero_le _⟩) (fun H locs hP hS => ?_)
      refine lv_if_ne (tgt := 26) hx hb dX8_judge_21 (by decide) (fun c9 => ?_) (fun c9 => ?_)
      · rw [if_neg c9] at hf
        refine lv_iload_n hx hb dX8_judge_26 rfl (lv_at hl 2 rfl) ?_
        refine lv_bipush (v := (10 : Int32)) hx hb dX8_judge_27 (by decide) ?_
        refine lv_idiv hx hb dX8_judge_29 (by decide) ?_
        refine lv_istore (lv' := [(4, .int (x2 / (10 : Int32))), (0, .ref (ad 0)), (1, .int x1), (2, .int x2), (3, .int x3)]) hx hb dX8_judge_30 hl (by decide) rfl (fun ls hl => ?_)
        refine lv_iload_n hx hb dX8_judge_32 rfl (lv_at hl 3 rfl) ?_
        refine lv_bipush (v := (10 : Int32)) hx hb dX8_judge_33 (by decide) ?_
        refine lv_irem hx hb dX8_judge_35 (by decide) ?_
        refine lv_istore (lv' := [(5, .int (x2 - x2 / (10 : Int32) * (10 : Int32))), (4, .int (x2 / (10 : Int32))), (0, .ref (ad 0)), (1, .int x1), (2, .int x2), (3, .int x3)]) hx hb dX8_judge_36 hl (by decide) rfl (fun ls hl => ?_)
        refine lv_iload hx hb dX8_judge_38 (lv_at hl 0 rfl) ?_
        refine lv_iconst (v := (5 : Int32)) hx hb dX8_judge_40 (by decide) ?_
        refine lv_icmp_ge (tgt := 93) hx hb dX8_judge_41 (by decide) (fun c10 => ?_) (fun c10 => ?_)
        · rw [if_pos c10] at hf
          refine lv_iconst (v := (-1 : Int32)) hx hb dX8_judge_93 (by decide) ?_
          cases hf
          exact rtI X hr hlk hP hS dX8_judge_94
        · rw [if_neg c10] at hf
          refine lv_aload_n hx hb dX8_judge_44 rfl (lv_at hl 2 rfl) ?_
          refine lv_iconst (v := (5 : Int32)) hx hb dX8_judge_45 (by decide) ?_
          refine lv_iload_n hx hb dX8_judge_46 rfl (lv_at hl 5 rfl) ?_
          obtain ⟨q11, e12, hf⟩ := bind_some hf
          refine aftI hS (cV (rest := []) X hP hS [.int (5 : Int32), .int x3] (m_X8_meanOf  e12) cw_X8_meanOf tw_332 tw_589 tw_799 (by decide) (cf_M ) rfl (fits9 (by first | decide | omega) (by decide)) rfl rfl hl.1 (Nat.le_of_ble_eq_true rfl) dX8_judge_47 ⟨Nat.zero_le _, Nat.zero_le _⟩) (fun H locs hP hS => ?_)
          refine lv_iload hx hb dX8_judge_50 (lv_at hl 1 rfl) ?_
          obtain ⟨q13, e14, hf⟩ := bind_some hf
          refine aftI hS (cS (rest := []) X hP hS [.int q11.1, .int (x2 / (10 : Int32))] (m_X8_has  e14) cw_X8_has tw_333 tw_590 (fits9 (by first | decide | omega) (by decide)) rfl rfl hl.1 (Nat.le_of_ble_eq_true rfl) dX8_judge_52 ⟨Nat.zero_le _, Nat.zero_le _⟩) (fun H locs hP hS => ?_)
          refine lv_if_eq (tgt := 93) hx hb dX8_judge_55 (by decide) (fun c15 => ?_) (fun c15 => ?_)
          · rw [if_pos c15] at hf
            refine lv_iconst (v := (-1 : Int32)) hx hb dX8_judge_93 (by decide) ?_
            cases hf
            exact rtI X hr hlk hP hS dX8_judge_94
          · rw [if_neg c15] at hf
            refine lv_aload_n hx hb dX8_judge_58 rfl (lv_at hl 2 rfl) ?_
            refine lv_bipush (v := (6 : Int32)) hx hb dX8_judge_59 (by decide) ?_
            refine lv_iload_n hx hb dX8_judge_61 rfl (lv_at hl 5 rfl) ?_
            obtain ⟨q16, e17, hf⟩ := bind_some hf
            refine aftI hS (cV (rest := []) X hP hS [.int (6 : Int32), .int x3] (m_X8_meanOf  e17) cw_X8_meanOf tw_332 tw_589 tw_799 (by decide) (cf_M ) rfl (fits9 (by first | decide | omega) (by decide)) rfl rfl hl.1 (Nat.le_of_ble_eq_true rfl) dX8_judge_62 ⟨Nat.zero_le _, Nat.zero_le _⟩) (fun H locs hP hS => ?_)
            refine lv_iload hx hb dX8_judge_65 (lv_at hl 0 rfl) ?_
            obtain ⟨q18, e19, hf⟩ := bind_some hf
            refine aftI hS (cS (rest := []) X hP hS [.int q16.1, .int (x2 - x2 / (10 : Int32) * (10 : Int32))] (m_X8_has  e19) cw_X8_has tw_333 tw_590 (fits9 (by first | decide | omega) (by decide)) rfl rfl hl.1 (Nat.le_of_ble_eq_true rfl) dX8_judge_67 ⟨Nat.zero_le _, Nat.zero_le _⟩) (fun H locs hP hS => ?_)
            refine lv_if_eq (tgt := 93) hx hb dX8_judge_70 (by decide) (fun c20 => ?_) (fun c20 => ?_)
            · rw [if_pos c20] at hf
              refine lv_iconst (v := (-1 : Int32)) hx hb dX8_judge_93 (by decide) ?_
              cases hf
              exact rtI X hr hlk hP hS dX8_judge_94
            · rw [if_neg c20] at hf
              refine lv_aload_n hx hb dX8_judge_73 rfl (lv_at hl 2 rfl) ?_
              refine lv_iload_n hx hb dX8_judge_74 rfl (lv_at hl 3 rfl) ?_
              refine lv_iload hx hb dX8_judge_75 (lv_at hl 1 rfl) ?_
              refine lv_iload hx hb dX8_judge_77 (lv_at hl 0 rfl) ?_
              obtain ⟨q21, e22, hf⟩ := bind_some hf
              refine aftI hS (cS (rest := [.ref (ad 0)]) X hP hS [.int x1, .int (x2 / (10 : Int32)), .int (x2 - x2 / (10 : Int32) * (10 : Int32))] (m_X8_soOf  e22) cw_X8_soOf tw_342 tw_599 (fits9 (by first | decide | omega) (by decide)) rfl rfl hl.1 (Nat.le_of_ble_eq_true rfl) dX8_judge_79 ⟨Nat.zero_le _, Nat.zero_le _⟩) (fun H locs hP hS => ?_)
              refine lv_aload_n hx hb dX8_judge_82 rfl (lv_at hl 2 rfl) ?_
              refine lv_iload_n hx hb dX8_judge_83 rfl (lv_at hl 5 rfl) ?_
              obtain ⟨q23, e24, hf⟩ := bind_some hf
              refine aftI hS (cV (rest := [.int q21.1, .ref (ad 0)]) X hP hS [.int x3] (m_X8_bindSet  e24) cw_X8_bindSet tw_318 tw_575 tw_788 (by decide) (cf_M ) rfl (fits9 (by first | decide | omega) (by decide)) rfl rfl hl.1 (Nat.le_of_ble_eq_true rfl) dX8_judge_84 ⟨Nat.zero_le _, Nat.zero_le _⟩) (fun H locs hP hS => ?_)
              obtain ⟨q25, e26, hf⟩ := bind_some hf
              refine aftI hS (cV (rest := []) X hP hS [.int q21.1, .int q23.1] (m_X8_judgeBy  e26) cw_X8_judgeBy tw_343 tw_600 tw_804 (by decide) (cf_M ) rfl (fits9 (by first | decide | omega) (by decide)) rfl rfl hl.1 (Nat.le_of_ble_eq_true rfl) dX8_judge_87 ⟨Nat.zero_le _, Nat.zero_le _⟩) (fun H locs hP hS => ?_)
              refine lv_goto (tgt := 94) hx hb dX8_judge_90 (by decide) ?_
              cases hf
              exact rtI X hr hlk hP hS dX8_judge_94
      · rw [if_pos c9] at hf
        refine lv_iconst (v := (-1 : Int32)) hx hb dX8_judge_24 (by decide) ?_
        cases hf
        exact rtI X hr hlk hP hS dX8_judge_25
/-! X8_lay -/
section
variable {p : Program} {l : Launch} {e : Env} {s : State} {m : MethodId} {args : Array Value} {below : List Frame} {meth : Method} {c : Code}
variable {D : va_G} {cI cP cB cA : ClassId} {ad : Nat → Nat} {tL tC : Nat}
end
set_option maxHeartbeats 4000000 in
set_option maxRecDepth 100000 in
theorem m_X8_lay {l : Launch} {D : va_G} {cI cP cB cA : ClassId} {ad : Nat → Nat} {tL tC : Nat} {x1 : Int32} {x2 : Int32} {x3 : Int32} {S : Stt} {res : Int32 × Stt} (hf : f_X8_lay x1 x2 x3 S = some res) : Ct l D cI cP cB cA 19 ad tL tC yX8_lay cX8_lay 5 (some .int) 5 [.ref (ad 0), .int x1, .int x2, .int x3] (cfM ad cI S) (QI D 19 ad res.1 (cfM ad cI res.2)) := by
  refine ctOf (by decide) (Nat.le_of_ble_eq_true rfl) ?_
  intro p e s m args below meth c ls X hr hlk hP hl
  have hS : va_S (Ar 19 ad) s.heap s.heap [] := va_S.rf
  have hx := X.1.1
  have hb := X.1.2.1
  have hl : lv_has ls 5 [(0, .ref (ad 0)), (1, .int x1), (2, .int x2), (3, .int x3)] := hl
  unfold f_X8_lay at hf
  refine lv_aload_n hx hb dX8_lay_0 rfl (lv_at hl 0 rfl) ?_
  refine lv_iload_n hx hb dX8_lay_1 rfl (lv_at hl 1 rfl) ?_
  refine lv_iload_n hx hb dX8_lay_2 rfl (lv_at hl 2 rfl) ?_
  obtain ⟨q1, e2, hf⟩ := bind_some hf
  refine aftI hS (cV (rest := []) X hP hS [.int x1, .int x2] (m_X8_at  e2) cw_X8_at tw_296 tw_549 tw_769 (by decide) (cf_M ) rfl (fits9 (by first | decide | omega) (by decide)) rfl rfl hl.1 (Nat.le_of_ble_eq_true rfl) dX8_lay_3 ⟨Nat.zero_le _, Nat.zero_le _⟩) (fun H locs hP hS => ?_)
  refine lv_istore (lv' := [(4, .int q1.1), (0, .ref (ad 0)), (1, .int x1), (2, .int x2), (3, .int x3)]) hx hb dX8_lay_6 hl (by decide) rfl (fun ls hl => ?_)
  refine lv_iload hx hb dX8_lay_8 (lv_at hl 0 rfl) ?_
  refine lv_if_ge (tgt := 16) hx hb dX8_lay_10 (by decide) (fun c3 => ?_) (fun c3 => ?_)
  · rw [if_pos c3] at hf
    refine lv_aload_n hx hb dX8_lay_16 rfl (lv_at hl 1 rfl) ?_
    refine lv_iload_n hx hb dX8_lay_17 rfl (lv_at hl 2 rfl) ?_
    refine lv_iload_n hx hb dX8_lay_18 rfl (lv_at hl 3 rfl) ?_
    refine lv_iload_n hx hb dX8_lay_19 rfl (lv_at hl 4 rfl) ?_
    obtain ⟨q4, e5, hf⟩ := bind_some hf
    refine aftV hS (cV (rest := []) X hP hS [.int x1, .int x2, .int x3] (m_X8_setRow  e5) cw_X8_setRow tw_290 tw_548 tw_767 (by decide) (cf_M ) rfl (fits9 (by first | decide | omega) (by decide)) rfl rfl hl.1 (Nat.le_of_ble_eq_true rfl) dX8_lay_20 ⟨Nat.zero_le _, Nat.zero_le _⟩) (fun H locs hP hS => ?_)
    refine lv_iconst (v := (1 : Int32)) hx hb dX8_lay_23 (by decide) ?_
    cases hf
    exact rtI X hr hlk hP hS dX8_lay_24
  · rw [if_neg c3] at hf
    refine lv_iload hx hb dX8_lay_13 (lv_at hl 0 rfl) ?_
    cases hf
    exact rtI X hr hlk hP hS dX8_lay_15
/-! X8_meanings -/
section
variable {p : Program} {l : Launch} {e : Env} {s : State} {m : MethodId} {args : Array Value} {below : List Frame} {meth : Method} {c : Code}
variable {D : va_G} {cI cP cB cA : ClassId} {ad : Nat → Nat} {tL tC : Nat}
end
set_option maxHeartbeats 4000000 in
set_option maxRecDepth 100000 in
theorem m_X8_meanings {l : Launch} {D : va_G} {cI cP cB cA : ClassId} {ad : Nat → Nat} {tL tC : Nat} {x1 : Int32} {S : Stt} {res : Int32 × Stt} (hf : f_X8_meanings x1 S = some res) : Ct l D cI cP cB cA 19 ad tL tC yX8_meanings cX8_meanings 2 (some .int) 5 [.ref (ad 0), .int x1] (cfM ad cI S) (QI D 19 ad res.1 (cfM ad cI res.2)) := by
  refine ctOf (by decide) (Nat.le_of_ble_eq_true rfl) ?_
  intro p e s m args below meth c ls X hr hlk hP hl
  have hS : va_S (Ar 19 ad) s.heap s.heap [] := va_S.rf
  have hx := X.1.1
  have hb := X.1.2.1
  have hl : lv_has ls 2 [(0, .ref (ad 0)), (1, .int x1)] := hl
  unfold f_X8_meanings at hf
  refine lv_iload_n hx hb dX8_meanings_0 rfl (lv_at hl 1 rfl) ?_
  obtain ⟨q1, e2, hf⟩ := bind_some hf
  refine aftI hS (cS (rest := []) X hP hS [.int x1] (m_X8_isDay  e2) cw_X8_isDay tw_317 tw_574 (fits9 (by first | decide | omega) (by decide)) rfl rfl hl.1 (Nat.le_of_ble_eq_true rfl) dX8_meanings_1 ⟨Nat.zero_le _, Nat.zero_le _⟩) (fun H locs hP hS => ?_)
  refine lv_if_eq (tgt := 30) hx hb dX8_meanings_4 (by decide) (fun c3 => ?_) (fun c3 => ?_)
  · rw [if_pos c3] at hf
    refine lv_iconst (v := (-1 : Int32)) hx hb dX8_meanings_30 (by decide) ?_
    cases hf
    exact rtI X hr hlk hP hS dX8_meanings_31
  · rw [if_neg c3] at hf
    refine lv_aload_n hx hb dX8_meanings_7 rfl (lv_at hl 0 rfl) ?_
    refine lv_iconst (v := (5 : Int32)) hx hb dX8_meanings_8 (by decide) ?_
    refine lv_iload_n hx hb dX8_meanings_9 rfl (lv_at hl 1 rfl) ?_
    obtain ⟨q4, e5, hf⟩ := bind_some hf
    refine aftI hS (cV (rest := []) X hP hS [.int (5 : Int32), .int x1] (m_X8_meanOf  e5) cw_X8_meanOf tw_332 tw_589 tw_799 (by decide) (cf_M ) rfl (fits9 (by first | decide | omega) (by decide)) rfl rfl hl.1 (Nat.le_of_ble_eq_true rfl) dX8_meanings_10 ⟨Nat.zero_le _, Nat.zero_le _⟩) (fun H locs hP hS => ?_)
    obtain ⟨q6, e7, hf⟩ := bind_some hf
    refine aftI hS (cS (rest := []) X hP hS [.int q4.1] (m_X8_sizeOf  e7) cw_X8_sizeOf tw_323 tw_580 (fits9 (by first | decide | omega) (by decide)) rfl rfl hl.1 (Nat.le_of_ble_eq_true rfl) dX8_meanings_13 ⟨Nat.zero_le _, Nat.zero_le _⟩) (fun H locs hP hS => ?_)
    refine lv_aload_n hx hb dX8_meanings_16 rfl (lv_at hl 0 rfl) ?_
    refine lv_bipush (v := (6 : Int32)) hx hb dX8_meanings_17 (by decide) ?_
    refine lv_iload_n hx hb dX8_meanings_19 rfl (lv_at hl 1 rfl) ?_
    obtain ⟨q8, e9, hf⟩ := bind_some hf
    refine aftI hS (cV (rest := [.int q6.1]) X hP hS [.int (6 : Int32), .int x1] (m_X8_meanOf  e9) cw_X8_meanOf tw_332 tw_589 tw_799 (by decide) (cf_M ) rfl (fits9 (by first | decide | omega) (by decide)) rfl rfl hl.1 (Nat.le_of_ble_eq_true rfl) dX8_meanings_20 ⟨Nat.zero_le _, Nat.zero_le _⟩) (fun H locs hP hS => ?_)
    obtain ⟨q10, e11, hf⟩ := bind_some hf
    refine aftI hS (cS (rest := [.int q6.1]) X hP hS [.int q8.1] (m_X8_sizeOf  e11) cw_X8_sizeOf tw_323 tw_580 (fits9 (by first | decide | omega) (by decide)) rfl rfl hl.1 (Nat.le_of_ble_eq_true rfl) dX8_meanings_23 ⟨Nat.zero_le _, Nat.zero_le _⟩) (fun H locs hP hS => ?_)
    refine lv_imul hx hb dX8_meanings_26 ?_
    refine lv_goto (tgt := 31) hx hb dX8_meanings_27 (by decide) ?_
    cases hf
    exact rtI X hr hlk hP hS dX8_meanings_31
/-! X8_means -/
section
variable {p : Program} {l : Launch} {e : Env} {s : State} {m : MethodId} {args : Array Value} {below : List Frame} {meth : Method} {c : Code}
variable {D : va_G} {cI cP cB cA : ClassId} {ad : Nat → Nat} {tL tC : Nat}
end
set_option maxHeartbeats 4000000 in
set_option maxRecDepth 100000 in
theorem m_X8_means {l : Launch} {D : va_G} {cI cP cB cA : ClassId} {ad : Nat → Nat} {tL tC : Nat} {x1 : Int32} {x2 : Int32} {S : Stt} {res : Int32 × Stt} (hf : f_X8_means x1 x2 S = some res) : Ct l D cI cP cB cA 19 ad tL tC yX8_means cX8_means 3 (some .int) 5 [.ref (ad 0), .int x1, .int x2] (cfM ad cI S) (QI D 19 ad res.1 (cfM ad cI res.2)) := by
  refine ctOf (by decide) (Nat.le_of_ble_eq_true rfl) ?_
  intro p e s m args below meth c ls X hr hlk hP hl
  have hS : va_S (Ar 19 ad) s.heap s.heap [] := va_S.rf
  have hx := X.1.1
  have hb := X.1.2.1
  have hl : lv_has ls 3 [(0, .ref (ad 0)), (1, .int x1), (2, .int x2)] := hl
  unfold f_X8_means at hf
  refine lv_iload_n hx hb dX8_means_0 rfl (lv_at hl 1 rfl) ?_
  refine lv_iconst (v := (5 : Int32)) hx hb dX8_means_1 (by decide) ?_
  refine lv_bipush (v := (6 : Int32)) hx hb dX8_means_2 (by decide) ?_
  obtain ⟨q1, e2, hf⟩ := bind_some hf
  refine aftI hS (cS (rest := []) X hP hS [.int x1, .int (5 : Int32), .int (6 : Int32)] (m_X8_in  e2) cw_X8_in tw_288 tw_546 (fits9 (by first | decide | omega) (by decide)) rfl rfl hl.1 (Nat.le_of_ble_eq_true rfl) dX8_means_4 ⟨Nat.zero_le _, Nat.zero_le _⟩) (fun H locs hP hS => ?_)
  refine lv_if_eq (tgt := 26) hx hb dX8_means_7 (by decide) (fun c3 => ?_) (fun c3 => ?_)
  · rw [if_pos c3] at hf
    refine lv_iconst (v := (-1 : Int32)) hx hb dX8_means_26 (by decide) ?_
    cases hf
    exact rtI X hr hlk hP hS dX8_means_27
  · rw [if_neg c3] at hf
    refine lv_iload_n hx hb dX8_means_10 rfl (lv_at hl 2 rfl) ?_
    obtain ⟨q4, e5, hf⟩ := bind_some hf
    refine aftI hS (cS (rest := []) X hP hS [.int x2] (m_X8_isDay  e5) cw_X8_isDay tw_317 tw_574 (fits9 (by first | decide | omega) (by decide)) rfl rfl hl.1 (Nat.le_of_ble_eq_true rfl) dX8_means_11 ⟨Nat.zero_le _, Nat.zero_le _⟩) (fun H locs hP hS => ?_)
    refine lv_if_eq (tgt := 26) hx hb dX8_means_14 (by decide) (fun c6 => ?_) (fun c6 => ?_)
    · rw [if_pos c6] at hf
      refine lv_iconst (v := (-1 : Int32)) hx hb dX8_means_26 (by decide) ?_
      cases hf
      exact rtI X hr hlk hP hS dX8_means_27
    · rw [if_neg c6] at hf
      refine lv_aload_n hx hb dX8_means_17 rfl (lv_at hl 0 rfl) ?_
      refine lv_iload_n hx hb dX8_means_18 rfl (lv_at hl 1 rfl) ?_
      refine lv_iload_n hx hb dX8_means_19 rfl (lv_at hl 2 rfl) ?_
      obtain ⟨q7, e8, hf⟩ := bind_some hf
      refine aftI hS (cV (rest := []) X hP hS [.int x1, .int x2] (m_X8_meanOf  e8) cw_X8_meanOf tw_332 tw_589 tw_799 (by decide) (cf_M ) rfl (fits9 (by first | decide | omega) (by decide)) rfl rfl hl.1 (Nat.le_of_ble_eq_true rfl) dX8_means_20 ⟨Nat.zero_le _, Nat.zero_le _⟩) (fun H locs hP hS => ?_)
      refine lv_goto (tgt := 27) hx hb dX8_means_23 (by decide) ?_
      cases hf
      exact rtI X hr hlk hP hS dX8_means_27
/-! X8_meant -/
section
variable {p : Program} {l : Launch} {e : Env} {s : State} {m : MethodId} {args : Array Value} {below : List Frame} {meth : Method} {c : Code}
variable {D : va_G} {cI cP cB cA : ClassId} {ad : Nat → Nat} {tL tC : Nat}
set_option maxHeartbeats 4000000 in
set_option maxRecDepth 100000 in
theorem vb_X8_meant_31 (X : Cx D cI cP cB cA 19 ad tL tC p s m c cX8_meant 8 args RX8) (hr : meth.sig.returnType = (some .int)) (hlk : meth.locks = false) {res : Int32 × Stt} (kb : Int32 → Int32 → Stt → Option (Int32 × Stt)) (ke : Int32 → Stt → Option (Int32 × Stt)) (hkb : ∀ (x1 : Int32) (x3 : Int32) (S : Stt) (H : Heap) (locs : List Loc) (ls : Array Slot), kb x1 x3 S = some res → va_P D vwCl (wl 19 ad (cfM ad cI S)) H → va_S (Ar 19 ad) s.heap H locs → lv_has ls 8 [(0, .ref (ad 0)), (1, .int x1), (3, .int x3)] → W p l e (rmD 5) s m args below meth c H locs 0 0 (MQ below (QI D 19 ad res.1 (cfM ad cI res.2)) args s 0 0 (Ar 19 ad)) (F0 m 31 ls [])) (hke : ∀ (x1 : Int32) (S : Stt) (H : Heap) (locs : List Loc) (ls : Array Slot), ke x1 S = some res → va_P D vwCl (wl 19 ad (cfM ad cI S)) H → va_S (Ar 19 ad) s.heap H locs → lv_has ls 8 [(0, .ref (ad 0)), (1, .int x1)] → W p l e (rmD 5) s m args below meth c H locs 0 0 (MQ below (QI D 19 ad res.1 (cfM ad cI res.2)) args s 0 0 (Ar 19 ad)) (F0 m 95 ls [])) : ∀ (x1 : Int32) (x3 : Int32) (S : Stt) (H : Heap) (locs : List Loc) (ls : Array Slot), fb_X8_meant_31 kb ke x1 x3 S = some res → va_P D vwCl (wl 19 ad (cfM ad cI S)) H → va_S (Ar 19 ad) s.heap H locs → lv_has ls 8 [(0, .ref (ad 0)), (1, .int x1), (3, .int x3)] → W p l e (rmD 5) s m args below meth c H locs 0 0 (MQ below (QI D 19 ad res.1 (cfM ad cI res.2)) args s 0 0 (Ar 19 ad)) (F0 m 31 ls []) := by
  intro x1 x3 S H locs ls hf hP hS hl
  have hx := X.1.1
  have hb := X.1.2.1
  unfold fb_X8_meant_31 at hf
  refine lv_iload_n hx hb dX8_meant_31 rfl (lv_at hl 2 rfl) ?_
  refine lv_aload_n hx hb dX8_meant_32 rfl (lv_at hl 0 rfl) ?_
  refine g_M_sizes X hP  tw_81 dX8_meant_33 ?_
  refine lv_iload_n hx hb dX8_meant_36 rfl (lv_at hl 1 rfl) ?_
  obtain ⟨g6, hf⟩ := grd_some hf
  refine r_m_sizes X hP  g6 dX8_meant_37 ?_
  refine lv_icmp_ge (tgt := 95) hx hb dX8_meant_38 (by decide) (fun c7 => ?_) (fun c7 => ?_)
  · rw [if_pos c7] at hf
    exact hke _ _ _ _ ls hf  hP hS (lv_sub hl [0, 1] rfl)
  · rw [if_neg c7] at hf
    refine lv_aload_n hx hb dX8_meant_41 rfl (lv_at hl 0 rfl) ?_
    refine lv_iload_n hx hb dX8_meant_42 rfl (lv_at hl 1 rfl) ?_
    refine lv_iload_n hx hb dX8_meant_43 rfl (lv_at hl 2 rfl) ?_
    obtain ⟨q8, e9, hf⟩ := bind_some hf
    refine aftI hS (cV (rest := []) X hP hS [.int x1, .int x3] (m_X8_rowAt  e9) cw_X8_rowAt tw_293 tw_551 tw_766 (by decide) (cf_M ) rfl (fits9 (by first | decide | omega) (by decide)) rfl rfl hl.1 (Nat.le_of_ble_eq_true rfl) dX8_meant_44 ⟨Nat.zero_le _, Nat.zero_le _⟩) (fun H locs hP hS => ?_)
    obtain ⟨q10, e11, hf⟩ := bind_some hf
    refine aftI hS (cS (rest := []) X hP hS [.int q8.1] (m_X8_isCase  e11) cw_X8_isCase tw_338 tw_595 (fits9 (by first | decide | omega) (by decide)) rfl rfl hl.1 (Nat.le_of_ble_eq_true rfl) dX8_meant_47 ⟨Nat.zero_le _, Nat.zero_le _⟩) (fun H locs hP hS => ?_)
    refine lv_if_eq (tgt := 83) hx hb dX8_meant_50 (by decide) (fun c12 => ?_) (fun c12 => ?_)
    · rw [if_pos c12] at hf
      refine lv_aload_n hx hb dX8_meant_83 rfl (lv_at hl 0 rfl) ?_
      refine lv_iconst (v := (3 : Int32)) hx hb dX8_meant_84 (by decide) ?_
      obtain ⟨q13, e14, hf⟩ := bind_some hf
      refine aftI hS (cV (rest := []) X hP hS [.int (3 : Int32)] (m_X8_meet  e14) cw_X8_meet tw_289 tw_547 tw_762 (by decide) (cf_M ) rfl (fits9 (by first | decide | omega) (by decide)) rfl rfl hl.1 (Nat.le_of_ble_eq_true rfl) dX8_meant_85 ⟨Nat.zero_le _, Nat.zero_le _⟩) (fun H locs hP hS => ?_)
      cases hf
      exact rtI X hr hlk hP hS dX8_meant_88
    · rw [if_neg c12] at hf
      refine lv_aload_n hx hb dX8_meant_53 rfl (lv_at hl 0 rfl) ?_
      refine lv_iload_n hx hb dX8_meant_54 rfl (lv_at hl 1 rfl) ?_
      refine lv_iload_n hx hb dX8_meant_55 rfl (lv_at hl 2 rfl) ?_
      refine lv_iconst (v := (1 : Int32)) hx hb dX8_meant_56 (by decide) ?_
      refine lv_iadd hx hb dX8_meant_57 ?_
      obtain ⟨q15, e16, hf⟩ := bind_some hf
      refine aftI hS (cV (rest := []) X hP hS [.int x1, .int (x3 + (1 : Int32))] (m_X8_rowAt  e16) cw_X8_rowAt tw_293 tw_551 tw_766 (by decide) (cf_M ) rfl (fits9 (by first | decide | omega) (by decide)) rfl rfl hl.1 (Nat.le_of_ble_eq_true rfl) dX8_meant_58 ⟨Nat.zero_le _, Nat.zero_le _⟩) (fun H locs hP hS => ?_)
      obtain ⟨q17, e18, hf⟩ := bind_some hf
      refine aftI hS (cS (rest := []) X hP hS [.int q15.1] (m_X8_isDay  e18) cw_X8_isDay tw_317 tw_574 (fits9 (by first | decide | omega) (by decide)) rfl rfl hl.1 (Nat.le_of_ble_eq_true rfl) dX8_meant_61 ⟨Nat.zero_le _, Nat.zero_le _⟩) (fun H locs hP hS => ?_)
      refine lv_if_eq (tgt := 83) hx hb dX8_meant_64 (by decide) (fun c19 => ?_) (fun c19 => ?_)
      · rw [if_pos c19] at hf
        refine lv_aload_n hx hb dX8_meant_83 rfl (lv_at hl 0 rfl) ?_
        refine lv_iconst (v := (3 : Int32)) hx hb dX8_meant_84 (by decide) ?_
        obtain ⟨q20, e21, hf⟩ := bind_some hf
        refine aftI hS (cV (rest := []) X hP hS [.int (3 : Int32)] (m_X8_meet  e21) cw_X8_meet tw_289 tw_547 tw_762 (by decide) (cf_M ) rfl (fits9 (by first | decide | omega) (by decide)) rfl rfl hl.1 (Nat.le_of_ble_eq_true rfl) dX8_meant_85 ⟨Nat.zero_le _, Nat.zero_le _⟩) (fun H locs hP hS => ?_)
        cases hf
        exact rtI X hr hlk hP hS dX8_meant_88
      · rw [if_neg c19] at hf
        refine lv_aload_n hx hb dX8_meant_67 rfl (lv_at hl 0 rfl) ?_
        refine lv_iload_n hx hb dX8_meant_68 rfl (lv_at hl 1 rfl) ?_
        refine lv_iload_n hx hb dX8_meant_69 rfl (lv_at hl 2 rfl) ?_
        refine lv_iconst (v := (2 : Int32)) hx hb dX8_meant_70 (by decide) ?_
        refine lv_iadd hx hb dX8_meant_71 ?_
        obtain ⟨q22, e23, hf⟩ := bind_some hf
        refine aftI hS (cV (rest := []) X hP hS [.int x1, .int (x3 + (2 : Int32))] (m_X8_rowAt  e23) cw_X8_rowAt tw_293 tw_551 tw_766 (by decide) (cf_M ) rfl (fits9 (by first | decide | omega) (by decide)) rfl rfl hl.1 (Nat.le_of_ble_eq_true rfl) dX8_meant_72 ⟨Nat.zero_le _, Nat.zero_le _⟩) (fun H locs hP hS => ?_)
        refine lv_iconst (v := (0 : Int32)) hx hb dX8_meant_75 (by decide) ?_
        refine lv_iconst (v := (1 : Int32)) hx hb dX8_meant_76 (by decide) ?_
        obtain ⟨q24, e25, hf⟩ := bind_some hf
        refine aftI hS (cS (rest := []) X hP hS [.int q22.1, .int (0 : Int32), .int (1 : Int32)] (m_X8_in  e25) cw_X8_in tw_288 tw_546 (fits9 (by first | decide | omega) (by decide)) rfl rfl hl.1 (Nat.le_of_ble_eq_true rfl) dX8_meant_77 ⟨Nat.zero_le _, Nat.zero_le _⟩) (fun H locs hP hS => ?_)
        refine lv_if_ne (tgt := 89) hx hb dX8_meant_80 (by decide) (fun c26 => ?_) (fun c26 => ?_)
        · rw [if_neg c26] at hf
          refine lv_iinc (v := (x3 + (3 : Int32))) (lv' := [(3, .int (x3 + (3 : Int32))), (0, .ref (ad 0)), (1, .int x1)]) hx hb dX8_meant_89 hl (k := 2) rfl rfl (by decide) rfl (fun ls hl => ?_)
          refine lv_goto (tgt := 31) hx hb dX8_meant_92 (by decide) ?_
          exact hkb _ _ _ _ _ ls hf  hP hS (lv_sub hl [1, 2, 0] rfl)
        · rw [if_pos c26] at hf
          refine lv_aload_n hx hb dX8_meant_83 rfl (lv_at hl 0 rfl) ?_
          refine lv_iconst (v := (3 : Int32)) hx hb dX8_meant_84 (by decide) ?_
          obtain ⟨q27, e28, hf⟩ := bind_some hf
          refine aftI hS (cV (rest := []) X hP hS [.int (3 : Int32)] (m_X8_meet  e28) cw_X8_meet tw_289 tw_547 tw_762 (by decide) (cf_M ) rfl (fits9 (by first | decide | omega) (by decide)) rfl rfl hl.1 (Nat.le_of_ble_eq_true rfl) dX8_meant_85 ⟨Nat.zero_le _, Nat.zero_le _⟩) (fun H locs hP hS => ?_)
          cases hf
          exact rtI X hr hlk hP hS dX8_meant_88
set_option maxHeartbeats 4000000 in
set_option maxRecDepth 100000 in
theorem vl_X8_meant_31 (X : Cx D cI cP cB cA 19 ad tL tC p s m c cX8_meant 8 args RX8) (hr : meth.sig.returnType = (some .int)) (hlk : meth.locks = false) {res : Int32 × Stt} (ke : Int32 → Stt → Option (Int32 × Stt)) (hke : ∀ (x1 : Int32) (S : Stt) (H : Heap) (locs : List Loc) (ls : Array Slot), ke x1 S = some res → va_P D vwCl (wl 19 ad (cfM ad cI S)) H → va_S (Ar 19 ad) s.heap H locs → lv_has ls 8 [(0, .ref (ad 0)), (1, .int x1)] → W p l e (rmD 5) s m args below meth c H locs 0 0 (MQ below (QI D 19 ad res.1 (cfM ad cI res.2)) args s 0 0 (Ar 19 ad)) (F0 m 95 ls [])) : ∀ (n : Nat), ∀ (x1 : Int32) (x3 : Int32) (S : Stt) (H : Heap) (locs : List Loc) (ls : Array Slot), fl_X8_meant_31 ke n x1 x3 S = some res → va_P D vwCl (wl 19 ad (cfM ad cI S)) H → va_S (Ar 19 ad) s.heap H locs → lv_has ls 8 [(0, .ref (ad 0)), (1, .int x1), (3, .int x3)] → W p l e (rmD 5) s m args below meth c H locs 0 0 (MQ below (QI D 19 ad res.1 (cfM ad cI res.2)) args s 0 0 (Ar 19 ad)) (F0 m 31 ls []) := by
  intro n
  induction n with
  | zero =>
    intro x1 x3 S H locs ls hf hP hS hl
    cases hf
  | succ n ih =>
    intro x1 x3 S H locs ls hf hP hS hl
    exact vb_X8_meant_31 X hr hlk _ ke ih hke x1 x3 S H locs ls hf  hP hS hl
set_option maxHeartbeats 4000000 in
set_option maxRecDepth 100000 in
theorem vb_X8_meant_116 (X : Cx D cI cP cB cA 19 ad tL tC p s m c cX8_meant 8 args RX8) (hr : meth.sig.returnType = (some .int)) (hlk : meth.locks = false) {res : Int32 × Stt} (kb : Int32 → Int32 → Int32 → Int32 → Int32 → Int32 → Stt → Option (Int32 × Stt)) (ke : Int32 → Int32 → Int32 → Int32 → Int32 → Stt → Option (Int32 × Stt)) (hkb : ∀ (x1 : Int32) (x3 : Int32) (x4 : Int32) (x5 : Int32) (x6 : Int32) (x7 : Int32) (S : Stt) (H : Heap) (locs : List Loc) (ls : Array Slot), kb x1 x3 x4 x5 x6 x7 S = some res → va_P D vwCl (wl 19 ad (cfM ad cI S)) H → va_S (Ar 19 ad) s.heap H locs → lv_has ls 8 [(0, .ref (ad 0)), (1, .int x1), (3, .int x3), (4, .int x4), (5, .int x5), (6, .int x6), (7, .int x7)] → W p l e (rmD 5) s m args below meth c H locs 0 0 (MQ below (QI D 19 ad res.1 (cfM ad cI res.2)) args s 0 0 (Ar 19 ad)) (F0 m 116 ls [])) (hke : ∀ (x1 : Int32) (x3 : Int32) (x4 : Int32) (x5 : Int32) (x6 : Int32) (S : Stt) (H : Heap) (locs : List Loc) (ls : Array Slot), ke x1 x3 x4 x5 x6 S = some res → va_P D vwCl (wl 19 ad (cfM ad cI S)) H → va_S (Ar 19 ad) s.heap H locs → lv_has ls 8 [(0, .ref (ad 0)), (1, .int x1), (3, .int x3), (4, .int x4), (5, .int x5), (6, .int x6)] → W p l e (rmD 5) s m args below meth c H locs 0 0 (MQ below (QI D 19 ad res.1 (cfM ad cI res.2)) args s 0 0 (Ar 19 ad)) (F0 m 189 ls [])) : ∀ (x1 : Int32) (x3 : Int32) (x4 : Int32) (x5 : Int32) (x6 : Int32) (x7 : Int32) (S : Stt) (H : Heap) (locs : List Loc) (ls : Array Slot), fb_X8_meant_116 kb ke x1 x3 x4 x5 x6 x7 S = some res → va_P D vwCl (wl 19 ad (cfM ad cI S)) H → va_S (Ar 19 ad) s.heap H locs → lv_has ls 8 [(0, .ref (ad 0)), (1, .int x1), (3, .int x3), (4, .int x4), (5, .int x5), (6, .int x6), (7, .int x7)] → W p l e (rmD 5) s m args below meth c H locs 0 0 (MQ below (QI D 19 ad res.1 (cfM ad cI res.2)) args s 0 0 (Ar 19 ad)) (F0 m 116 ls []) := by
  intro x1 x3 x4 x5 x6 x7 S H locs ls hf hP hS hl
  have hx := X.1.1
  have hb := X.1.2.1
  unfold fb_X8_meant_116 at hf
  refine lv_iload hx hb dX8_meant_116 (lv_at hl 6 rfl) ?_
  refine lv_aload_n hx hb dX8_meant_118 rfl (lv_at hl 0 rfl) ?_
  refine g_M_sizes X hP  tw_81 dX8_meant_119 ?_
  refine lv_iload_n hx hb dX8_meant_122 rfl (lv_at hl 1 rfl) ?_
  obtain ⟨g30, hf⟩ := grd_some hf
  refine r_m_sizes X hP  g30 dX8_meant_123 ?_
  refine lv_icmp_ge (tgt := 189) hx hb dX8_meant_124 (by decide) (fun c31 => ?_) (fun c31 => ?_)
  · rw [if_pos c31] at hf
    exact hke _ _ _ _ _ _ _ _ ls hf  hP hS (lv_sub hl [0, 1, 2, 3, 4, 5] rfl)
  · rw [if_neg c31] at hf
    refine lv_iload hx hb dX8_meant_127 (lv_at hl 5 rfl) ?_
    refine lv_if_eq (tgt := 180) hx hb dX8_meant_129 (by decide) (fun c32 => ?_) (fun c32 => ?_)
    · rw [if_pos c32] at hf
      refine lv_iconst (v := (0 : Int32)) hx hb dX8_meant_180 (by decide) ?_
      refine lv_istore (lv' := [(6, .int (0 : Int32)), (0, .ref (ad 0)), (1, .int x1), (3, .int x3), (4, .int x4), (5, .int x5), (7, .int x7)]) hx hb dX8_meant_181 hl (by decide) rfl (fun ls hl => ?_)
      refine lv_iinc (v := (x7 + (3 : Int32))) (lv' := [(7, .int (x7 + (3 : Int32))), (6, .int (0 : Int32)), (0, .ref (ad 0)), (1, .int x1), (3, .int x3), (4, .int x4), (5, .int x5)]) hx hb dX8_meant_183 hl (k := 6) rfl rfl (by decide) rfl (fun ls hl => ?_)
      refine lv_goto (tgt := 116) hx hb dX8_meant_186 (by decide) ?_
      exact hkb _ _ _ _ _ _ _ _ _ ls hf  hP hS (lv_sub hl [2, 3, 4, 5, 6, 1, 0] rfl)
    · rw [if_neg c32] at hf
      refine lv_aload_n hx hb dX8_meant_132 rfl (lv_at hl 0 rfl) ?_
      refine lv_aload_n hx hb dX8_meant_133 rfl (lv_at hl 0 rfl) ?_
      refine lv_iload_n hx hb dX8_meant_134 rfl (lv_at hl 1 rfl) ?_
      refine lv_iload hx hb dX8_meant_135 (lv_at hl 6 rfl) ?_
      obtain ⟨q33, e34, hf⟩ := bind_some hf
      refine aftI hS (cV (rest := [.ref (ad 0)]) X hP hS [.int x1, .int x7] (m_X8_rowAt  e34) cw_X8_rowAt tw_293 tw_551 tw_766 (by decide) (cf_M ) rfl (fits9 (by first | decide | omega) (by decide)) rfl rfl hl.1 (Nat.le_of_ble_eq_true rfl) dX8_meant_137 ⟨Nat.zero_le _, Nat.zero_le _⟩) (fun H locs hP hS => ?_)
      refine lv_iload hx hb dX8_meant_140 (lv_at hl 4 rfl) ?_
      refine lv_iconst (v := (5 : Int32)) hx hb dX8_meant_142 (by decide) ?_
      refine lv_idiv hx hb dX8_meant_143 (by decide) ?_
      refine lv_iload hx hb dX8_meant_144 (lv_at hl 4 rfl) ?_
      refine lv_iconst (v := (5 : Int32)) hx hb dX8_meant_146 (by decide) ?_
      refine lv_irem hx hb dX8_meant_147 (by decide) ?_
      refine lv_aload_n hx hb dX8_meant_148 rfl (lv_at hl 0 rfl) ?_
      refine lv_aload_n hx hb dX8_meant_149 rfl (lv_at hl 0 rfl) ?_
      refine lv_iload_n hx hb dX8_meant_150 rfl (lv_at hl 1 rfl) ?_
      refine lv_iload hx hb dX8_meant_151 (lv_at hl 6 rfl) ?_
      refine lv_iconst (v := (1 : Int32)) hx hb dX8_meant_153 (by decide) ?_
      refine lv_iadd hx hb dX8_meant_154 ?_
      obtain ⟨q35, e36, hf⟩ := bind_some hf
      refine aftI hS (cV (rest := [.ref (ad 0), .int (x5 - x5 / (5 : Int32) * (5 : Int32)), .int (x5 / (5 : Int32)), .int q33.1, .ref (ad 0)]) X hP hS [.int x1, .int (x7 + (1 : Int32))] (m_X8_rowAt  e36) cw_X8_rowAt tw_293 tw_551 tw_766 (by decide) (cf_M ) rfl (fits9 (by first | decide | omega) (by decide)) rfl rfl hl.1 (Nat.le_of_ble_eq_true rfl) dX8_meant_155 ⟨Nat.zero_le _, Nat.zero_le _⟩) (fun H locs hP hS => ?_)
      obtain ⟨q37, e38, hf⟩ := bind_some hf
      refine aftI hS (cV (rest := [.int (x5 - x5 / (5 : Int32) * (5 : Int32)), .int (x5 / (5 : Int32)), .int q33.1, .ref (ad 0)]) X hP hS [.int q35.1] (m_X8_bindSet  e38) cw_X8_bindSet tw_318 tw_575 tw_788 (by decide) (cf_M ) rfl (fits9 (by first | decide | omega) (by decide)) rfl rfl hl.1 (Nat.le_of_ble_eq_true rfl) dX8_meant_158 ⟨Nat.zero_le _, Nat.zero_le _⟩) (fun H locs hP hS => ?_)
      obtain ⟨q39, e40, hf⟩ := bind_some hf
      refine aftI hS (cV (rest := []) X hP hS [.int q33.1, .int (x5 / (5 : Int32)), .int (x5 - x5 / (5 : Int32) * (5 : Int32)), .int q37.1] (m_X8_givenBy  e40) cw_X8_givenBy tw_341 tw_598 tw_805 (by decide) (cf_M ) rfl (fits9 (by first | decide | omega) (by decide)) rfl rfl hl.1 (Nat.le_of_ble_eq_true rfl) dX8_meant_161 ⟨Nat.zero_le _, Nat.zero_le _⟩) (fun H locs hP hS => ?_)
      refine lv_aload_n hx hb dX8_meant_164 rfl (lv_at hl 0 rfl) ?_
      refine lv_iload_n hx hb dX8_meant_165 rfl (lv_at hl 1 rfl) ?_
      refine lv_iload hx hb dX8_meant_166 (lv_at hl 6 rfl) ?_
      refine lv_iconst (v := (2 : Int32)) hx hb dX8_meant_168 (by decide) ?_
      refine lv_iadd hx hb dX8_meant_169 ?_
      obtain ⟨q41, e42, hf⟩ := bind_some hf
      refine aftI hS (cV (rest := [.int q39.1]) X hP hS [.int x1, .int (x7 + (2 : Int32))] (m_X8_rowAt  e42) cw_X8_rowAt tw_293 tw_551 tw_766 (by decide) (cf_M ) rfl (fits9 (by first | decide | omega) (by decide)) rfl rfl hl.1 (Nat.le_of_ble_eq_true rfl) dX8_meant_170 ⟨Nat.zero_le _, Nat.zero_le _⟩) (fun H locs hP hS => ?_)
      refine lv_icmp_ne (tgt := 180) hx hb dX8_meant_173 (by decide) (fun c43 => ?_) (fun c43 => ?_)
      · rw [if_neg c43] at hf
        refine lv_iconst (v := (0 : Int32)) hx hb dX8_meant_180 (by decide) ?_
        refine lv_istore (lv' := [(6, .int (0 : Int32)), (0, .ref (ad 0)), (1, .int x1), (3, .int x3), (4, .int x4), (5, .int x5), (7, .int x7)]) hx hb dX8_meant_181 hl (by decide) rfl (fun ls hl => ?_)
        refine lv_iinc (v := (x7 + (3 : Int32))) (lv' := [(7, .int (x7 + (3 : Int32))), (6, .int (0 : Int32)), (0, .ref (ad 0)), (1, .int x1), (3, .int x3), (4, .int x4), (5, .int x5)]) hx hb dX8_meant_183 hl (k := 6) rfl rfl (by decide) rfl (fun ls hl => ?_)
        refine lv_goto (tgt := 116) hx hb dX8_meant_186 (by decide) ?_
        exact hkb _ _ _ _ _ _ _ _ _ ls hf  hP hS (lv_sub hl [2, 3, 4, 5, 6, 1, 0] rfl)
      · rw [if_pos c43] at hf
        refine lv_iconst (v := (1 : Int32)) hx hb dX8_meant_176 (by decide) ?_
        refine lv_goto (tgt := 181) hx hb dX8_meant_177 (by decide) ?_
        refine lv_istore (lv' := [(6, .int (1 : Int32)), (0, .ref (ad 0)), (1, .int x1), (3, .int x3), (4, .int x4), (5, .int x5), (7, .int x7)]) hx hb dX8_meant_181 hl (by decide) rfl (fun ls hl => ?_)
        refine lv_iinc (v := (x7 + (3 : Int32))) (lv' := [(7, .int (x7 + (3 : Int32))), (6, .int (1 : Int32)), (0, .ref (ad 0)), (1, .int x1), (3, .int x3), (4, .int x4), (5, .int x5)]) hx hb dX8_meant_183 hl (k := 6) rfl rfl (by decide) rfl (fun ls hl => ?_)
        refine lv_goto (tgt := 116) hx hb dX8_meant_186 (by decide) ?_
        exact hkb _ _ _ _ _ _ _ _ _ ls hf  hP hS (lv_sub hl [2, 3, 4, 5, 6, 1, 0] rfl)
set_option maxHeartbeats 4000000 in
set_option maxRecDepth 100000 in
theorem vl_X8_meant_116 (X : Cx D cI cP cB cA 19 ad tL tC p s m c cX8_meant 8 args RX8) (hr : meth.sig.returnType = (some .int)) (hlk : meth.locks = false) {res : Int32 × Stt} (ke : Int32 → Int32 → Int32 → Int32 → Int32 → Stt → Option (Int32 × Stt)) (hke : ∀ (x1 : Int32) (x3 : Int32) (x4 : Int32) (x5 : Int32) (x6 : Int32) (S : Stt) (H : Heap) (locs : List Loc) (ls : Array Slot), ke x1 x3 x4 x5 x6 S = some res → va_P D vwCl (wl 19 ad (cfM ad cI S)) H → va_S (Ar 19 ad) s.heap H locs → lv_has ls 8 [(0, .ref (ad 0)), (1, .int x1), (3, .int x3), (4, .int x4), (5, .int x5), (6, .int x6)] → W p l e (rmD 5) s m args below meth c H locs 0 0 (MQ below (QI D 19 ad res.1 (cfM ad cI res.2)) args s 0 0 (Ar 19 ad)) (F0 m 189 ls [])) : ∀ (n : Nat), ∀ (x1 : Int32) (x3 : Int32) (x4 : Int32) (x5 : Int32) (x6 : Int32) (x7 : Int32) (S : Stt) (H : Heap) (locs : List Loc) (ls : Array Slot), fl_X8_meant_116 ke n x1 x3 x4 x5 x6 x7 S = some res → va_P D vwCl (wl 19 ad (cfM ad cI S)) H → va_S (Ar 19 ad) s.heap H locs → lv_has ls 8 [(0, .ref (ad 0)), (1, .int x1), (3, .int x3), (4, .int x4), (5, .int x5), (6, .int x6), (7, .int x7)] → W p l e (rmD 5) s m args below meth c H locs 0 0 (MQ below (QI D 19 ad res.1 (cfM ad cI res.2)) args s 0 0 (Ar 19 ad)) (F0 m 116 ls []) := by
  intro n
  induction n with
  | zero =>
    intro x1 x3 x4 x5 x6 x7 S H locs ls hf hP hS hl
    cases hf
  | succ n ih =>
    intro x1 x3 x4 x5 x6 x7 S H locs ls hf hP hS hl
    exact vb_X8_meant_116 X hr hlk _ ke ih hke x1 x3 x4 x5 x6 x7 S H locs ls hf  hP hS hl
set_option maxHeartbeats 4000000 in
set_option maxRecDepth 100000 in
theorem vj_X8_meant_200_103 (X : Cx D cI cP cB cA 19 ad tL tC p s m c cX8_meant 8 args RX8) (hr : meth.sig.returnType = (some .int)) (hlk : meth.locks = false) {res : Int32 × Stt} (kb : Int32 → Int32 → Int32 → Int32 → Stt → Option (Int32 × Stt)) (ke : Int32 → Int32 → Stt → Option (Int32 × Stt)) (hkb : ∀ (x1 : Int32) (x3 : Int32) (x4 : Int32) (x5 : Int32) (S : Stt) (H : Heap) (locs : List Loc) (ls : Array Slot), kb x1 x3 x4 x5 S = some res → va_P D vwCl (wl 19 ad (cfM ad cI S)) H → va_S (Ar 19 ad) s.heap H locs → lv_has ls 8 [(0, .ref (ad 0)), (1, .int x1), (3, .int x3), (4, .int x4), (5, .int x5)] → W p l e (rmD 5) s m args below meth c H locs 0 0 (MQ below (QI D 19 ad res.1 (cfM ad cI res.2)) args s 0 0 (Ar 19 ad)) (F0 m 103 ls [])) (hke : ∀ (x3 : Int32) (x4 : Int32) (S : Stt) (H : Heap) (locs : List Loc) (ls : Array Slot), ke x3 x4 S = some res → va_P D vwCl (wl 19 ad (cfM ad cI S)) H → va_S (Ar 19 ad) s.heap H locs → lv_has ls 8 [(0, .ref (ad 0)), (3, .int x3), (4, .int x4)] → W p l e (rmD 5) s m args below meth c H locs 0 0 (MQ below (QI D 19 ad res.1 (cfM ad cI res.2)) args s 0 0 (Ar 19 ad)) (F0 m 228 ls [])) : ∀ (x1 : Int32) (x4 : Int32) (x5 : Int32) (x6 : Int32) (xt0 : Int32) (xt1 : Int32) (S : Stt) (H : Heap) (locs : List Loc) (ls : Array Slot), fj_X8_meant_200_103 kb ke x1 x4 x5 x6 xt0 xt1 S = some res → va_P D vwCl (wl 19 ad (cfM ad cI S)) H → va_S (Ar 19 ad) s.heap H locs → lv_has ls 8 [(0, .ref (ad 0)), (1, .int x1), (4, .int x4), (5, .int x5), (6, .int x6)] → W p l e (rmD 5) s m args below meth c H locs 0 0 (MQ below (QI D 19 ad res.1 (cfM ad cI res.2)) args s 0 0 (Ar 19 ad)) (F0 m 200 ls [.int xt1, .int xt0]) := by
  intro x1 x4 x5 x6 xt0 xt1 S H locs ls hf hP hS hl
  have hx := X.1.1
  have hb := X.1.2.1
  unfold fj_X8_meant_200_103 at hf
  refine lv_iadd hx hb dX8_meant_200 ?_
  refine lv_istore_n (lv' := [(3, .int (xt0 + xt1)), (0, .ref (ad 0)), (1, .int x1), (4, .int x4), (5, .int x5), (6, .int x6)]) hx hb dX8_meant_201 rfl hl (by decide) rfl (fun ls hl => ?_)
  refine lv_iload hx hb dX8_meant_202 (lv_at hl 3 rfl) ?_
  refine lv_iload hx hb dX8_meant_204 (lv_at hl 5 rfl) ?_
  refine lv_if_eq (tgt := 218) hx hb dX8_meant_206 (by decide) (fun c45 => ?_) (fun c45 => ?_)
  · rw [if_pos c45] at hf
    refine lv_iconst (v := (0 : Int32)) hx hb dX8_meant_218 (by decide) ?_
    refine lv_ior hx hb dX8_meant_219 ?_
    refine lv_istore (lv' := [(4, .int (x4 ||| (0 : Int32))), (3, .int (xt0 + xt1)), (0, .ref (ad 0)), (1, .int x1), (5, .int x5), (6, .int x6)]) hx hb dX8_meant_220 hl (by decide) rfl (fun ls hl => ?_)
    refine lv_iinc (v := (x5 + (1 : Int32))) (lv' := [(5, .int (x5 + (1 : Int32))), (4, .int (x4 ||| (0 : Int32))), (3, .int (xt0 + xt1)), (0, .ref (ad 0)), (1, .int x1), (6, .int x6)]) hx hb dX8_meant_222 hl (k := 4) rfl rfl (by decide) rfl (fun ls hl => ?_)
    refine lv_goto (tgt := 103) hx hb dX8_meant_225 (by decide) ?_
    exact hkb _ _ _ _ _ _ _ ls hf  hP hS (lv_sub hl [3, 4, 2, 1, 0] rfl)
  · rw [if_neg c45] at hf
    refine lv_iconst (v := (1 : Int32)) hx hb dX8_meant_209 (by decide) ?_
    refine lv_iload hx hb dX8_meant_210 (lv_at hl 4 rfl) ?_
    refine lv_iconst (v := (5 : Int32)) hx hb dX8_meant_212 (by decide) ?_
    refine lv_idiv hx hb dX8_meant_213 (by decide) ?_
    refine lv_ishl hx hb dX8_meant_214 ?_
    refine lv_goto (tgt := 219) hx hb dX8_meant_215 (by decide) ?_
    refine lv_ior hx hb dX8_meant_219 ?_
    refine lv_istore (lv' := [(4, .int (x4 ||| ((1 : Int32) <<< ((x5 / (5 : Int32)) &&& 31)))), (3, .int (xt0 + xt1)), (0, .ref (ad 0)), (1, .int x1), (5, .int x5), (6, .int x6)]) hx hb dX8_meant_220 hl (by decide) rfl (fun ls hl => ?_)
    refine lv_iinc (v := (x5 + (1 : Int32))) (lv' := [(5, .int (x5 + (1 : Int32))), (4, .int (x4 ||| ((1 : Int32) <<< ((x5 / (5 : Int32)) &&& 31)))), (3, .int (xt0 + xt1)), (0, .ref (ad 0)), (1, .int x1), (6, .int x6)]) hx hb dX8_meant_222 hl (k := 4) rfl rfl (by decide) rfl (fun ls hl => ?_)
    refine lv_goto (tgt := 103) hx hb dX8_meant_225 (by decide) ?_
    exact hkb _ _ _ _ _ _ _ ls hf  hP hS (lv_sub hl [3, 4, 2, 1, 0] rfl)
set_option maxHeartbeats 4000000 in
set_option maxRecDepth 100000 in
theorem vb_X8_meant_103 (X : Cx D cI cP cB cA 19 ad tL tC p s m c cX8_meant 8 args RX8) (hr : meth.sig.returnType = (some .int)) (hlk : meth.locks = false) {res : Int32 × Stt} (kb : Int32 → Int32 → Int32 → Int32 → Stt → Option (Int32 × Stt)) (ke : Int32 → Int32 → Stt → Option (Int32 × Stt)) (hkb : ∀ (x1 : Int32) (x3 : Int32) (x4 : Int32) (x5 : Int32) (S : Stt) (H : Heap) (locs : List Loc) (ls : Array Slot), kb x1 x3 x4 x5 S = some res → va_P D vwCl (wl 19 ad (cfM ad cI S)) H → va_S (Ar 19 ad) s.heap H locs → lv_has ls 8 [(0, .ref (ad 0)), (1, .int x1), (3, .int x3), (4, .int x4), (5, .int x5)] → W p l e (rmD 5) s m args below meth c H locs 0 0 (MQ below (QI D 19 ad res.1 (cfM ad cI res.2)) args s 0 0 (Ar 19 ad)) (F0 m 103 ls [])) (hke : ∀ (x3 : Int32) (x4 : Int32) (S : Stt) (H : Heap) (locs : List Loc) (ls : Array Slot), ke x3 x4 S = some res → va_P D vwCl (wl 19 ad (cfM ad cI S)) H → va_S (Ar 19 ad) s.heap H locs → lv_has ls 8 [(0, .ref (ad 0)), (3, .int x3), (4, .int x4)] → W p l e (rmD 5) s m args below meth c H locs 0 0 (MQ below (QI D 19 ad res.1 (cfM ad cI res.2)) args s 0 0 (Ar 19 ad)) (F0 m 228 ls [])) : ∀ (x1 : Int32) (x3 : Int32) (x4 : Int32) (x5 : Int32) (S : Stt) (H : Heap) (locs : List Loc) (ls : Array Slot), fb_X8_meant_103 kb ke x1 x3 x4 x5 S = some res → va_P D vwCl (wl 19 ad (cfM ad cI S)) H → va_S (Ar 19 ad) s.heap H locs → lv_has ls 8 [(0, .ref (ad 0)), (1, .int x1), (3, .int x3), (4, .int x4), (5, .int x5)] → W p l e (rmD 5) s m args below meth c H locs 0 0 (MQ below (QI D 19 ad res.1 (cfM ad cI res.2)) args s 0 0 (Ar 19 ad)) (F0 m 103 ls []) := by
  intro x1 x3 x4 x5 S H locs ls hf hP hS hl
  have hx := X.1.1
  have hb := X.1.2.1
  unfold fb_X8_meant_103 at hf
  refine lv_iload hx hb dX8_meant_103 (lv_at hl 4 rfl) ?_
  refine lv_bipush (v := (25 : Int32)) hx hb dX8_meant_105 (by decide) ?_
  refine lv_icmp_ge (tgt := 228) hx hb dX8_meant_107 (by decide) (fun c29 => ?_) (fun c29 => ?_)
  · rw [if_pos c29] at hf
    exact hke _ _ _ _ _ ls hf  hP hS (lv_sub hl [0, 2, 3] rfl)
  · rw [if_neg c29] at hf
    refine lv_iconst (v := (1 : Int32)) hx hb dX8_meant_110 (by decide) ?_
    refine lv_istore (lv' := [(6, .int (1 : Int32)), (0, .ref (ad 0)), (1, .int x1), (3, .int x3), (4, .int x4), (5, .int x5)]) hx hb dX8_meant_111 hl (by decide) rfl (fun ls hl => ?_)
    refine lv_iconst (v := (0 : Int32)) hx hb dX8_meant_113 (by decide) ?_
    refine lv_istore (lv' := [(7, .int (0 : Int32)), (6, .int (1 : Int32)), (0, .ref (ad 0)), (1, .int x1), (3, .int x3), (4, .int x4), (5, .int x5)]) hx hb dX8_meant_114 hl (by decide) rfl (fun ls hl => ?_)
    refine vl_X8_meant_116 X hr hlk _ ?_ 300 _ _ _ _ _ _ _ _ _ ls hf  hP hS (lv_sub hl [2, 3, 4, 5, 6, 1, 0] rfl)
    intro x1 x3 x4 x5 x6 S H locs ls hf hP hS hl
    refine lv_iload_n hx hb dX8_meant_189 rfl (lv_at hl 2 rfl) ?_
    refine lv_iload hx hb dX8_meant_190 (lv_at hl 5 rfl) ?_
    refine lv_if_eq (tgt := 199) hx hb dX8_meant_192 (by decide) (fun c44 => ?_) (fun c44 => ?_)
    · rw [if_pos c44] at hf
      refine lv_iconst (v := (0 : Int32)) hx hb dX8_meant_199 (by decide) ?_
      exact vj_X8_meant_200_103 X hr hlk _ _ hkb hke _ _ _ _ _ _ _ _ _ ls hf  hP hS (lv_sub hl [0, 1, 3, 4, 5] rfl)
    · rw [if_neg c44] at hf
      refine lv_iconst (v := (1 : Int32)) hx hb dX8_meant_195 (by decide) ?_
      refine lv_goto (tgt := 200) hx hb dX8_meant_196 (by decide) ?_
      exact vj_X8_meant_200_103 X hr hlk _ _ hkb hke _ _ _ _ _ _ _ _ _ ls hf  hP hS (lv_sub hl [0, 1, 3, 4, 5] rfl)
set_option maxHeartbeats 4000000 in
set_option maxRecDepth 100000 in
theorem vl_X8_meant_103 (X : Cx D cI cP cB cA 19 ad tL tC p s m c cX8_meant 8 args RX8) (hr : meth.sig.returnType = (some .int)) (hlk : meth.locks = false) {res : Int32 × Stt} (ke : Int32 → Int32 → Stt → Option (Int32 × Stt)) (hke : ∀ (x3 : Int32) (x4 : Int32) (S : Stt) (H : Heap) (locs : List Loc) (ls : Array Slot), ke x3 x4 S = some res → va_P D vwCl (wl 19 ad (cfM ad cI S)) H → va_S (Ar 19 ad) s.heap H locs → lv_has ls 8 [(0, .ref (ad 0)), (3, .int x3), (4, .int x4)] → W p l e (rmD 5) s m args below meth c H locs 0 0 (MQ below (QI D 19 ad res.1 (cfM ad cI res.2)) args s 0 0 (Ar 19 ad)) (F0 m 228 ls [])) : ∀ (n : Nat), ∀ (x1 : Int32) (x3 : Int32) (x4 : Int32) (x5 : Int32) (S : Stt) (H : Heap) (locs : List Loc) (ls : Array Slot), fl_X8_meant_103 ke n x1 x3 x4 x5 S = some res → va_P D vwCl (wl 19 ad (cfM ad cI S)) H → va_S (Ar 19 ad) s.heap H locs → lv_has ls 8 [(0, .ref (ad 0)), (1, .int x1), (3, .int x3), (4, .int x4), (5, .int x5)] → W p l e (rmD 5) s m args below meth c H locs 0 0 (MQ below (QI D 19 ad res.1 (cfM ad cI res.2)) args s 0 0 (Ar 19 ad)) (F0 m 103 ls []) := by
  intro n
  induction n with
  | zero =>
    intro x1 x3 x4 x5 S H locs ls hf hP hS hl
    cases hf
  | succ n ih =>
    intro x1 x3 x4 x5 S H locs ls hf hP hS hl
    exact vb_X8_meant_103 X hr hlk _ ke ih hke x1 x3 x4 x5 S H locs ls hf  hP hS hl
end
set_option maxHeartbeats 4000000 in
set_option maxRecDepth 100000 in
theorem m_X8_meant {l : Launch} {D : va_G} {cI cP cB cA : ClassId} {ad : Nat → Nat} {tL tC : Nat} {x1 : Int32} {S : Stt} {res : Int32 × Stt} (hf : f_X8_meant x1 S = some res) : Ct l D cI cP cB cA 19 ad tL tC yX8_meant cX8_meant 8 (some .int) 5 [.ref (ad 0), .int x1] (cfM ad cI S) (QI D 19 ad res.1 (cfM ad cI res.2)) := by
  refine ctOf (by decide) (Nat.le_of_ble_eq_true rfl) ?_
  intro p e s m args below meth c ls X hr hlk hP hl
  have hS : va_S (Ar 19 ad) s.heap s.heap [] := va_S.rf
  have hx := X.1.1
  have hb := X.1.2.1
  have hl : lv_has ls 8 [(0, .ref (ad 0)), (1, .int x1)] := hl
  unfold f_X8_meant at hf
  refine lv_aload_n hx hb dX8_meant_0 rfl (lv_at hl 0 rfl) ?_
  refine lv_iload_n hx hb dX8_meant_1 rfl (lv_at hl 1 rfl) ?_
  obtain ⟨q1, e2, hf⟩ := bind_some hf
  refine aftI hS (cV (rest := []) X hP hS [.int x1] (m_X8_askedRow  e2) cw_X8_askedRow tw_292 tw_550 tw_764 (by decide) (cf_M ) rfl (fits9 (by first | decide | omega) (by decide)) rfl rfl hl.1 (Nat.le_of_ble_eq_true rfl) dX8_meant_2 ⟨Nat.zero_le _, Nat.zero_le _⟩) (fun H locs hP hS => ?_)
  refine lv_istore_n (lv' := [(2, .int q1.1), (0, .ref (ad 0)), (1, .int x1)]) hx hb dX8_meant_5 rfl hl (by decide) rfl (fun ls hl => ?_)
  refine lv_iload_n hx hb dX8_meant_6 rfl (lv_at hl 0 rfl) ?_
  refine lv_if_ge (tgt := 12) hx hb dX8_meant_7 (by decide) (fun c3 => ?_) (fun c3 => ?_)
  · rw [if_pos c3] at hf
    refine lv_aload_n hx hb dX8_meant_12 rfl (lv_at hl 1 rfl) ?_
    refine g_M_sizes X hP  tw_81 dX8_meant_13 ?_
    refine lv_iload_n hx hb dX8_meant_16 rfl (lv_at hl 2 rfl) ?_
    obtain ⟨g4, hf⟩ := grd_some hf
    refine r_m_sizes X hP  g4 dX8_meant_17 ?_
    refine lv_iconst (v := (3 : Int32)) hx hb dX8_meant_18 (by decide) ?_
    refine lv_irem hx hb dX8_meant_19 (by decide) ?_
    refine lv_if_eq (tgt := 29) hx hb dX8_meant_20 (by decide) (fun c5 => ?_) (fun c5 => ?_)
    · rw [if_pos c5] at hf
      refine lv_iconst (v := (0 : Int32)) hx hb dX8_meant_29 (by decide) ?_
      refine lv_istore_n (lv' := [(3, .int (0 : Int32)), (2, .int q1.1), (0, .ref (ad 0)), (1, .int x1)]) hx hb dX8_meant_30 rfl hl (by decide) rfl (fun ls hl => ?_)
      refine vl_X8_meant_31 X hr hlk _ ?_ 300 _ _ _ _ _ ls hf  hP hS (lv_sub hl [2, 3, 0] rfl)
      intro x1 S H locs ls hf hP hS hl
      refine lv_iconst (v := (0 : Int32)) hx hb dX8_meant_95 (by decide) ?_
      refine lv_istore_n (lv' := [(3, .int (0 : Int32)), (0, .ref (ad 0)), (1, .int x1)]) hx hb dX8_meant_96 rfl hl (by decide) rfl (fun ls hl => ?_)
      refine lv_iconst (v := (0 : Int32)) hx hb dX8_meant_97 (by decide) ?_
      refine lv_istore (lv' := [(4, .int (0 : Int32)), (3, .int (0 : Int32)), (0, .ref (ad 0)), (1, .int x1)]) hx hb dX8_meant_98 hl (by decide) rfl (fun ls hl => ?_)
      refine lv_iconst (v := (0 : Int32)) hx hb dX8_meant_100 (by decide) ?_
      refine lv_istore (lv' := [(5, .int (0 : Int32)), (4, .int (0 : Int32)), (3, .int (0 : Int32)), (0, .ref (ad 0)), (1, .int x1)]) hx hb dX8_meant_101 hl (by decide) rfl (fun ls hl => ?_)
      refine vl_X8_meant_103 X hr hlk _ ?_ 300 _ _ _ _ _ _ _ ls hf  hP hS (lv_sub hl [3, 4, 2, 1, 0] rfl)
      intro x3 x4 S H locs ls hf hP hS hl
      refine lv_aload_n hx hb dX8_meant_228 rfl (lv_at hl 0 rfl) ?_
      refine lv_iload hx hb dX8_meant_229 (lv_at hl 2 rfl) ?_
      refine lv_iload_n hx hb dX8_meant_231 rfl (lv_at hl 1 rfl) ?_
      obtain ⟨q46, e47, hf⟩ := bind_some hf
      refine aftI hS (cV (rest := []) X hP hS [.int x4, .int x3] (m_X8_ask  e47) cw_X8_ask tw_294 tw_552 tw_763 (by decide) (cf_M ) rfl (fits9 (by first | decide | omega) (by decide)) rfl rfl hl.1 (Nat.le_of_ble_eq_true rfl) dX8_meant_232 ⟨Nat.zero_le _, Nat.zero_le _⟩) (fun H locs hP hS => ?_)
      cases hf
      exact rtI X hr hlk hP hS dX8_meant_235
    · rw [if_neg c5] at hf
      refine lv_aload_n hx hb dX8_meant_23 rfl (lv_at hl 1 rfl) ?_
      refine lv_iconst (v := (5 : Int32)) hx hb dX8_meant_24 (by decide) ?_
      obtain ⟨q48, e49, hf⟩ := bind_some hf
      refine aftI hS (cV (rest := []) X hP hS [.int (5 : Int32)] (m_X8_meet  e49) cw_X8_meet tw_289 tw_547 tw_762 (by decide) (cf_M ) rfl (fits9 (by first | decide | omega) (by decide)) rfl rfl hl.1 (Nat.le_of_ble_eq_true rfl) dX8_meant_25 ⟨Nat.zero_le _, Nat.zero_le _⟩) (fun H locs hP hS => ?_)
      cases hf
      exact rtI X hr hlk hP hS dX8_meant_28
  · rw [if_neg c3] at hf
    refine lv_iload_n hx hb dX8_meant_10 rfl (lv_at hl 0 rfl) ?_
    cases hf
    exact rtI X hr hlk hP hS dX8_meant_11
/-! X8_onesOf -/
section
variable {p : Program} {l : Launch} {e : Env} {s : State} {m : MethodId} {args : Array Value} {below : List Frame} {meth : Method} {c : Code}
variable {D : va_G} {cI cP cB cA : ClassId} {ad : Nat → Nat} {tL tC : Nat}
set_option maxHeartbeats 4000000 in
set_option maxRecDepth 100000 in
theorem vb_X8_onesOf_20 (X : Cx D cI cP cB cA 19 ad tL tC p s m c cX8_onesOf 8 args RX8) (hr : meth.sig.returnType = (some .int)) (hlk : meth.locks = false) {res : Int32 × Stt} (kb : Int32 → Int32 → Int32 → Int32 → Int32 → Int32 → Int32 → Stt → Option (Int32 × Stt)) (ke : Int32 → Int32 → Int32 → Int32 → Int32 → Int32 → Stt → Option (Int32 × Stt)) (hkb : ∀ (x1 : Int32) (x2 : Int32) (x3 : Int32) (x4 : Int32) (x5 : Int32) (x6 : Int32) (x7 : Int32) (S : Stt) (H : Heap) (locs : List Loc) (ls : Array Slot), kb x1 x2 x3 x4 x5 x6 x7 S = some res → va_P D vwCl (wl 19 ad (cfM ad cI S)) H → va_S (Ar 19 ad) s.heap H locs → lv_has ls 8 [(0, .ref (ad 0)), (1, .int x1), (2, .int x2), (3, .int x3), (4, .int x4), (5, .int x5), (6, .int x6), (7, .int x7)] → W p l e (rmD 5) s m args below meth c H locs 0 0 (MQ below (QI D 19 ad res.1 (cfM ad cI res.2)) args s 0 0 (Ar 19 ad)) (F0 m 20 ls [])) (hke : ∀ (x1 : Int32) (x2 : Int32) (x3 : Int32) (x4 : Int32) (x5 : Int32) (x6 : Int32) (S : Stt) (H : Heap) (locs : List Loc) (ls : Array Slot), ke x1 x2 x3 x4 x5 x6 S = some res → va_P D vwCl (wl 19 ad (cfM ad cI S)) H → va_S (Ar 19 ad) s.heap H locs → lv_has ls 8 [(0, .ref (ad 0)), (1, .int x1), (2, .int x2), (3, .int x3), (4, .int x4), (5, .int x5), (6, .int x6)] → W p l e (rmD 5) s m args below meth c H locs 0 0 (MQ below (QI D 19 ad res.1 (cfM ad cI res.2)) args s 0 0 (Ar 19 ad)) (F0 m 76 ls [])) : ∀ (x1 : Int32) (x2 : Int32) (x3 : Int32) (x4 : Int32) (x5 : Int32) (x6 : Int32) (x7 : Int32) (S : Stt) (H : Heap) (locs : List Loc) (ls : Array Slot), fb_X8_onesOf_20 kb ke x1 x2 x3 x4 x5 x6 x7 S = some res → va_P D vwCl (wl 19 ad (cfM ad cI S)) H → va_S (Ar 19 ad) s.heap H locs → lv_has ls 8 [(0, .ref (ad 0)), (1, .int x1), (2, .int x2), (3, .int x3), (4, .int x4), (5, .int x5), (6, .int x6), (7, .int x7)] → W p l e (rmD 5) s m args below meth c H locs 0 0 (MQ below (QI D 19 ad res.1 (cfM ad cI res.2)) args s 0 0 (Ar 19 ad)) (F0 m 20 ls []) := by
  intro x1 x2 x3 x4 x5 x6 x7 S H locs ls hf hP hS hl
  have hx := X.1.1
  have hb := X.1.2.1
  unfold fb_X8_onesOf_20 at hf
  refine lv_iload hx hb dX8_onesOf_20 (lv_at hl 7 rfl) ?_
  refine lv_iconst (v := (5 : Int32)) hx hb dX8_onesOf_22 (by decide) ?_
  refine lv_icmp_ge (tgt := 76) hx hb dX8_onesOf_23 (by decide) (fun c2 => ?_) (fun c2 => ?_)
  · rw [if_pos c2] at hf
    exact hke _ _ _ _ _ _ _ _ _ ls hf  hP hS (lv_sub hl [0, 1, 2, 3, 4, 5, 6] rfl)
  · rw [if_neg c2] at hf
    refine lv_iload_n hx hb dX8_onesOf_26 rfl (lv_at hl 3 rfl) ?_
    refine lv_iload hx hb dX8_onesOf_27 (lv_at hl 6 rfl) ?_
    obtain ⟨q3, e4, hf⟩ := bind_some hf
    refine aftI hS (cS (rest := []) X hP hS [.int x3, .int x6] (m_X8_has  e4) cw_X8_has tw_333 tw_590 (fits9 (by first | decide | omega) (by decide)) rfl rfl hl.1 (Nat.le_of_ble_eq_true rfl) dX8_onesOf_29 ⟨Nat.zero_le _, Nat.zero_le _⟩) (fun H locs hP hS => ?_)
    refine lv_if_eq (tgt := 70) hx hb dX8_onesOf_32 (by decide) (fun c5 => ?_) (fun c5 => ?_)
    · rw [if_pos c5] at hf
      refine lv_iinc (v := (x7 + (1 : Int32))) (lv' := [(7, .int (x7 + (1 : Int32))), (0, .ref (ad 0)), (1, .int x1), (2, .int x2), (3, .int x3), (4, .int x4), (5, .int x5), (6, .int x6)]) hx hb dX8_onesOf_70 hl (k := 7) rfl rfl (by decide) rfl (fun ls hl => ?_)
      refine lv_goto (tgt := 20) hx hb dX8_onesOf_73 (by decide) ?_
      exact hkb _ _ _ _ _ _ _ _ _ _ ls hf  hP hS (lv_sub hl [1, 2, 3, 4, 5, 6, 7, 0] rfl)
    · rw [if_neg c5] at hf
      refine lv_iload hx hb dX8_onesOf_35 (lv_at hl 4 rfl) ?_
      refine lv_iload hx hb dX8_onesOf_37 (lv_at hl 7 rfl) ?_
      obtain ⟨q6, e7, hf⟩ := bind_some hf
      refine aftI hS (cS (rest := []) X hP hS [.int x4, .int x7] (m_X8_has  e7) cw_X8_has tw_333 tw_590 (fits9 (by first | decide | omega) (by decide)) rfl rfl hl.1 (Nat.le_of_ble_eq_true rfl) dX8_onesOf_39 ⟨Nat.zero_le _, Nat.zero_le _⟩) (fun H locs hP hS => ?_)
      refine lv_if_eq (tgt := 70) hx hb dX8_onesOf_42 (by decide) (fun c8 => ?_) (fun c8 => ?_)
      · rw [if_pos c8] at hf
        refine lv_iinc (v := (x7 + (1 : Int32))) (lv' := [(7, .int (x7 + (1 : Int32))), (0, .ref (ad 0)), (1, .int x1), (2, .int x2), (3, .int x3), (4, .int x4), (5, .int x5), (6, .int x6)]) hx hb dX8_onesOf_70 hl (k := 7) rfl rfl (by decide) rfl (fun ls hl => ?_)
        refine lv_goto (tgt := 20) hx hb dX8_onesOf_73 (by decide) ?_
        exact hkb _ _ _ _ _ _ _ _ _ _ ls hf  hP hS (lv_sub hl [1, 2, 3, 4, 5, 6, 7, 0] rfl)
      · rw [if_neg c8] at hf
        refine lv_aload_n hx hb dX8_onesOf_45 rfl (lv_at hl 0 rfl) ?_
        refine lv_dup hx hb dX8_onesOf_46 rfl ?_
        refine g_M_ways X hP  tw_98 dX8_onesOf_47 ?_
        refine lv_iconst (v := (1 : Int32)) hx hb dX8_onesOf_50 (by decide) ?_
        refine lv_iadd hx hb dX8_onesOf_51 ?_
        refine p_M_ways X hP hS  tw_98 dX8_onesOf_52 (fun H locs hP hS => ?_)
        refine lv_iload hx hb dX8_onesOf_55 (lv_at hl 5 rfl) ?_
        refine lv_aload_n hx hb dX8_onesOf_57 rfl (lv_at hl 0 rfl) ?_
        refine lv_iload_n hx hb dX8_onesOf_58 rfl (lv_at hl 1 rfl) ?_
        refine lv_iload hx hb dX8_onesOf_59 (lv_at hl 6 rfl) ?_
        refine lv_iload hx hb dX8_onesOf_61 (lv_at hl 7 rfl) ?_
        refine lv_iload_n hx hb dX8_onesOf_63 rfl (lv_at hl 2 rfl) ?_
        obtain ⟨q9, e10, hf⟩ := bind_some hf
        refine aftI hS (cV (rest := [.int x5]) X hP hS [.int x1, .int x6, .int x7, .int x2] (m_X8_givenBy  e10) cw_X8_givenBy tw_341 tw_598 tw_805 (by decide) (cf_M ) rfl (fits9 (by first | decide | omega) (by decide)) rfl rfl hl.1 (Nat.le_of_ble_eq_true rfl) dX8_onesOf_64 ⟨Nat.zero_le _, Nat.zero_le _⟩) (fun H locs hP hS => ?_)
        refine lv_iadd hx hb dX8_onesOf_67 ?_
        refine lv_istore (lv' := [(5, .int (x5 + q9.1)), (0, .ref (ad 0)), (1, .int x1), (2, .int x2), (3, .int x3), (4, .int x4), (6, .int x6), (7, .int x7)]) hx hb dX8_onesOf_68 hl (by decide) rfl (fun ls hl => ?_)
        refine lv_iinc (v := (x7 + (1 : Int32))) (lv' := [(7, .int (x7 + (1 : Int32))), (5, .int (x5 + q9.1)), (0, .ref (ad 0)), (1, .int x1), (2, .int x2), (3, .int x3), (4, .int x4), (6, .int x6)]) hx hb dX8_onesOf_70 hl (k := 7) rfl rfl (by decide) rfl (fun ls hl => ?_)
        refine lv_goto (tgt := 20) hx hb dX8_onesOf_73 (by decide) ?_
        exact hkb _ _ _ _ _ _ _ _ _ _ ls hf  hP hS (lv_sub hl [2, 3, 4, 5, 6, 1, 7, 0] rfl)
set_option maxHeartbeats 4000000 in
set_option maxRecDepth 100000 in
theorem vl_X8_onesOf_20 (X : Cx D cI cP cB cA 19 ad tL tC p s m c cX8_onesOf 8 args RX8) (hr : meth.sig.returnType = (some .int)) (hlk : meth.locks = false) {res : Int32 × Stt} (ke : Int32 → Int32 → Int32 → Int32 → Int32 → Int32 → Stt → Option (Int32 × Stt)) (hke : ∀ (x1 : Int32) (x2 : Int32) (x3 : Int32) (x4 : Int32) (x5 : Int32) (x6 : Int32) (S : Stt) (H : Heap) (locs : List Loc) (ls : Array Slot), ke x1 x2 x3 x4 x5 x6 S = some res → va_P D vwCl (wl 19 ad (cfM ad cI S)) H → va_S (Ar 19 ad) s.heap H locs → lv_has ls 8 [(0, .ref (ad 0)), (1, .int x1), (2, .int x2), (3, .int x3), (4, .int x4), (5, .int x5), (6, .int x6)] → W p l e (rmD 5) s m args below meth c H locs 0 0 (MQ below (QI D 19 ad res.1 (cfM ad cI res.2)) args s 0 0 (Ar 19 ad)) (F0 m 76 ls [])) : ∀ (n : Nat), ∀ (x1 : Int32) (x2 : Int32) (x3 : Int32) (x4 : Int32) (x5 : Int32) (x6 : Int32) (x7 : Int32) (S : Stt) (H : Heap) (locs : List Loc) (ls : Array Slot), fl_X8_onesOf_20 ke n x1 x2 x3 x4 x5 x6 x7 S = some res → va_P D vwCl (wl 19 ad (cfM ad cI S)) H → va_S (Ar 19 ad) s.heap H locs → lv_has ls 8 [(0, .ref (ad 0)), (1, .int x1), (2, .int x2), (3, .int x3), (4, .int x4), (5, .int x5), (6, .int x6), (7, .int x7)] → W p l e (rmD 5) s m args below meth c H locs 0 0 (MQ below (QI D 19 ad res.1 (cfM ad cI res.2)) args s 0 0 (Ar 19 ad)) (F0 m 20 ls []) := by
  intro n
  induction n with
  | zero =>
    intro x1 x2 x3 x4 x5 x6 x7 S H locs ls hf hP hS hl
    cases hf
  | succ n ih =>
    intro x1 x2 x3 x4 x5 x6 x7 S H locs ls hf hP hS hl
    exact vb_X8_onesOf_20 X hr hlk _ ke ih hke x1 x2 x3 x4 x5 x6 x7 S H locs ls hf  hP hS hl
set_option maxHeartbeats 4000000 in
set_option maxRecDepth 100000 in
theorem vb_X8_onesOf_11 (X : Cx D cI cP cB cA 19 ad tL tC p s m c cX8_onesOf 8 args RX8) (hr : meth.sig.returnType = (some .int)) (hlk : meth.locks = false) {res : Int32 × Stt} (kb : Int32 → Int32 → Int32 → Int32 → Int32 → Int32 → Stt → Option (Int32 × Stt)) (ke : Int32 → Stt → Option (Int32 × Stt)) (hkb : ∀ (x1 : Int32) (x2 : Int32) (x3 : Int32) (x4 : Int32) (x5 : Int32) (x6 : Int32) (S : Stt) (H : Heap) (locs : List Loc) (ls : Array Slot), kb x1 x2 x3 x4 x5 x6 S = some res → va_P D vwCl (wl 19 ad (cfM ad cI S)) H → va_S (Ar 19 ad) s.heap H locs → lv_has ls 8 [(0, .ref (ad 0)), (1, .int x1), (2, .int x2), (3, .int x3), (4, .int x4), (5, .int x5), (6, .int x6)] → W p l e (rmD 5) s m args below meth c H locs 0 0 (MQ below (QI D 19 ad res.1 (cfM ad cI res.2)) args s 0 0 (Ar 19 ad)) (F0 m 11 ls [])) (hke : ∀ (x5 : Int32) (S : Stt) (H : Heap) (locs : List Loc) (ls : Array Slot), ke x5 S = some res → va_P D vwCl (wl 19 ad (cfM ad cI S)) H → va_S (Ar 19 ad) s.heap H locs → lv_has ls 8 [(5, .int x5)] → W p l e (rmD 5) s m args below meth c H locs 0 0 (MQ below (QI D 19 ad res.1 (cfM ad cI res.2)) args s 0 0 (Ar 19 ad)) (F0 m 82 ls [])) : ∀ (x1 : Int32) (x2 : Int32) (x3 : Int32) (x4 : Int32) (x5 : Int32) (x6 : Int32) (S : Stt) (H : Heap) (locs : List Loc) (ls : Array Slot), fb_X8_onesOf_11 kb ke x1 x2 x3 x4 x5 x6 S = some res → va_P D vwCl (wl 19 ad (cfM ad cI S)) H → va_S (Ar 19 ad) s.heap H locs → lv_has ls 8 [(0, .ref (ad 0)), (1, .int x1), (2, .int x2), (3, .int x3), (4, .int x4), (5, .int x5), (6, .int x6)] → W p l e (rmD 5) s m args below meth c H locs 0 0 (MQ below (QI D 19 ad res.1 (cfM ad cI res.2)) args s 0 0 (Ar 19 ad)) (F0 m 11 ls []) := by
  intro x1 x2 x3 x4 x5 x6 S H locs ls hf hP hS hl
  have hx := X.1.1
  have hb := X.1.2.1
  unfold fb_X8_onesOf_11 at hf
  refine lv_iload hx hb dX8_onesOf_11 (lv_at hl 6 rfl) ?_
  refine lv_iconst (v := (5 : Int32)) hx hb dX8_onesOf_13 (by decide) ?_
  refine lv_icmp_ge (tgt := 82) hx hb dX8_onesOf_14 (by decide) (fun c1 => ?_) (fun c1 => ?_)
  · rw [if_pos c1] at hf
    exact hke _ _ _ _ ls hf  hP hS (lv_sub hl [5] rfl)
  · rw [if_neg c1] at hf
    refine lv_iconst (v := (0 : Int32)) hx hb dX8_onesOf_17 (by decide) ?_
    refine lv_istore (lv' := [(7, .int (0 : Int32)), (0, .ref (ad 0)), (1, .int x1), (2, .int x2), (3, .int x3), (4, .int x4), (5, .int x5), (6, .int x6)]) hx hb dX8_onesOf_18 hl (by decide) rfl (fun ls hl => ?_)
    refine vl_X8_onesOf_20 X hr hlk _ ?_ 300 _ _ _ _ _ _ _ _ _ _ ls hf  hP hS (lv_sub hl [1, 2, 3, 4, 5, 6, 7, 0] rfl)
    intro x1 x2 x3 x4 x5 x6 S H locs ls hf hP hS hl
    refine lv_iinc (v := (x6 + (1 : Int32))) (lv' := [(6, .int (x6 + (1 : Int32))), (0, .ref (ad 0)), (1, .int x1), (2, .int x2), (3, .int x3), (4, .int x4), (5, .int x5)]) hx hb dX8_onesOf_76 hl (k := 6) rfl rfl (by decide) rfl (fun ls hl => ?_)
    refine lv_goto (tgt := 11) hx hb dX8_onesOf_79 (by decide) ?_
    exact hkb _ _ _ _ _ _ _ _ _ ls hf  hP hS (lv_sub hl [1, 2, 3, 4, 5, 6, 0] rfl)
set_option maxHeartbeats 4000000 in
set_option maxRecDepth 100000 in
theorem vl_X8_onesOf_11 (X : Cx D cI cP cB cA 19 ad tL tC p s m c cX8_onesOf 8 args RX8) (hr : meth.sig.returnType = (some .int)) (hlk : meth.locks = false) {res : Int32 × Stt} (ke : Int32 → Stt → Option (Int32 × Stt)) (hke : ∀ (x5 : Int32) (S : Stt) (H : Heap) (locs : List Loc) (ls : Array Slot), ke x5 S = some res → va_P D vwCl (wl 19 ad (cfM ad cI S)) H → va_S (Ar 19 ad) s.heap H locs → lv_has ls 8 [(5, .int x5)] → W p l e (rmD 5) s m args below meth c H locs 0 0 (MQ below (QI D 19 ad res.1 (cfM ad cI res.2)) args s 0 0 (Ar 19 ad)) (F0 m 82 ls [])) : ∀ (n : Nat), ∀ (x1 : Int32) (x2 : Int32) (x3 : Int32) (x4 : Int32) (x5 : Int32) (x6 : Int32) (S : Stt) (H : Heap) (locs : List Loc) (ls : Array Slot), fl_X8_onesOf_11 ke n x1 x2 x3 x4 x5 x6 S = some res → va_P D vwCl (wl 19 ad (cfM ad cI S)) H → va_S (Ar 19 ad) s.heap H locs → lv_has ls 8 [(0, .ref (ad 0)), (1, .int x1), (2, .int x2), (3, .int x3), (4, .int x4), (5, .int x5), (6, .int x6)] → W p l e (rmD 5) s m args below meth c H locs 0 0 (MQ below (QI D 19 ad res.1 (cfM ad cI res.2)) args s 0 0 (Ar 19 ad)) (F0 m 11 ls []) := by
  intro n
  induction n with
  | zero =>
    intro x1 x2 x3 x4 x5 x6 S H locs ls hf hP hS hl
    cases hf
  | succ n ih =>
    intro x1 x2 x3 x4 x5 x6 S H locs ls hf hP hS hl
    exact vb_X8_onesOf_11 X hr hlk _ ke ih hke x1 x2 x3 x4 x5 x6 S H locs ls hf  hP hS hl
end
set_option maxHeartbeats 4000000 in
set_option maxRecDepth 100000 in
theorem m_X8_onesOf {l : Launch} {D : va_G} {cI cP cB cA : ClassId} {ad : Nat → Nat} {tL tC : Nat} {x1 : Int32} {x2 : Int32} {x3 : Int32} {x4 : Int32} {S : Stt} {res : Int32 × Stt} (hf : f_X8_onesOf x1 x2 x3 x4 S = some res) : Ct l D cI cP cB cA 19 ad tL tC yX8_onesOf cX8_onesOf 8 (some .int) 5 [.ref (ad 0), .int x1, .int x2, .int x3, .int x4] (cfM ad cI S) (QI D 19 ad res.1 (cfM ad cI res.2)) := by
  refine ctOf (by decide) (Nat.le_of_ble_eq_true rfl) ?_
  intro p e s m args below meth c ls X hr hlk hP hl
  have hS : va_S (Ar 19 ad) s.heap s.heap [] := va_S.rf
  have hx := X.1.1
  have hb := X.1.2.1
  have hl : lv_has ls 8 [(0, .ref (ad 0)), (1, .int x1), (2, .int x2), (3, .int x3), (4, .int x4)] := hl
  unfold f_X8_onesOf at hf
  refine lv_iconst (v := (0 : Int32)) hx hb dX8_onesOf_0 (by decide) ?_
  refine lv_istore (lv' := [(5, .int (0 : Int32)), (0, .ref (ad 0)), (1, .int x1), (2, .int x2), (3, .int x3), (4, .int x4)]) hx hb dX8_onesOf_1 hl (by decide) rfl (fun ls hl => ?_)
  refine lv_aload_n hx hb dX8_onesOf_3 rfl (lv_at hl 1 rfl) ?_
  refine lv_iconst (v := (0 : Int32)) hx hb dX8_onesOf_4 (by decide) ?_
  refine p_M_ways X hP hS  tw_98 dX8_onesOf_5 (fun H locs hP hS => ?_)
  refine lv_iconst (v := (0 : Int32)) hx hb dX8_onesOf_8 (by decide) ?_
  refine lv_istore (lv' := [(6, .int (0 : Int32)), (5, .int (0 : Int32)), (0, .ref (ad 0)), (1, .int x1), (2, .int x2), (3, .int x3), (4, .int x4)]) hx hb dX8_onesOf_9 hl (by decide) rfl (fun ls hl => ?_)
  refine vl_X8_onesOf_11 X hr hlk _ ?_ 300 _ _ _ _ _ _ _ _ _ ls hf  hP hS (lv_sub hl [2, 3, 4, 5, 6, 1, 0] rfl)
  intro x5 S H locs ls hf hP hS hl
  refine lv_iload hx hb dX8_onesOf_82 (lv_at hl 0 rfl) ?_
  cases hf
  exact rtI X hr hlk hP hS dX8_onesOf_84
/-! X5_faultOf -/
section
variable {p : Program} {l : Launch} {e : Env} {s : State} {m : MethodId} {args : Array Value} {below : List Frame} {meth : Method} {c : Code}
variable {D : va_G} {cI cP cB cA : ClassId} {ad : Nat → Nat} {tL tC : Nat}
set_option maxHeartbeats 4000000 in
set_option maxRecDepth 100000 in
theorem vb_X5_faultOf_36 (X : Cx D cI cP cB cA 79 ad tL tC p s m c cX5_faultOf 5 args RX5) (hr : meth.sig.returnType = (some .int)) (hlk : meth.locks = false) {res : Int32 × Stt} (kb : Nat → Int32 → Stt → Option (Int32 × Stt)) (ke : Stt → Option (Int32 × Stt)) (hkb : ∀ (b3 : Nat) (x4 : Int32) (S : Stt) (H : Heap) (locs : List Loc) (ls : Array Slot), kb b3 x4 S = some res → b3 < 5 → va_P D vwCl (wl 79 ad (cfC ad cI cP cB cA S)) H → va_S (Ar 79 ad) s.heap H locs → lv_has ls 5 [(0, .ref (ad 7)), (3, .ref (ad (34 + b3))), (4, .int x4)] → W p l e (rmD 6) s m args below meth c H locs 0 0 (MQ below (QI D 79 ad res.1 (cfC ad cI cP cB cA res.2)) args s 0 0 (Ar 79 ad)) (F0 m 36 ls [])) (hke : ∀ (S : Stt) (H : Heap) (locs : List Loc) (ls : Array Slot), ke S = some res → va_P D vwCl (wl 79 ad (cfC ad cI cP cB cA S)) H → va_S (Ar 79 ad) s.heap H locs → lv_has ls 5 [(0, .ref (ad 7))] → W p l e (rmD 6) s m args below meth c H locs 0 0 (MQ below (QI D 79 ad res.1 (cfC ad cI cP cB cA res.2)) args s 0 0 (Ar 79 ad)) (F0 m 94 ls [])) : ∀ (b3 : Nat) (x4 : Int32) (S : Stt) (H : Heap) (locs : List Loc) (ls : Array Slot), fb_X5_faultOf_36 kb ke b3 x4 S = some res → b3 < 5 → va_P D vwCl (wl 79 ad (cfC ad cI cP cB cA S)) H → va_S (Ar 79 ad) s.heap H locs → lv_has ls 5 [(0, .ref (ad 7)), (3, .ref (ad (34 + b3))), (4, .int x4)] → W p l e (rmD 6) s m args below meth c H locs 0 0 (MQ below (QI D 79 ad res.1 (cfC ad cI cP cB cA res.2)) args s 0 0 (Ar 79 ad)) (F0 m 36 ls []) := by
  intro b3 x4 S H locs ls hf hb_3_0 hP hS hl
  have hx := X.1.1
  have hb := X.1.2.1
  unfold fb_X5_faultOf_36 at hf
  refine lv_iload hx hb dX5_faultOf_36 (lv_at hl 2 rfl) ?_
  refine lv_bipush (v := (80 : Int32)) hx hb dX5_faultOf_38 (by decide) ?_
  refine lv_icmp_ge (tgt := 94) hx hb dX5_faultOf_40 (by decide) (fun c5 => ?_) (fun c5 => ?_)
  · rw [if_pos c5] at hf
    exact hke  _ _ _ ls hf  hP hS (lv_sub hl [0] rfl)
  · rw [if_neg c5] at hf
    refine lv_aload_n hx hb dX5_faultOf_43 rfl (lv_at hl 0 rfl) ?_
    refine g_Scribe_stuck X hP  tw_33 dX5_faultOf_44 ?_
    refine lv_if_ne (tgt := 94) hx hb dX5_faultOf_47 (by decide) (fun c6 => ?_) (fun c6 => ?_)
    · rw [if_neg c6] at hf
      exact hke  _ _ _ ls hf  hP hS (lv_sub hl [0] rfl)
    · rw [if_pos c6] at hf
      refine lv_aload_n hx hb dX5_faultOf_50 rfl (lv_at hl 0 rfl) ?_
      refine g_Scribe_place X hP  tw_32 dX5_faultOf_51 ?_
      refine lv_aload_n hx hb dX5_faultOf_54 rfl (lv_at hl 0 rfl) ?_
      refine g_Scribe_size X hP  tw_31 dX5_faultOf_55 ?_
      refine lv_icmp_ge (tgt := 94) hx hb dX5_faultOf_58 (by decide) (fun c7 => ?_) (fun c7 => ?_)
      · rw [if_pos c7] at hf
        exact hke  _ _ _ ls hf  hP hS (lv_sub hl [0] rfl)
      · rw [if_neg c7] at hf
        refine lv_aload_n hx hb dX5_faultOf_61 rfl (lv_at hl 0 rfl) ?_
        obtain ⟨q8, e9, hf⟩ := bind_some hf
        refine aftI hS (cV (rest := []) X hP hS [] (m_X5_sign  e9) cw_X5_sign tw_149 tw_429 tw_689 (by decide) (cf_Scribe ) rfl (fits9 (by first | decide | omega) (by decide)) rfl rfl hl.1 (Nat.le_of_ble_eq_true rfl) dX5_faultOf_62 ⟨Nat.zero_le _, Nat.zero_le _⟩) (fun H locs hP hS => ?_)
        refine lv_bipush (v := (32 : Int32)) hx hb dX5_faultOf_65 (by decide) ?_
        refine lv_icmp_ne (tgt := 83) hx hb dX5_faultOf_67 (by decide) (fun c10 => ?_) (fun c10 => ?_)
        · rw [if_neg c10] at hf
          refine lv_aload_n hx hb dX5_faultOf_83 rfl (lv_at hl 0 rfl) ?_
          refine lv_aload_n hx hb dX5_faultOf_84 rfl (lv_at hl 1 rfl) ?_
          obtain ⟨q11, e12, hf⟩ := bind_some hf
          refine aftV hS (cV (rest := []) X hP hS [.ref (ad (34 + b3))] (m_X5_takeItem hb_3_0 e12) cw_X5_takeItem tw_151 tw_430 tw_690 (by decide) (cf_Scribe ) rfl (fits9 (by first | decide | omega) (by decide)) rfl rfl hl.1 (Nat.le_of_ble_eq_true rfl) dX5_faultOf_85 ⟨Nat.zero_le _, Nat.zero_le _⟩) (fun H locs hP hS => ?_)
          refine lv_iinc (v := (x4 + (1 : Int32))) (lv' := [(4, .int (x4 + (1 : Int32))), (0, .ref (ad 7)), (3, .ref (ad (34 + b3)))]) hx hb dX5_faultOf_88 hl (k := 2) rfl rfl (by decide) rfl (fun ls hl => ?_)
          refine lv_goto (tgt := 36) hx hb dX5_faultOf_91 (by decide) ?_
          exact hkb _ _ _ _ _ ls hf hb_3_0 hP hS (lv_sub hl [1, 2, 0] rfl)
        · rw [if_pos c10] at hf
          refine lv_aload_n hx hb dX5_faultOf_70 rfl (lv_at hl 0 rfl) ?_
          refine lv_dup hx hb dX5_faultOf_71 rfl ?_
          refine g_Scribe_place X hP  tw_32 dX5_faultOf_72 ?_
          refine lv_iconst (v := (1 : Int32)) hx hb dX5_faultOf_75 (by decide) ?_
          refine lv_iadd hx hb dX5_faultOf_76 ?_
          refine p_Scribe_place X hP hS  tw_32 dX5_faultOf_77 (fun H locs hP hS => ?_)
          refine lv_goto (tgt := 88) hx hb dX5_faultOf_80 (by decide) ?_
          refine lv_iinc (v := (x4 + (1 : Int32))) (lv' := [(4, .int (x4 + (1 : Int32))), (0, .ref (ad 7)), (3, .ref (ad (34 + b3)))]) hx hb dX5_faultOf_88 hl (k := 2) rfl rfl (by decide) rfl (fun ls hl => ?_)
          refine lv_goto (tgt := 36) hx hb dX5_faultOf_91 (by decide) ?_
          exact hkb _ _ _ _ _ ls hf hb_3_0 hP hS (lv_sub hl [1, 2, 0] rfl)
set_option maxHeartbeats 4000000 in
set_option maxRecDepth 100000 in
theorem vl_X5_faultOf_36 (X : Cx D cI cP cB cA 79 ad tL tC p s m c cX5_faultOf 5 args RX5) (hr : meth.sig.returnType = (some .int)) (hlk : meth.locks = false) {res : Int32 × Stt} (ke : Stt → Option (Int32 × Stt)) (hke : ∀ (S : Stt) (H : Heap) (locs : List Loc) (ls : Array Slot), ke S = some res → va_P D vwCl (wl 79 ad (cfC ad cI cP cB cA S)) H → va_S (Ar 79 ad) s.heap H locs → lv_has ls 5 [(0, .ref (ad 7))] → W p l e (rmD 6) s m args below meth c H locs 0 0 (MQ below (QI D 79 ad res.1 (cfC ad cI cP cB cA res.2)) args s 0 0 (Ar 79 ad)) (F0 m 94 ls [])) : ∀ (n : Nat), ∀ (b3 : Nat) (x4 : Int32) (S : Stt) (H : Heap) (locs : List Loc) (ls : Array Slot), fl_X5_faultOf_36 ke n b3 x4 S = some res → b3 < 5 → va_P D vwCl (wl 79 ad (cfC ad cI cP cB cA S)) H → va_S (Ar 79 ad) s.heap H locs → lv_has ls 5 [(0, .ref (ad 7)), (3, .ref (ad (34 + b3))), (4, .int x4)] → W p l e (rmD 6) s m args below meth c H locs 0 0 (MQ below (QI D 79 ad res.1 (cfC ad cI cP cB cA res.2)) args s 0 0 (Ar 79 ad)) (F0 m 36 ls []) := by
  intro n
  induction n with
  | zero =>
    intro b3 x4 S H locs ls hf hb_3_0 hP hS hl
    cases hf
  | succ n ih =>
    intro b3 x4 S H locs ls hf hb_3_0 hP hS hl
    exact vb_X5_faultOf_36 X hr hlk _ ke ih hke b3 x4 S H locs ls hf hb_3_0 hP hS hl
set_option maxHeartbeats 4000000 in
set_option maxRecDepth 100000 in
theorem vj_X5_faultOf_94 (X : Cx D cI cP cB cA 79 ad tL tC p s m c cX5_faultOf 5 args RX5) (hr : meth.sig.returnType = (some .int)) (hlk : meth.locks = false) {res : Int32 × Stt} : ∀ (S : Stt) (H : Heap) (locs : List Loc) (ls : Array Slot), fj_X5_faultOf_94 S = some res → va_P D vwCl (wl 79 ad (cfC ad cI cP cB cA S)) H → va_S (Ar 79 ad) s.heap H locs → lv_has ls 5 [(0, .ref (ad 7))] → W p l e (rmD 6) s m args below meth c H locs 0 0 (MQ below (QI D 79 ad res.1 (cfC ad cI cP cB cA res.2)) args s 0 0 (Ar 79 ad)) (F0 m 94 ls []) := by
  intro S H locs ls hf hP hS hl
  have hx := X.1.1
  have hb := X.1.2.1
  unfold fj_X5_faultOf_94 at hf
  refine lv_aload_n hx hb dX5_faultOf_94 rfl (lv_at hl 0 rfl) ?_
  refine g_Scribe_stuck X hP  tw_33 dX5_faultOf_95 ?_
  refine lv_if_eq (tgt := 108) hx hb dX5_faultOf_98 (by decide) (fun c13 => ?_) (fun c13 => ?_)
  · rw [if_pos c13] at hf
    refine lv_bipush (v := (-9 : Int32)) hx hb dX5_faultOf_108 (by decide) ?_
    cases hf
    exact rtI X hr hlk hP hS dX5_faultOf_110
  · rw [if_neg c13] at hf
    refine lv_aload_n hx hb dX5_faultOf_101 rfl (lv_at hl 0 rfl) ?_
    refine g_Scribe_place X hP  tw_32 dX5_faultOf_102 ?_
    refine lv_goto (tgt := 110) hx hb dX5_faultOf_105 (by decide) ?_
    cases hf
    exact rtI X hr hlk hP hS dX5_faultOf_110
end
set_option maxHeartbeats 4000000 in
set_option maxRecDepth 100000 in
theorem m_X5_faultOf {l : Launch} {D : va_G} {cI cP cB cA : ClassId} {ad : Nat → Nat} {tL tC : Nat} {x2 : Int32} {b3 : Nat} (hb_3_0 : b3 < 5) {S : Stt} {res : Int32 × Stt} (hf : f_X5_faultOf x2 b3 S = some res) : Ct l D cI cP cB cA 79 ad tL tC yX5_faultOf cX5_faultOf 5 (some .int) 6 [.ref (ad 7), .ref (ad (1 + 1)), .int x2, .ref (ad (34 + b3))] (cfC ad cI cP cB cA S) (QI D 79 ad res.1 (cfC ad cI cP cB cA res.2)) := by
  refine ctOf (by decide) (Nat.le_of_ble_eq_true rfl) ?_
  intro p e s m args below meth c ls X hr hlk hP hl
  have hS : va_S (Ar 79 ad) s.heap s.heap [] := va_S.rf
  have hx := X.1.1
  have hb := X.1.2.1
  have hl : lv_has ls 5 [(0, .ref (ad 7)), (1, .ref (ad (1 + 1))), (2, .int x2), (3, .ref (ad (34 + b3)))] := hl
  unfold f_X5_faultOf at hf
  refine lv_aload_n hx hb dX5_faultOf_0 rfl (lv_at hl 0 rfl) ?_
  refine lv_aload_n hx hb dX5_faultOf_1 rfl (lv_at hl 1 rfl) ?_
  refine p_Scribe_texts X hP hS  tw_29 dX5_faultOf_2 (fun H locs hP hS => ?_)
  refine lv_aload_n hx hb dX5_faultOf_5 rfl (lv_at hl 0 rfl) ?_
  refine lv_iload_n hx hb dX5_faultOf_6 rfl (lv_at hl 2 rfl) ?_
  refine p_Scribe_t X hP hS  tw_30 dX5_faultOf_7 (fun H locs hP hS => ?_)
  refine lv_aload_n hx hb dX5_faultOf_10 rfl (lv_at hl 0 rfl) ?_
  refine lv_aload_n hx hb dX5_faultOf_11 rfl (lv_at hl 1 rfl) ?_
  refine lv_iload_n hx hb dX5_faultOf_12 rfl (lv_at hl 2 rfl) ?_
  obtain ⟨q1, e2, hf⟩ := bind_some hf
  refine aftI hS (cV (rest := [.ref (ad 7)]) X hP hS [.int x2] (m_X6_sizeOf (by decide) e2) cw_X6_sizeOf tw_147 tw_422 tw_698 (sh_lt (by decide)) (cf_Shelf (by decide)) rfl (fits9 (by first | decide | omega) (by decide)) rfl rfl hl.1 (Nat.le_of_ble_eq_true rfl) dX5_faultOf_13 ⟨Nat.zero_le _, Nat.zero_le _⟩) (fun H locs hP hS => ?_)
  refine p_Scribe_size X hP hS  tw_31 dX5_faultOf_16 (fun H locs hP hS => ?_)
  refine lv_aload_n hx hb dX5_faultOf_19 rfl (lv_at hl 0 rfl) ?_
  refine lv_iconst (v := (0 : Int32)) hx hb dX5_faultOf_20 (by decide) ?_
  refine p_Scribe_place X hP hS  tw_32 dX5_faultOf_21 (fun H locs hP hS => ?_)
  refine lv_aload_n hx hb dX5_faultOf_24 rfl (lv_at hl 0 rfl) ?_
  refine lv_iconst (v := (0 : Int32)) hx hb dX5_faultOf_25 (by decide) ?_
  refine p_Scribe_stuck X hP hS  (Or.inl rfl) tw_33 dX5_faultOf_26 (fun H locs hP hS => ?_)
  refine lv_aload_n hx hb dX5_faultOf_29 rfl (lv_at hl 3 rfl) ?_
  obtain ⟨q3, e4, hf⟩ := bind_some hf
  refine aftV hS (cV (rest := []) X hP hS [] (m_X0_empty hb_3_0 e4) cw_X0_empty tw_148 tw_428 tw_645 (bk_lt hb_3_0) (cf_Book hb_3_0) rfl (fits9 (by first | decide | omega) (by decide)) rfl rfl hl.1 (Nat.le_of_ble_eq_true rfl) dX5_faultOf_30 ⟨Nat.zero_le _, Nat.zero_le _⟩) (fun H locs hP hS => ?_)
  refine lv_iconst (v := (0 : Int32)) hx hb dX5_faultOf_33 (by decide) ?_
  refine lv_istore (lv' := [(4, .int (0 : Int32)), (0, .ref (ad 7)), (1, .ref (ad (1 + 1))), (2, .int x2), (3, .ref (ad (34 + b3)))]) hx hb dX5_faultOf_34 hl (by decide) rfl (fun ls hl => ?_)
  refine vl_X5_faultOf_36 X hr hlk _ ?_ 300 _ _ _ _ _ ls hf hb_3_0 hP hS (lv_sub hl [1, 4, 0] rfl)
  intro S H locs ls hf hP hS hl
  exact vj_X5_faultOf_94 X hr hlk  _ _ _ ls hf  hP hS (lv_sub hl [0] rfl)
