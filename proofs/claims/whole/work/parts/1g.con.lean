/-! X8_at -/
section
variable {p : Program} {l : Launch} {e : Env} {s : State} {m : MethodId} {args : Array Value} {below : List Frame} {meth : Method} {c : Code}
variable {D : va_G} {cI cP cB cA : ClassId} {ad : Nat → Nat} {tL tC : Nat}
end
set_option maxHeartbeats 4000000 in
set_option maxRecDepth 100000 in
theorem m_X8_at {l : Launch} {D : va_G} {cI cP cB cA : ClassId} {ad : Nat → Nat} {tL tC : Nat} {x1 : Int32} {x2 : Int32} {S : Stt} {res : Int32 × Stt} (hf : f_X8_at x1 x2 S = some res) : Ct l D cI cP cB cA 19 ad tL tC yX8_at cX8_at 4 (some .int) 4 [.ref (ad 0), .int x1, .int x2] (cfM ad cI S) (QI D 19 ad res.1 (cfM ad cI res.2)) := by
  refine ctOf (by decide) (Nat.le_of_ble_eq_true rfl) ?_
  intro p e s m args below meth c ls X hr hlk hP hl
  have hS : va_S (Ar 19 ad) s.heap s.heap [] := va_S.rf
  have hx := X.1.1
  have hb := X.1.2.1
  have hl : lv_has ls 4 [(0, .ref (ad 0)), (1, .int x1), (2, .int x2)] := hl
  unfold f_X8_at at hf
  refine lv_aload_n hx hb dX8_at_0 rfl (lv_at hl 0 rfl) ?_
  refine lv_iload_n hx hb dX8_at_1 rfl (lv_at hl 1 rfl) ?_
  obtain ⟨q1, e2, hf⟩ := bind_some hf
  refine aftI hS (cV (rest := []) X hP hS [.int x1] (m_X8_askedRow  e2) cw_X8_askedRow tw_292 tw_550 tw_764 (by decide) (cf_M ) rfl (fits9 (by first | decide | omega) (by decide)) rfl rfl hl.1 (Nat.le_of_ble_eq_true rfl) dX8_at_2 ⟨Nat.zero_le _, Nat.zero_le _⟩) (fun H locs hP hS => ?_)
  refine lv_istore_n (lv' := [(3, .int q1.1), (0, .ref (ad 0)), (1, .int x1), (2, .int x2)]) hx hb dX8_at_5 rfl hl (by decide) rfl (fun ls hl => ?_)
  refine lv_iload_n hx hb dX8_at_6 rfl (lv_at hl 0 rfl) ?_
  refine lv_if_ge (tgt := 12) hx hb dX8_at_7 (by decide) (fun c3 => ?_) (fun c3 => ?_)
  · rw [if_pos c3] at hf
    refine lv_iload_n hx hb dX8_at_12 rfl (lv_at hl 3 rfl) ?_
    refine lv_iconst (v := (0 : Int32)) hx hb dX8_at_13 (by decide) ?_
    refine lv_aload_n hx hb dX8_at_14 rfl (lv_at hl 1 rfl) ?_
    refine g_M_sizes X hP  tw_81 dX8_at_15 ?_
    refine lv_iload_n hx hb dX8_at_18 rfl (lv_at hl 2 rfl) ?_
    obtain ⟨g4, hf⟩ := grd_some hf
    refine r_m_sizes X hP  g4 dX8_at_19 ?_
    refine lv_iconst (v := (1 : Int32)) hx hb dX8_at_20 (by decide) ?_
    refine lv_isub hx hb dX8_at_21 ?_
    obtain ⟨q5, e6, hf⟩ := bind_some hf
    refine aftI hS (cS (rest := []) X hP hS [.int x2, .int (0 : Int32), .int ((q1.2.1 2 0 x1.toNatClampNeg) - (1 : Int32))] (m_X8_in  e6) cw_X8_in tw_288 tw_546 (fits9 (by first | decide | omega) (by decide)) rfl rfl hl.1 (Nat.le_of_ble_eq_true rfl) dX8_at_22 ⟨Nat.zero_le _, Nat.zero_le _⟩) (fun H locs hP hS => ?_)
    refine lv_if_eq (tgt := 42) hx hb dX8_at_25 (by decide) (fun c7 => ?_) (fun c7 => ?_)
    · rw [if_pos c7] at hf
      refine lv_aload_n hx hb dX8_at_42 rfl (lv_at hl 1 rfl) ?_
      refine lv_iconst (v := (2 : Int32)) hx hb dX8_at_43 (by decide) ?_
      obtain ⟨q8, e9, hf⟩ := bind_some hf
      refine aftI hS (cV (rest := []) X hP hS [.int (2 : Int32)] (m_X8_meet  e9) cw_X8_meet tw_289 tw_547 tw_762 (by decide) (cf_M ) rfl (fits9 (by first | decide | omega) (by decide)) rfl rfl hl.1 (Nat.le_of_ble_eq_true rfl) dX8_at_44 ⟨Nat.zero_le _, Nat.zero_le _⟩) (fun H locs hP hS => ?_)
      cases hf
      exact rtI X hr hlk hP hS dX8_at_47
    · rw [if_neg c7] at hf
      refine lv_aload_n hx hb dX8_at_28 rfl (lv_at hl 1 rfl) ?_
      refine lv_aload_n hx hb dX8_at_29 rfl (lv_at hl 1 rfl) ?_
      refine lv_iload_n hx hb dX8_at_30 rfl (lv_at hl 2 rfl) ?_
      refine lv_iload_n hx hb dX8_at_31 rfl (lv_at hl 3 rfl) ?_
      obtain ⟨q10, e11, hf⟩ := bind_some hf
      refine aftI hS (cV (rest := [.ref (ad 0)]) X hP hS [.int x1, .int x2] (m_X8_rowAt  e11) cw_X8_rowAt tw_293 tw_551 tw_766 (by decide) (cf_M ) rfl (fits9 (by first | decide | omega) (by decide)) rfl rfl hl.1 (Nat.le_of_ble_eq_true rfl) dX8_at_32 ⟨Nat.zero_le _, Nat.zero_le _⟩) (fun H locs hP hS => ?_)
      refine lv_iconst (v := (1 : Int32)) hx hb dX8_at_35 (by decide) ?_
      obtain ⟨q12, e13, hf⟩ := bind_some hf
      refine aftI hS (cV (rest := []) X hP hS [.int q10.1, .int (1 : Int32)] (m_X8_ask  e13) cw_X8_ask tw_294 tw_552 tw_763 (by decide) (cf_M ) rfl (fits9 (by first | decide | omega) (by decide)) rfl rfl hl.1 (Nat.le_of_ble_eq_true rfl) dX8_at_36 ⟨Nat.zero_le _, Nat.zero_le _⟩) (fun H locs hP hS => ?_)
      refine lv_goto (tgt := 47) hx hb dX8_at_39 (by decide) ?_
      cases hf
      exact rtI X hr hlk hP hS dX8_at_47
  · rw [if_neg c3] at hf
    refine lv_iload_n hx hb dX8_at_10 rfl (lv_at hl 0 rfl) ?_
    cases hf
    exact rtI X hr hlk hP hS dX8_at_11
/-! X8_bindSet -/
section
variable {p : Program} {l : Launch} {e : Env} {s : State} {m : MethodId} {args : Array Value} {below : List Frame} {meth : Method} {c : Code}
variable {D : va_G} {cI cP cB cA : ClassId} {ad : Nat → Nat} {tL tC : Nat}
set_option maxHeartbeats 4000000 in
set_option maxRecDepth 100000 in
theorem vb_X8_bindSet_4 (X : Cx D cI cP cB cA 19 ad tL tC p s m c cX8_bindSet 4 args RX8) (hr : meth.sig.returnType = (some .int)) (hlk : meth.locks = false) {res : Int32 × Stt} (kb : Int32 → Int32 → Int32 → Stt → Option (Int32 × Stt)) (ke : Int32 → Stt → Option (Int32 × Stt)) (hkb : ∀ (x1 : Int32) (x2 : Int32) (x3 : Int32) (S : Stt) (H : Heap) (locs : List Loc) (ls : Array Slot), kb x1 x2 x3 S = some res → va_P D vwCl (wl 19 ad (cfM ad cI S)) H → va_S (Ar 19 ad) s.heap H locs → lv_has ls 4 [(0, .ref (ad 0)), (1, .int x1), (2, .int x2), (3, .int x3)] → W p l e (rmD 4) s m args below meth c H locs 0 0 (MQ below (QI D 19 ad res.1 (cfM ad cI res.2)) args s 0 0 (Ar 19 ad)) (F0 m 4 ls [])) (hke : ∀ (x2 : Int32) (S : Stt) (H : Heap) (locs : List Loc) (ls : Array Slot), ke x2 S = some res → va_P D vwCl (wl 19 ad (cfM ad cI S)) H → va_S (Ar 19 ad) s.heap H locs → lv_has ls 4 [(2, .int x2)] → W p l e (rmD 4) s m args below meth c H locs 0 0 (MQ below (QI D 19 ad res.1 (cfM ad cI res.2)) args s 0 0 (Ar 19 ad)) (F0 m 37 ls [])) : ∀ (x1 : Int32) (x2 : Int32) (x3 : Int32) (S : Stt) (H : Heap) (locs : List Loc) (ls : Array Slot), fb_X8_bindSet_4 kb ke x1 x2 x3 S = some res → va_P D vwCl (wl 19 ad (cfM ad cI S)) H → va_S (Ar 19 ad) s.heap H locs → lv_has ls 4 [(0, .ref (ad 0)), (1, .int x1), (2, .int x2), (3, .int x3)] → W p l e (rmD 4) s m args below meth c H locs 0 0 (MQ below (QI D 19 ad res.1 (cfM ad cI res.2)) args s 0 0 (Ar 19 ad)) (F0 m 4 ls []) := by
  intro x1 x2 x3 S H locs ls hf hP hS hl
  have hx := X.1.1
  have hb := X.1.2.1
  unfold fb_X8_bindSet_4 at hf
  refine lv_iload_n hx hb dX8_bindSet_4 rfl (lv_at hl 3 rfl) ?_
  refine lv_aload_n hx hb dX8_bindSet_5 rfl (lv_at hl 0 rfl) ?_
  refine g_M_many X hP  tw_86 dX8_bindSet_6 ?_
  refine lv_icmp_ge (tgt := 37) hx hb dX8_bindSet_9 (by decide) (fun c1 => ?_) (fun c1 => ?_)
  · rw [if_pos c1] at hf
    exact hke _ _ _ _ ls hf  hP hS (lv_sub hl [2] rfl)
  · rw [if_neg c1] at hf
    refine lv_iload_n hx hb dX8_bindSet_12 rfl (lv_at hl 2 rfl) ?_
    refine lv_aload_n hx hb dX8_bindSet_13 rfl (lv_at hl 0 rfl) ?_
    refine lv_iload_n hx hb dX8_bindSet_14 rfl (lv_at hl 3 rfl) ?_
    refine lv_iload_n hx hb dX8_bindSet_15 rfl (lv_at hl 1 rfl) ?_
    obtain ⟨q2, e3, hf⟩ := bind_some hf
    refine aftI hS (cV (rest := [.int x2]) X hP hS [.int x3, .int x1] (m_X8_doesBind  e3) cw_X8_doesBind tw_319 tw_576 tw_787 (by decide) (cf_M ) rfl (fits9 (by first | decide | omega) (by decide)) rfl rfl hl.1 (Nat.le_of_ble_eq_true rfl) dX8_bindSet_16 ⟨Nat.zero_le _, Nat.zero_le _⟩) (fun H locs hP hS => ?_)
    refine lv_if_eq (tgt := 28) hx hb dX8_bindSet_19 (by decide) (fun c4 => ?_) (fun c4 => ?_)
    · rw [if_pos c4] at hf
      refine lv_iconst (v := (0 : Int32)) hx hb dX8_bindSet_28 (by decide) ?_
      refine lv_ior hx hb dX8_bindSet_29 ?_
      refine lv_istore_n (lv' := [(2, .int (x2 ||| (0 : Int32))), (0, .ref (ad 0)), (1, .int x1), (3, .int x3)]) hx hb dX8_bindSet_30 rfl hl (by decide) rfl (fun ls hl => ?_)
      refine lv_iinc (v := (x3 + (1 : Int32))) (lv' := [(3, .int (x3 + (1 : Int32))), (2, .int (x2 ||| (0 : Int32))), (0, .ref (ad 0)), (1, .int x1)]) hx hb dX8_bindSet_31 hl (k := 3) rfl rfl (by decide) rfl (fun ls hl => ?_)
      refine lv_goto (tgt := 4) hx hb dX8_bindSet_34 (by decide) ?_
      exact hkb _ _ _ _ _ _ ls hf  hP hS (lv_sub hl [2, 3, 1, 0] rfl)
    · rw [if_neg c4] at hf
      refine lv_iconst (v := (1 : Int32)) hx hb dX8_bindSet_22 (by decide) ?_
      refine lv_iload_n hx hb dX8_bindSet_23 rfl (lv_at hl 3 rfl) ?_
      refine lv_ishl hx hb dX8_bindSet_24 ?_
      refine lv_goto (tgt := 29) hx hb dX8_bindSet_25 (by decide) ?_
      refine lv_ior hx hb dX8_bindSet_29 ?_
      refine lv_istore_n (lv' := [(2, .int (x2 ||| ((1 : Int32) <<< (x3 &&& 31)))), (0, .ref (ad 0)), (1, .int x1), (3, .int x3)]) hx hb dX8_bindSet_30 rfl hl (by decide) rfl (fun ls hl => ?_)
      refine lv_iinc (v := (x3 + (1 : Int32))) (lv' := [(3, .int (x3 + (1 : Int32))), (2, .int (x2 ||| ((1 : Int32) <<< (x3 &&& 31)))), (0, .ref (ad 0)), (1, .int x1)]) hx hb dX8_bindSet_31 hl (k := 3) rfl rfl (by decide) rfl (fun ls hl => ?_)
      refine lv_goto (tgt := 4) hx hb dX8_bindSet_34 (by decide) ?_
      exact hkb _ _ _ _ _ _ ls hf  hP hS (lv_sub hl [2, 3, 1, 0] rfl)
set_option maxHeartbeats 4000000 in
set_option maxRecDepth 100000 in
theorem vl_X8_bindSet_4 (X : Cx D cI cP cB cA 19 ad tL tC p s m c cX8_bindSet 4 args RX8) (hr : meth.sig.returnType = (some .int)) (hlk : meth.locks = false) {res : Int32 × Stt} (ke : Int32 → Stt → Option (Int32 × Stt)) (hke : ∀ (x2 : Int32) (S : Stt) (H : Heap) (locs : List Loc) (ls : Array Slot), ke x2 S = some res → va_P D vwCl (wl 19 ad (cfM ad cI S)) H → va_S (Ar 19 ad) s.heap H locs → lv_has ls 4 [(2, .int x2)] → W p l e (rmD 4) s m args below meth c H locs 0 0 (MQ below (QI D 19 ad res.1 (cfM ad cI res.2)) args s 0 0 (Ar 19 ad)) (F0 m 37 ls [])) : ∀ (n : Nat), ∀ (x1 : Int32) (x2 : Int32) (x3 : Int32) (S : Stt) (H : Heap) (locs : List Loc) (ls : Array Slot), fl_X8_bindSet_4 ke n x1 x2 x3 S = some res → va_P D vwCl (wl 19 ad (cfM ad cI S)) H → va_S (Ar 19 ad) s.heap H locs → lv_has ls 4 [(0, .ref (ad 0)), (1, .int x1), (2, .int x2), (3, .int x3)] → W p l e (rmD 4) s m args below meth c H locs 0 0 (MQ below (QI D 19 ad res.1 (cfM ad cI res.2)) args s 0 0 (Ar 19 ad)) (F0 m 4 ls []) := by
  intro n
  induction n with
  | zero =>
    intro x1 x2 x3 S H locs ls hf hP hS hl
    cases hf
  | succ n ih =>
    intro x1 x2 x3 S H locs ls hf hP hS hl
    exact vb_X8_bindSet_4 X hr hlk _ ke ih hke x1 x2 x3 S H locs ls hf  hP hS hl
end
set_option maxHeartbeats 4000000 in
set_option maxRecDepth 100000 in
theorem m_X8_bindSet {l : Launch} {D : va_G} {cI cP cB cA : ClassId} {ad : Nat → Nat} {tL tC : Nat} {x1 : Int32} {S : Stt} {res : Int32 × Stt} (hf : f_X8_bindSet x1 S = some res) : Ct l D cI cP cB cA 19 ad tL tC yX8_bindSet cX8_bindSet 4 (some .int) 4 [.ref (ad 0), .int x1] (cfM ad cI S) (QI D 19 ad res.1 (cfM ad cI res.2)) := by
  refine ctOf (by decide) (Nat.le_of_ble_eq_true rfl) ?_
  intro p e s m args below meth c ls X hr hlk hP hl
  have hS : va_S (Ar 19 ad) s.heap s.heap [] := va_S.rf
  have hx := X.1.1
  have hb := X.1.2.1
  have hl : lv_has ls 4 [(0, .ref (ad 0)), (1, .int x1)] := hl
  unfold f_X8_bindSet at hf
  refine lv_iconst (v := (0 : Int32)) hx hb dX8_bindSet_0 (by decide) ?_
  refine lv_istore_n (lv' := [(2, .int (0 : Int32)), (0, .ref (ad 0)), (1, .int x1)]) hx hb dX8_bindSet_1 rfl hl (by decide) rfl (fun ls hl => ?_)
  refine lv_iconst (v := (0 : Int32)) hx hb dX8_bindSet_2 (by decide) ?_
  refine lv_istore_n (lv' := [(3, .int (0 : Int32)), (2, .int (0 : Int32)), (0, .ref (ad 0)), (1, .int x1)]) hx hb dX8_bindSet_3 rfl hl (by decide) rfl (fun ls hl => ?_)
  refine vl_X8_bindSet_4 X hr hlk _ ?_ 300 _ _ _ _ _ _ ls hf  hP hS (lv_sub hl [2, 3, 1, 0] rfl)
  intro x2 S H locs ls hf hP hS hl
  refine lv_iload_n hx hb dX8_bindSet_37 rfl (lv_at hl 0 rfl) ?_
  cases hf
  exact rtI X hr hlk hP hS dX8_bindSet_38
/-! X8_givenBy -/
section
variable {p : Program} {l : Launch} {e : Env} {s : State} {m : MethodId} {args : Array Value} {below : List Frame} {meth : Method} {c : Code}
variable {D : va_G} {cI cP cB cA : ClassId} {ad : Nat → Nat} {tL tC : Nat}
end
set_option maxHeartbeats 4000000 in
set_option maxRecDepth 100000 in
theorem m_X8_givenBy {l : Launch} {D : va_G} {cI cP cB cA : ClassId} {ad : Nat → Nat} {tL tC : Nat} {x1 : Int32} {x2 : Int32} {x3 : Int32} {x4 : Int32} {S : Stt} {res : Int32 × Stt} (hf : f_X8_givenBy x1 x2 x3 x4 S = some res) : Ct l D cI cP cB cA 19 ad tL tC yX8_givenBy cX8_givenBy 6 (some .int) 4 [.ref (ad 0), .int x1, .int x2, .int x3, .int x4] (cfM ad cI S) (QI D 19 ad res.1 (cfM ad cI res.2)) := by
  refine ctOf (by decide) (Nat.le_of_ble_eq_true rfl) ?_
  intro p e s m args below meth c ls X hr hlk hP hl
  have hS : va_S (Ar 19 ad) s.heap s.heap [] := va_S.rf
  have hx := X.1.1
  have hb := X.1.2.1
  have hl : lv_has ls 6 [(0, .ref (ad 0)), (1, .int x1), (2, .int x2), (3, .int x3), (4, .int x4)] := hl
  unfold f_X8_givenBy at hf
  refine lv_aload_n hx hb dX8_givenBy_0 rfl (lv_at hl 0 rfl) ?_
  refine lv_iload_n hx hb dX8_givenBy_1 rfl (lv_at hl 1 rfl) ?_
  refine lv_iload_n hx hb dX8_givenBy_2 rfl (lv_at hl 2 rfl) ?_
  refine lv_iload_n hx hb dX8_givenBy_3 rfl (lv_at hl 3 rfl) ?_
  obtain ⟨q1, e2, hf⟩ := bind_some hf
  refine aftI hS (cS (rest := [.ref (ad 0)]) X hP hS [.int x1, .int x2, .int x3] (m_X8_soOf  e2) cw_X8_soOf tw_342 tw_599 (fits9 (by first | decide | omega) (by decide)) rfl rfl hl.1 (Nat.le_of_ble_eq_true rfl) dX8_givenBy_4 ⟨Nat.zero_le _, Nat.zero_le _⟩) (fun H locs hP hS => ?_)
  refine lv_iload hx hb dX8_givenBy_7 (lv_at hl 4 rfl) ?_
  obtain ⟨q3, e4, hf⟩ := bind_some hf
  refine aftI hS (cV (rest := []) X hP hS [.int q1.1, .int x4] (m_X8_judgeBy  e4) cw_X8_judgeBy tw_343 tw_600 tw_804 (by decide) (cf_M ) rfl (fits9 (by first | decide | omega) (by decide)) rfl rfl hl.1 (Nat.le_of_ble_eq_true rfl) dX8_givenBy_9 ⟨Nat.zero_le _, Nat.zero_le _⟩) (fun H locs hP hS => ?_)
  refine lv_istore (lv' := [(5, .int q3.1), (0, .ref (ad 0)), (1, .int x1), (2, .int x2), (3, .int x3), (4, .int x4)]) hx hb dX8_givenBy_12 hl (by decide) rfl (fun ls hl => ?_)
  refine lv_iload hx hb dX8_givenBy_14 (lv_at hl 0 rfl) ?_
  refine lv_bipush (v := (-9 : Int32)) hx hb dX8_givenBy_16 (by decide) ?_
  refine lv_icmp_ne (tgt := 25) hx hb dX8_givenBy_18 (by decide) (fun c5 => ?_) (fun c5 => ?_)
  · rw [if_neg c5] at hf
    refine lv_aload_n hx hb dX8_givenBy_25 rfl (lv_at hl 1 rfl) ?_
    refine g_M_verdicts X hP  tw_88 dX8_givenBy_26 ?_
    refine lv_iload hx hb dX8_givenBy_29 (lv_at hl 0 rfl) ?_
    obtain ⟨g6, hf⟩ := grd_some hf
    refine r_m_verdicts X hP  g6 dX8_givenBy_31 ?_
    cases hf
    exact rtI X hr hlk hP hS dX8_givenBy_32
  · rw [if_pos c5] at hf
    refine lv_iconst (v := (0 : Int32)) hx hb dX8_givenBy_21 (by decide) ?_
    refine lv_goto (tgt := 32) hx hb dX8_givenBy_22 (by decide) ?_
    cases hf
    exact rtI X hr hlk hP hS dX8_givenBy_32
/-! X8_goesOn -/
section
variable {p : Program} {l : Launch} {e : Env} {s : State} {m : MethodId} {args : Array Value} {below : List Frame} {meth : Method} {c : Code}
variable {D : va_G} {cI cP cB cA : ClassId} {ad : Nat → Nat} {tL tC : Nat}
set_option maxHeartbeats 4000000 in
set_option maxRecDepth 100000 in
theorem vb_X8_goesOn_10 (X : Cx D cI cP cB cA 19 ad tL tC p s m c cX8_goesOn 2 args RX8) (hr : meth.sig.returnType = (some .int)) (hlk : meth.locks = false) {res : Int32 × Stt} (kb : Int32 → Stt → Option (Int32 × Stt)) (ke : Stt → Option (Int32 × Stt)) (hkb : ∀ (x1 : Int32) (S : Stt) (H : Heap) (locs : List Loc) (ls : Array Slot), kb x1 S = some res → va_P D vwCl (wl 19 ad (cfM ad cI S)) H → va_S (Ar 19 ad) s.heap H locs → lv_has ls 2 [(0, .ref (ad 0)), (1, .int x1)] → W p l e (rmD 4) s m args below meth c H locs 0 0 (MQ below (QI D 19 ad res.1 (cfM ad cI res.2)) args s 0 0 (Ar 19 ad)) (F0 m 10 ls [])) (hke : ∀ (S : Stt) (H : Heap) (locs : List Loc) (ls : Array Slot), ke S = some res → va_P D vwCl (wl 19 ad (cfM ad cI S)) H → va_S (Ar 19 ad) s.heap H locs → lv_has ls 2 [(0, .ref (ad 0))] → W p l e (rmD 4) s m args below meth c H locs 0 0 (MQ below (QI D 19 ad res.1 (cfM ad cI res.2)) args s 0 0 (Ar 19 ad)) (F0 m 54 ls [])) : ∀ (x1 : Int32) (S : Stt) (H : Heap) (locs : List Loc) (ls : Array Slot), fb_X8_goesOn_10 kb ke x1 S = some res → va_P D vwCl (wl 19 ad (cfM ad cI S)) H → va_S (Ar 19 ad) s.heap H locs → lv_has ls 2 [(0, .ref (ad 0)), (1, .int x1)] → W p l e (rmD 4) s m args below meth c H locs 0 0 (MQ below (QI D 19 ad res.1 (cfM ad cI res.2)) args s 0 0 (Ar 19 ad)) (F0 m 10 ls []) := by
  intro x1 S H locs ls hf hP hS hl
  have hx := X.1.1
  have hb := X.1.2.1
  unfold fb_X8_goesOn_10 at hf
  refine lv_aload_n hx hb dX8_goesOn_10 rfl (lv_at hl 0 rfl) ?_
  refine g_M_readAt X hP  tw_93 dX8_goesOn_11 ?_
  refine lv_aload_n hx hb dX8_goesOn_14 rfl (lv_at hl 0 rfl) ?_
  refine g_M_lengths X hP  tw_84 dX8_goesOn_15 ?_
  refine lv_iload_n hx hb dX8_goesOn_18 rfl (lv_at hl 1 rfl) ?_
  obtain ⟨g1, hf⟩ := grd_some hf
  refine r_m_lengths X hP  g1 dX8_goesOn_19 ?_
  refine lv_icmp_ge (tgt := 59) hx hb dX8_goesOn_20 (by decide) (fun c2 => ?_) (fun c2 => ?_)
  · rw [if_pos c2] at hf
    refine lv_bipush (v := (-9 : Int32)) hx hb dX8_goesOn_59 (by decide) ?_
    cases hf
    exact rtI X hr hlk hP hS dX8_goesOn_61
  · rw [if_neg c2] at hf
    refine lv_aload_n hx hb dX8_goesOn_23 rfl (lv_at hl 0 rfl) ?_
    refine lv_iload_n hx hb dX8_goesOn_24 rfl (lv_at hl 1 rfl) ?_
    obtain ⟨q3, e4, hf⟩ := bind_some hf
    refine aftI hS (cV (rest := []) X hP hS [.int x1] (m_X8_here  e4) cw_X8_here tw_306 tw_563 tw_776 (by decide) (cf_M ) rfl (fits9 (by first | decide | omega) (by decide)) rfl rfl hl.1 (Nat.le_of_ble_eq_true rfl) dX8_goesOn_25 ⟨Nat.zero_le _, Nat.zero_le _⟩) (fun H locs hP hS => ?_)
    refine lv_bipush (v := (32 : Int32)) hx hb dX8_goesOn_28 (by decide) ?_
    refine lv_icmp_ne (tgt := 46) hx hb dX8_goesOn_30 (by decide) (fun c5 => ?_) (fun c5 => ?_)
    · rw [if_neg c5] at hf
      refine lv_aload_n hx hb dX8_goesOn_46 rfl (lv_at hl 0 rfl) ?_
      refine lv_iload_n hx hb dX8_goesOn_47 rfl (lv_at hl 1 rfl) ?_
      obtain ⟨q6, e7, hf⟩ := bind_some hf
      refine aftI hS (cV (rest := []) X hP hS [.int x1] (m_X8_readsPage  e7) cw_X8_readsPage tw_307 tw_564 tw_779 (by decide) (cf_M ) rfl (fits9 (by first | decide | omega) (by decide)) rfl rfl hl.1 (Nat.le_of_ble_eq_true rfl) dX8_goesOn_48 ⟨Nat.zero_le _, Nat.zero_le _⟩) (fun H locs hP hS => ?_)
      refine lv_if_ne (tgt := 10) hx hb dX8_goesOn_51 (by decide) (fun c8 => ?_) (fun c8 => ?_)
      · rw [if_neg c8] at hf
        exact hkb _ _ _ _ ls hf  hP hS (lv_sub hl [0, 1] rfl)
      · rw [if_pos c8] at hf
        exact hke  _ _ _ ls hf  hP hS (lv_sub hl [0] rfl)
    · rw [if_pos c5] at hf
      refine lv_aload_n hx hb dX8_goesOn_33 rfl (lv_at hl 0 rfl) ?_
      refine lv_dup hx hb dX8_goesOn_34 rfl ?_
      refine g_M_readAt X hP  tw_93 dX8_goesOn_35 ?_
      refine lv_iconst (v := (1 : Int32)) hx hb dX8_goesOn_38 (by decide) ?_
      refine lv_iadd hx hb dX8_goesOn_39 ?_
      refine p_M_readAt X hP hS  tw_93 dX8_goesOn_40 (fun H locs hP hS => ?_)
      refine lv_goto (tgt := 10) hx hb dX8_goesOn_43 (by decide) ?_
      exact hkb _ _ _ _ ls hf  hP hS (lv_sub hl [0, 1] rfl)
set_option maxHeartbeats 4000000 in
set_option maxRecDepth 100000 in
theorem vl_X8_goesOn_10 (X : Cx D cI cP cB cA 19 ad tL tC p s m c cX8_goesOn 2 args RX8) (hr : meth.sig.returnType = (some .int)) (hlk : meth.locks = false) {res : Int32 × Stt} (ke : Stt → Option (Int32 × Stt)) (hke : ∀ (S : Stt) (H : Heap) (locs : List Loc) (ls : Array Slot), ke S = some res → va_P D vwCl (wl 19 ad (cfM ad cI S)) H → va_S (Ar 19 ad) s.heap H locs → lv_has ls 2 [(0, .ref (ad 0))] → W p l e (rmD 4) s m args below meth c H locs 0 0 (MQ below (QI D 19 ad res.1 (cfM ad cI res.2)) args s 0 0 (Ar 19 ad)) (F0 m 54 ls [])) : ∀ (n : Nat), ∀ (x1 : Int32) (S : Stt) (H : Heap) (locs : List Loc) (ls : Array Slot), fl_X8_goesOn_10 ke n x1 S = some res → va_P D vwCl (wl 19 ad (cfM ad cI S)) H → va_S (Ar 19 ad) s.heap H locs → lv_has ls 2 [(0, .ref (ad 0)), (1, .int x1)] → W p l e (rmD 4) s m args below meth c H locs 0 0 (MQ below (QI D 19 ad res.1 (cfM ad cI res.2)) args s 0 0 (Ar 19 ad)) (F0 m 10 ls []) := by
  intro n
  induction n with
  | zero =>
    intro x1 S H locs ls hf hP hS hl
    cases hf
  | succ n ih =>
    intro x1 S H locs ls hf hP hS hl
    exact vb_X8_goesOn_10 X hr hlk _ ke ih hke x1 S H locs ls hf  hP hS hl
end
set_option maxHeartbeats 4000000 in
set_option maxRecDepth 100000 in
theorem m_X8_goesOn {l : Launch} {D : va_G} {cI cP cB cA : ClassId} {ad : Nat → Nat} {tL tC : Nat} {x1 : Int32} {S : Stt} {res : Int32 × Stt} (hf : f_X8_goesOn x1 S = some res) : Ct l D cI cP cB cA 19 ad tL tC yX8_goesOn cX8_goesOn 2 (some .int) 4 [.ref (ad 0), .int x1] (cfM ad cI S) (QI D 19 ad res.1 (cfM ad cI res.2)) := by
  refine ctOf (by decide) (Nat.le_of_ble_eq_true rfl) ?_
  intro p e s m args below meth c ls X hr hlk hP hl
  have hS : va_S (Ar 19 ad) s.heap s.heap [] := va_S.rf
  have hx := X.1.1
  have hb := X.1.2.1
  have hl : lv_has ls 2 [(0, .ref (ad 0)), (1, .int x1)] := hl
  unfold f_X8_goesOn at hf
  refine lv_aload_n hx hb dX8_goesOn_0 rfl (lv_at hl 0 rfl) ?_
  refine lv_iconst (v := (0 : Int32)) hx hb dX8_goesOn_1 (by decide) ?_
  refine p_M_readAt X hP hS  tw_93 dX8_goesOn_2 (fun H locs hP hS => ?_)
  refine lv_aload_n hx hb dX8_goesOn_5 rfl (lv_at hl 0 rfl) ?_
  refine lv_iconst (v := (0 : Int32)) hx hb dX8_goesOn_6 (by decide) ?_
  refine p_M_readMany X hP hS  tw_94 dX8_goesOn_7 (fun H locs hP hS => ?_)
  refine vl_X8_goesOn_10 X hr hlk _ ?_ 300 _ _ _ _ ls hf  hP hS (lv_sub hl [0, 1] rfl)
  intro S H locs ls hf hP hS hl
  refine lv_aload_n hx hb dX8_goesOn_54 rfl (lv_at hl 0 rfl) ?_
  refine g_M_readAt X hP  tw_93 dX8_goesOn_55 ?_
  cases hf
  exact rtI X hr hlk hP hS dX8_goesOn_58
/-! X8_layTold -/
section
variable {p : Program} {l : Launch} {e : Env} {s : State} {m : MethodId} {args : Array Value} {below : List Frame} {meth : Method} {c : Code}
variable {D : va_G} {cI cP cB cA : ClassId} {ad : Nat → Nat} {tL tC : Nat}
set_option maxHeartbeats 4000000 in
set_option maxRecDepth 100000 in
theorem vb_X8_layTold_9 (X : Cx D cI cP cB cA 19 ad tL tC p s m c cX8_layTold 4 args RX8) (hr : meth.sig.returnType = none) (hlk : meth.locks = false) {res : Stt} (kb : Int32 → Int32 → Int32 → Stt → Option (Stt)) (ke : Stt → Option (Stt)) (hkb : ∀ (x1 : Int32) (x2 : Int32) (x3 : Int32) (S : Stt) (H : Heap) (locs : List Loc) (ls : Array Slot), kb x1 x2 x3 S = some res → va_P D vwCl (wl 19 ad (cfM ad cI S)) H → va_S (Ar 19 ad) s.heap H locs → lv_has ls 4 [(0, .ref (ad 0)), (1, .int x1), (2, .int x2), (3, .int x3)] → W p l e (rmD 4) s m args below meth c H locs 0 0 (MQ below (QV D 19 ad (cfM ad cI res)) args s 0 0 (Ar 19 ad)) (F0 m 9 ls [])) (hke : ∀ (S : Stt) (H : Heap) (locs : List Loc) (ls : Array Slot), ke S = some res → va_P D vwCl (wl 19 ad (cfM ad cI S)) H → va_S (Ar 19 ad) s.heap H locs → lv_has ls 4 [] → W p l e (rmD 4) s m args below meth c H locs 0 0 (MQ below (QV D 19 ad (cfM ad cI res)) args s 0 0 (Ar 19 ad)) (F0 m 32 ls [])) : ∀ (x1 : Int32) (x2 : Int32) (x3 : Int32) (S : Stt) (H : Heap) (locs : List Loc) (ls : Array Slot), fb_X8_layTold_9 kb ke x1 x2 x3 S = some res → va_P D vwCl (wl 19 ad (cfM ad cI S)) H → va_S (Ar 19 ad) s.heap H locs → lv_has ls 4 [(0, .ref (ad 0)), (1, .int x1), (2, .int x2), (3, .int x3)] → W p l e (rmD 4) s m args below meth c H locs 0 0 (MQ below (QV D 19 ad (cfM ad cI res)) args s 0 0 (Ar 19 ad)) (F0 m 9 ls []) := by
  intro x1 x2 x3 S H locs ls hf hP hS hl
  have hx := X.1.1
  have hb := X.1.2.1
  unfold fb_X8_layTold_9 at hf
  refine lv_iload_n hx hb dX8_layTold_9 rfl (lv_at hl 3 rfl) ?_
  refine lv_iload_n hx hb dX8_layTold_10 rfl (lv_at hl 2 rfl) ?_
  refine lv_icmp_ge (tgt := 32) hx hb dX8_layTold_11 (by decide) (fun c3 => ?_) (fun c3 => ?_)
  · rw [if_pos c3] at hf
    exact hke  _ _ _ ls hf  hP hS (lv_sub hl [] rfl)
  · rw [if_neg c3] at hf
    refine lv_aload_n hx hb dX8_layTold_14 rfl (lv_at hl 0 rfl) ?_
    refine lv_iload_n hx hb dX8_layTold_15 rfl (lv_at hl 1 rfl) ?_
    refine lv_iload_n hx hb dX8_layTold_16 rfl (lv_at hl 3 rfl) ?_
    refine lv_aload_n hx hb dX8_layTold_17 rfl (lv_at hl 0 rfl) ?_
    refine g_M_told X hP  tw_99 dX8_layTold_18 ?_
    refine lv_iload_n hx hb dX8_layTold_21 rfl (lv_at hl 3 rfl) ?_
    obtain ⟨g4, hf⟩ := grd_some hf
    refine r_m_told X hP  g4 dX8_layTold_22 ?_
    obtain ⟨q5, e6, hf⟩ := bind_some hf
    refine aftV hS (cV (rest := []) X hP hS [.int x1, .int x3, .int (S.1 15 0 x3.toNatClampNeg)] (m_X8_setRow  e6) cw_X8_setRow tw_290 tw_548 tw_767 (by decide) (cf_M ) rfl (fits9 (by first | decide | omega) (by decide)) rfl rfl hl.1 (Nat.le_of_ble_eq_true rfl) dX8_layTold_23 ⟨Nat.zero_le _, Nat.zero_le _⟩) (fun H locs hP hS => ?_)
    refine lv_iinc (v := (x3 + (1 : Int32))) (lv' := [(3, .int (x3 + (1 : Int32))), (0, .ref (ad 0)), (1, .int x1), (2, .int x2)]) hx hb dX8_layTold_26 hl (k := 3) rfl rfl (by decide) rfl (fun ls hl => ?_)
    refine lv_goto (tgt := 9) hx hb dX8_layTold_29 (by decide) ?_
    exact hkb _ _ _ _ _ _ ls hf  hP hS (lv_sub hl [1, 2, 3, 0] rfl)
set_option maxHeartbeats 4000000 in
set_option maxRecDepth 100000 in
theorem vl_X8_layTold_9 (X : Cx D cI cP cB cA 19 ad tL tC p s m c cX8_layTold 4 args RX8) (hr : meth.sig.returnType = none) (hlk : meth.locks = false) {res : Stt} (ke : Stt → Option (Stt)) (hke : ∀ (S : Stt) (H : Heap) (locs : List Loc) (ls : Array Slot), ke S = some res → va_P D vwCl (wl 19 ad (cfM ad cI S)) H → va_S (Ar 19 ad) s.heap H locs → lv_has ls 4 [] → W p l e (rmD 4) s m args below meth c H locs 0 0 (MQ below (QV D 19 ad (cfM ad cI res)) args s 0 0 (Ar 19 ad)) (F0 m 32 ls [])) : ∀ (n : Nat), ∀ (x1 : Int32) (x2 : Int32) (x3 : Int32) (S : Stt) (H : Heap) (locs : List Loc) (ls : Array Slot), fl_X8_layTold_9 ke n x1 x2 x3 S = some res → va_P D vwCl (wl 19 ad (cfM ad cI S)) H → va_S (Ar 19 ad) s.heap H locs → lv_has ls 4 [(0, .ref (ad 0)), (1, .int x1), (2, .int x2), (3, .int x3)] → W p l e (rmD 4) s m args below meth c H locs 0 0 (MQ below (QV D 19 ad (cfM ad cI res)) args s 0 0 (Ar 19 ad)) (F0 m 9 ls []) := by
  intro n
  induction n with
  | zero =>
    intro x1 x2 x3 S H locs ls hf hP hS hl
    cases hf
  | succ n ih =>
    intro x1 x2 x3 S H locs ls hf hP hS hl
    exact vb_X8_layTold_9 X hr hlk _ ke ih hke x1 x2 x3 S H locs ls hf  hP hS hl
end
set_option maxHeartbeats 4000000 in
set_option maxRecDepth 100000 in
theorem m_X8_layTold {l : Launch} {D : va_G} {cI cP cB cA : ClassId} {ad : Nat → Nat} {tL tC : Nat} {x1 : Int32} {x2 : Int32} {S : Stt} {res : Stt} (hf : f_X8_layTold x1 x2 S = some res) : Ct l D cI cP cB cA 19 ad tL tC yX8_layTold cX8_layTold 4 none 4 [.ref (ad 0), .int x1, .int x2] (cfM ad cI S) (QV D 19 ad (cfM ad cI res)) := by
  refine ctOf (by decide) (Nat.le_of_ble_eq_true rfl) ?_
  intro p e s m args below meth c ls X hr hlk hP hl
  have hS : va_S (Ar 19 ad) s.heap s.heap [] := va_S.rf
  have hx := X.1.1
  have hb := X.1.2.1
  have hl : lv_has ls 4 [(0, .ref (ad 0)), (1, .int x1), (2, .int x2)] := hl
  unfold f_X8_layTold at hf
  refine lv_aload_n hx hb dX8_layTold_0 rfl (lv_at hl 0 rfl) ?_
  refine lv_iload_n hx hb dX8_layTold_1 rfl (lv_at hl 1 rfl) ?_
  refine lv_iload_n hx hb dX8_layTold_2 rfl (lv_at hl 2 rfl) ?_
  obtain ⟨q1, e2, hf⟩ := bind_some hf
  refine aftI hS (cV (rest := []) X hP hS [.int x1, .int x2] (m_X8_row  e2) cw_X8_row tw_355 tw_544 tw_768 (by decide) (cf_M ) rfl (fits9 (by first | decide | omega) (by decide)) rfl rfl hl.1 (Nat.le_of_ble_eq_true rfl) dX8_layTold_3 ⟨Nat.zero_le _, Nat.zero_le _⟩) (fun H locs hP hS => ?_)
  refine lv_pop hx hb dX8_layTold_6 rfl ?_
  refine lv_iconst (v := (0 : Int32)) hx hb dX8_layTold_7 (by decide) ?_
  refine lv_istore_n (lv' := [(3, .int (0 : Int32)), (0, .ref (ad 0)), (1, .int x1), (2, .int x2)]) hx hb dX8_layTold_8 rfl hl (by decide) rfl (fun ls hl => ?_)
  refine vl_X8_layTold_9 X hr hlk _ ?_ 300 _ _ _ _ _ _ ls hf  hP hS (lv_sub hl [1, 2, 3, 0] rfl)
  intro S H locs ls hf hP hS hl
  cases hf
  exact rtV X hr hlk hP hS dX8_layTold_32
/-! X8_mark -/
section
variable {p : Program} {l : Launch} {e : Env} {s : State} {m : MethodId} {args : Array Value} {below : List Frame} {meth : Method} {c : Code}
variable {D : va_G} {cI cP cB cA : ClassId} {ad : Nat → Nat} {tL tC : Nat}
set_option maxHeartbeats 4000000 in
set_option maxRecDepth 100000 in
theorem vb_X8_mark_43 (X : Cx D cI cP cB cA 19 ad tL tC p s m c cX8_mark 6 args RX8) (hr : meth.sig.returnType = (some .int)) (hlk : meth.locks = false) {res : Int32 × Stt} (kb : Int32 → Int32 → Int32 → Int32 → Int32 → Stt → Option (Int32 × Stt)) (ke : Int32 → Int32 → Int32 → Int32 → Stt → Option (Int32 × Stt)) (hkb : ∀ (x1 : Int32) (x2 : Int32) (x3 : Int32) (x4 : Int32) (x5 : Int32) (S : Stt) (H : Heap) (locs : List Loc) (ls : Array Slot), kb x1 x2 x3 x4 x5 S = some res → va_P D vwCl (wl 19 ad (cfM ad cI S)) H → va_S (Ar 19 ad) s.heap H locs → lv_has ls 6 [(0, .ref (ad 0)), (1, .int x1), (2, .int x2), (3, .int x3), (4, .int x4), (5, .int x5)] → W p l e (rmD 4) s m args below meth c H locs 0 0 (MQ below (QI D 19 ad res.1 (cfM ad cI res.2)) args s 0 0 (Ar 19 ad)) (F0 m 43 ls [])) (hke : ∀ (x1 : Int32) (x2 : Int32) (x3 : Int32) (x4 : Int32) (S : Stt) (H : Heap) (locs : List Loc) (ls : Array Slot), ke x1 x2 x3 x4 S = some res → va_P D vwCl (wl 19 ad (cfM ad cI S)) H → va_S (Ar 19 ad) s.heap H locs → lv_has ls 6 [(0, .ref (ad 0)), (1, .int x1), (2, .int x2), (3, .int x3), (4, .int x4)] → W p l e (rmD 4) s m args below meth c H locs 0 0 (MQ below (QI D 19 ad res.1 (cfM ad cI res.2)) args s 0 0 (Ar 19 ad)) (F0 m 94 ls [])) : ∀ (x1 : Int32) (x2 : Int32) (x3 : Int32) (x4 : Int32) (x5 : Int32) (S : Stt) (H : Heap) (locs : List Loc) (ls : Array Slot), fb_X8_mark_43 kb ke x1 x2 x3 x4 x5 S = some res → va_P D vwCl (wl 19 ad (cfM ad cI S)) H → va_S (Ar 19 ad) s.heap H locs → lv_has ls 6 [(0, .ref (ad 0)), (1, .int x1), (2, .int x2), (3, .int x3), (4, .int x4), (5, .int x5)] → W p l e (rmD 4) s m args below meth c H locs 0 0 (MQ below (QI D 19 ad res.1 (cfM ad cI res.2)) args s 0 0 (Ar 19 ad)) (F0 m 43 ls []) := by
  intro x1 x2 x3 x4 x5 S H locs ls hf hP hS hl
  have hx := X.1.1
  have hb := X.1.2.1
  unfold fb_X8_mark_43 at hf
  refine lv_iload hx hb dX8_mark_43 (lv_at hl 5 rfl) ?_
  refine lv_aload_n hx hb dX8_mark_45 rfl (lv_at hl 0 rfl) ?_
  refine g_M_many X hP  tw_86 dX8_mark_46 ?_
  refine lv_icmp_ge (tgt := 94) hx hb dX8_mark_49 (by decide) (fun c10 => ?_) (fun c10 => ?_)
  · rw [if_pos c10] at hf
    exact hke _ _ _ _ _ _ _ ls hf  hP hS (lv_sub hl [0, 1, 2, 3, 4] rfl)
  · rw [if_neg c10] at hf
    refine lv_iload_n hx hb dX8_mark_52 rfl (lv_at hl 3 rfl) ?_
    refine lv_aload_n hx hb dX8_mark_53 rfl (lv_at hl 0 rfl) ?_
    refine g_M_kinds X hP  tw_87 dX8_mark_54 ?_
    refine lv_iload hx hb dX8_mark_57 (lv_at hl 5 rfl) ?_
    obtain ⟨g11, hf⟩ := grd_some hf
    refine r_m_kinds X hP  g11 dX8_mark_59 ?_
    refine lv_iconst (v := (3 : Int32)) hx hb dX8_mark_60 (by decide) ?_
    refine lv_icmp_eq (tgt := 85) hx hb dX8_mark_61 (by decide) (fun c12 => ?_) (fun c12 => ?_)
    · rw [if_pos c12] at hf
      refine lv_iconst (v := (0 : Int32)) hx hb dX8_mark_85 (by decide) ?_
      refine lv_iadd hx hb dX8_mark_86 ?_
      refine lv_istore_n (lv' := [(3, .int (x3 + (0 : Int32))), (0, .ref (ad 0)), (1, .int x1), (2, .int x2), (4, .int x4), (5, .int x5)]) hx hb dX8_mark_87 rfl hl (by decide) rfl (fun ls hl => ?_)
      refine lv_iinc (v := (x5 + (1 : Int32))) (lv' := [(5, .int (x5 + (1 : Int32))), (3, .int (x3 + (0 : Int32))), (0, .ref (ad 0)), (1, .int x1), (2, .int x2), (4, .int x4)]) hx hb dX8_mark_88 hl (k := 5) rfl rfl (by decide) rfl (fun ls hl => ?_)
      refine lv_goto (tgt := 43) hx hb dX8_mark_91 (by decide) ?_
      exact hkb _ _ _ _ _ _ _ _ ls hf  hP hS (lv_sub hl [2, 3, 4, 1, 5, 0] rfl)
    · rw [if_neg c12] at hf
      refine lv_aload_n hx hb dX8_mark_64 rfl (lv_at hl 0 rfl) ?_
      refine g_M_words X hP  tw_89 dX8_mark_65 ?_
      refine lv_iload hx hb dX8_mark_68 (lv_at hl 5 rfl) ?_
      obtain ⟨g13, hf⟩ := grd_some hf
      refine r_m_words X hP  g13 dX8_mark_70 ?_
      refine lv_aload_n hx hb dX8_mark_71 rfl (lv_at hl 0 rfl) ?_
      refine g_M_words X hP  tw_89 dX8_mark_72 ?_
      refine lv_iload_n hx hb dX8_mark_75 rfl (lv_at hl 1 rfl) ?_
      obtain ⟨g14, hf⟩ := grd_some hf
      refine r_m_words X hP  g14 dX8_mark_76 ?_
      refine lv_iand hx hb dX8_mark_77 ?_
      refine lv_if_eq (tgt := 85) hx hb dX8_mark_78 (by decide) (fun c15 => ?_) (fun c15 => ?_)
      · rw [if_pos c15] at hf
        refine lv_iconst (v := (0 : Int32)) hx hb dX8_mark_85 (by decide) ?_
        refine lv_iadd hx hb dX8_mark_86 ?_
        refine lv_istore_n (lv' := [(3, .int (x3 + (0 : Int32))), (0, .ref (ad 0)), (1, .int x1), (2, .int x2), (4, .int x4), (5, .int x5)]) hx hb dX8_mark_87 rfl hl (by decide) rfl (fun ls hl => ?_)
        refine lv_iinc (v := (x5 + (1 : Int32))) (lv' := [(5, .int (x5 + (1 : Int32))), (3, .int (x3 + (0 : Int32))), (0, .ref (ad 0)), (1, .int x1), (2, .int x2), (4, .int x4)]) hx hb dX8_mark_88 hl (k := 5) rfl rfl (by decide) rfl (fun ls hl => ?_)
        refine lv_goto (tgt := 43) hx hb dX8_mark_91 (by decide) ?_
        exact hkb _ _ _ _ _ _ _ _ ls hf  hP hS (lv_sub hl [2, 3, 4, 1, 5, 0] rfl)
      · rw [if_neg c15] at hf
        refine lv_iconst (v := (1 : Int32)) hx hb dX8_mark_81 (by decide) ?_
        refine lv_goto (tgt := 86) hx hb dX8_mark_82 (by decide) ?_
        refine lv_iadd hx hb dX8_mark_86 ?_
        refine lv_istore_n (lv' := [(3, .int (x3 + (1 : Int32))), (0, .ref (ad 0)), (1, .int x1), (2, .int x2), (4, .int x4), (5, .int x5)]) hx hb dX8_mark_87 rfl hl (by decide) rfl (fun ls hl => ?_)
        refine lv_iinc (v := (x5 + (1 : Int32))) (lv' := [(5, .int (x5 + (1 : Int32))), (3, .int (x3 + (1 : Int32))), (0, .ref (ad 0)), (1, .int x1), (2, .int x2), (4, .int x4)]) hx hb dX8_mark_88 hl (k := 5) rfl rfl (by decide) rfl (fun ls hl => ?_)
        refine lv_goto (tgt := 43) hx hb dX8_mark_91 (by decide) ?_
        exact hkb _ _ _ _ _ _ _ _ ls hf  hP hS (lv_sub hl [2, 3, 4, 1, 5, 0] rfl)
set_option maxHeartbeats 4000000 in
set_option maxRecDepth 100000 in
theorem vl_X8_mark_43 (X : Cx D cI cP cB cA 19 ad tL tC p s m c cX8_mark 6 args RX8) (hr : meth.sig.returnType = (some .int)) (hlk : meth.locks = false) {res : Int32 × Stt} (ke : Int32 → Int32 → Int32 → Int32 → Stt → Option (Int32 × Stt)) (hke : ∀ (x1 : Int32) (x2 : Int32) (x3 : Int32) (x4 : Int32) (S : Stt) (H : Heap) (locs : List Loc) (ls : Array Slot), ke x1 x2 x3 x4 S = some res → va_P D vwCl (wl 19 ad (cfM ad cI S)) H → va_S (Ar 19 ad) s.heap H locs → lv_has ls 6 [(0, .ref (ad 0)), (1, .int x1), (2, .int x2), (3, .int x3), (4, .int x4)] → W p l e (rmD 4) s m args below meth c H locs 0 0 (MQ below (QI D 19 ad res.1 (cfM ad cI res.2)) args s 0 0 (Ar 19 ad)) (F0 m 94 ls [])) : ∀ (n : Nat), ∀ (x1 : Int32) (x2 : Int32) (x3 : Int32) (x4 : Int32) (x5 : Int32) (S : Stt) (H : Heap) (locs : List Loc) (ls : Array Slot), fl_X8_mark_43 ke n x1 x2 x3 x4 x5 S = some res → va_P D vwCl (wl 19 ad (cfM ad cI S)) H → va_S (Ar 19 ad) s.heap H locs → lv_has ls 6 [(0, .ref (ad 0)), (1, .int x1), (2, .int x2), (3, .int x3), (4, .int x4), (5, .int x5)] → W p l e (rmD 4) s m args below meth c H locs 0 0 (MQ below (QI D 19 ad res.1 (cfM ad cI res.2)) args s 0 0 (Ar 19 ad)) (F0 m 43 ls []) := by
  intro n
  induction n with
  | zero =>
    intro x1 x2 x3 x4 x5 S H locs ls hf hP hS hl
    cases hf
  | succ n ih =>
    intro x1 x2 x3 x4 x5 S H locs ls hf hP hS hl
    exact vb_X8_mark_43 X hr hlk _ ke ih hke x1 x2 x3 x4 x5 S H locs ls hf  hP hS hl
set_option maxHeartbeats 4000000 in
set_option maxRecDepth 100000 in
theorem vb_X8_mark_98 (X : Cx D cI cP cB cA 19 ad tL tC p s m c cX8_mark 6 args RX8) (hr : meth.sig.returnType = (some .int)) (hlk : meth.locks = false) {res : Int32 × Stt} (kb : Int32 → Int32 → Int32 → Int32 → Int32 → Stt → Option (Int32 × Stt)) (ke : Int32 → Int32 → Int32 → Int32 → Stt → Option (Int32 × Stt)) (hkb : ∀ (x1 : Int32) (x2 : Int32) (x3 : Int32) (x4 : Int32) (x5 : Int32) (S : Stt) (H : Heap) (locs : List Loc) (ls : Array Slot), kb x1 x2 x3 x4 x5 S = some res → va_P D vwCl (wl 19 ad (cfM ad cI S)) H → va_S (Ar 19 ad) s.heap H locs → lv_has ls 6 [(0, .ref (ad 0)), (1, .int x1), (2, .int x2), (3, .int x3), (4, .int x4), (5, .int x5)] → W p l e (rmD 4) s m args below meth c H locs 0 0 (MQ below (QI D 19 ad res.1 (cfM ad cI res.2)) args s 0 0 (Ar 19 ad)) (F0 m 98 ls [])) (hke : ∀ (x1 : Int32) (x2 : Int32) (x3 : Int32) (x4 : Int32) (S : Stt) (H : Heap) (locs : List Loc) (ls : Array Slot), ke x1 x2 x3 x4 S = some res → va_P D vwCl (wl 19 ad (cfM ad cI S)) H → va_S (Ar 19 ad) s.heap H locs → lv_has ls 6 [(0, .ref (ad 0)), (1, .int x1), (2, .int x2), (3, .int x3), (4, .int x4)] → W p l e (rmD 4) s m args below meth c H locs 0 0 (MQ below (QI D 19 ad res.1 (cfM ad cI res.2)) args s 0 0 (Ar 19 ad)) (F0 m 128 ls [])) : ∀ (x1 : Int32) (x2 : Int32) (x3 : Int32) (x4 : Int32) (x5 : Int32) (S : Stt) (H : Heap) (locs : List Loc) (ls : Array Slot), fb_X8_mark_98 kb ke x1 x2 x3 x4 x5 S = some res → va_P D vwCl (wl 19 ad (cfM ad cI S)) H → va_S (Ar 19 ad) s.heap H locs → lv_has ls 6 [(0, .ref (ad 0)), (1, .int x1), (2, .int x2), (3, .int x3), (4, .int x4), (5, .int x5)] → W p l e (rmD 4) s m args below meth c H locs 0 0 (MQ below (QI D 19 ad res.1 (cfM ad cI res.2)) args s 0 0 (Ar 19 ad)) (F0 m 98 ls []) := by
  intro x1 x2 x3 x4 x5 S H locs ls hf hP hS hl
  have hx := X.1.1
  have hb := X.1.2.1
  unfold fb_X8_mark_98 at hf
  refine lv_iload hx hb dX8_mark_98 (lv_at hl 5 rfl) ?_
  refine lv_if_lt (tgt := 128) hx hb dX8_mark_100 (by decide) (fun c16 => ?_) (fun c16 => ?_)
  · rw [if_pos c16] at hf
    exact hke _ _ _ _ _ _ _ ls hf  hP hS (lv_sub hl [0, 1, 2, 3, 4] rfl)
  · rw [if_neg c16] at hf
    refine lv_aload_n hx hb dX8_mark_103 rfl (lv_at hl 0 rfl) ?_
    refine lv_iload_n hx hb dX8_mark_104 rfl (lv_at hl 1 rfl) ?_
    refine lv_iload hx hb dX8_mark_105 (lv_at hl 5 rfl) ?_
    obtain ⟨q17, e18, hf⟩ := bind_some hf
    refine aftI hS (cV (rest := []) X hP hS [.int x1, .int x5] (m_X8_doesBind  e18) cw_X8_doesBind tw_319 tw_576 tw_787 (by decide) (cf_M ) rfl (fits9 (by first | decide | omega) (by decide)) rfl rfl hl.1 (Nat.le_of_ble_eq_true rfl) dX8_mark_107 ⟨Nat.zero_le _, Nat.zero_le _⟩) (fun H locs hP hS => ?_)
    refine lv_if_eq (tgt := 118) hx hb dX8_mark_110 (by decide) (fun c19 => ?_) (fun c19 => ?_)
    · rw [if_pos c19] at hf
      refine lv_iload hx hb dX8_mark_118 (lv_at hl 4 rfl) ?_
      refine lv_istore (lv' := [(4, .int x4), (0, .ref (ad 0)), (1, .int x1), (2, .int x2), (3, .int x3), (5, .int x5)]) hx hb dX8_mark_120 hl (by decide) rfl (fun ls hl => ?_)
      refine lv_iinc (v := (x5 + (-1 : Int32))) (lv' := [(5, .int (x5 + (-1 : Int32))), (4, .int x4), (0, .ref (ad 0)), (1, .int x1), (2, .int x2), (3, .int x3)]) hx hb dX8_mark_122 hl (k := 5) rfl rfl (by decide) rfl (fun ls hl => ?_)
      refine lv_goto (tgt := 98) hx hb dX8_mark_125 (by decide) ?_
      exact hkb _ _ _ _ _ _ _ _ ls hf  hP hS (lv_sub hl [2, 3, 4, 5, 1, 0] rfl)
    · rw [if_neg c19] at hf
      refine lv_iload hx hb dX8_mark_113 (lv_at hl 5 rfl) ?_
      refine lv_goto (tgt := 120) hx hb dX8_mark_115 (by decide) ?_
      refine lv_istore (lv' := [(4, .int x5), (0, .ref (ad 0)), (1, .int x1), (2, .int x2), (3, .int x3), (5, .int x5)]) hx hb dX8_mark_120 hl (by decide) rfl (fun ls hl => ?_)
      refine lv_iinc (v := (x5 + (-1 : Int32))) (lv' := [(5, .int (x5 + (-1 : Int32))), (4, .int x5), (0, .ref (ad 0)), (1, .int x1), (2, .int x2), (3, .int x3)]) hx hb dX8_mark_122 hl (k := 5) rfl rfl (by decide) rfl (fun ls hl => ?_)
      refine lv_goto (tgt := 98) hx hb dX8_mark_125 (by decide) ?_
      exact hkb _ _ _ _ _ _ _ _ ls hf  hP hS (lv_sub hl [2, 3, 4, 5, 1, 0] rfl)
set_option maxHeartbeats 4000000 in
set_option maxRecDepth 100000 in
theorem vl_X8_mark_98 (X : Cx D cI cP cB cA 19 ad tL tC p s m c cX8_mark 6 args RX8) (hr : meth.sig.returnType = (some .int)) (hlk : meth.locks = false) {res : Int32 × Stt} (ke : Int32 → Int32 → Int32 → Int32 → Stt → Option (Int32 × Stt)) (hke : ∀ (x1 : Int32) (x2 : Int32) (x3 : Int32) (x4 : Int32) (S : Stt) (H : Heap) (locs : List Loc) (ls : Array Slot), ke x1 x2 x3 x4 S = some res → va_P D vwCl (wl 19 ad (cfM ad cI S)) H → va_S (Ar 19 ad) s.heap H locs → lv_has ls 6 [(0, .ref (ad 0)), (1, .int x1), (2, .int x2), (3, .int x3), (4, .int x4)] → W p l e (rmD 4) s m args below meth c H locs 0 0 (MQ below (QI D 19 ad res.1 (cfM ad cI res.2)) args s 0 0 (Ar 19 ad)) (F0 m 128 ls [])) : ∀ (n : Nat), ∀ (x1 : Int32) (x2 : Int32) (x3 : Int32) (x4 : Int32) (x5 : Int32) (S : Stt) (H : Heap) (locs : List Loc) (ls : Array Slot), fl_X8_mark_98 ke n x1 x2 x3 x4 x5 S = some res → va_P D vwCl (wl 19 ad (cfM ad cI S)) H → va_S (Ar 19 ad) s.heap H locs → lv_has ls 6 [(0, .ref (ad 0)), (1, .int x1), (2, .int x2), (3, .int x3), (4, .int x4), (5, .int x5)] → W p l e (rmD 4) s m args below meth c H locs 0 0 (MQ below (QI D 19 ad res.1 (cfM ad cI res.2)) args s 0 0 (Ar 19 ad)) (F0 m 98 ls []) := by
  intro n
  induction n with
  | zero =>
    intro x1 x2 x3 x4 x5 S H locs ls hf hP hS hl
    cases hf
  | succ n ih =>
    intro x1 x2 x3 x4 x5 S H locs ls hf hP hS hl
    exact vb_X8_mark_98 X hr hlk _ ke ih hke x1 x2 x3 x4 x5 S H locs ls hf  hP hS hl
end
set_option maxHeartbeats 4000000 in
set_option maxRecDepth 100000 in
theorem m_X8_mark {l : Launch} {D : va_G} {cI cP cB cA : ClassId} {ad : Nat → Nat} {tL tC : Nat} {x1 : Int32} {x2 : Int32} {S : Stt} {res : Int32 × Stt} (hf : f_X8_mark x1 x2 S = some res) : Ct l D cI cP cB cA 19 ad tL tC yX8_mark cX8_mark 6 (some .int) 4 [.ref (ad 0), .int x1, .int x2] (cfM ad cI S) (QI D 19 ad res.1 (cfM ad cI res.2)) := by
  refine ctOf (by decide) (Nat.le_of_ble_eq_true rfl) ?_
  intro p e s m args below meth c ls X hr hlk hP hl
  have hS : va_S (Ar 19 ad) s.heap s.heap [] := va_S.rf
  have hx := X.1.1
  have hb := X.1.2.1
  have hl : lv_has ls 6 [(0, .ref (ad 0)), (1, .int x1), (2, .int x2)] := hl
  unfold f_X8_mark at hf
  refine lv_aload_n hx hb dX8_mark_0 rfl (lv_at hl 0 rfl) ?_
  refine lv_iload_n hx hb dX8_mark_1 rfl (lv_at hl 1 rfl) ?_
  obtain ⟨q1, e2, hf⟩ := bind_some hf
  refine aftI hS (cV (rest := []) X hP hS [.int x1] (m_X8_isPage  e2) cw_X8_isPage tw_314 tw_571 tw_783 (by decide) (cf_M ) rfl (fits9 (by first | decide | omega) (by decide)) rfl rfl hl.1 (Nat.le_of_ble_eq_true rfl) dX8_mark_2 ⟨Nat.zero_le _, Nat.zero_le _⟩) (fun H locs hP hS => ?_)
  refine lv_if_eq (tgt := 17) hx hb dX8_mark_5 (by decide) (fun c3 => ?_) (fun c3 => ?_)
  · rw [if_pos c3] at hf
    refine lv_iconst (v := (-1 : Int32)) hx hb dX8_mark_17 (by decide) ?_
    cases hf
    exact rtI X hr hlk hP hS dX8_mark_18
  · rw [if_neg c3] at hf
    refine lv_iload_n hx hb dX8_mark_8 rfl (lv_at hl 2 rfl) ?_
    refine lv_iconst (v := (1 : Int32)) hx hb dX8_mark_9 (by decide) ?_
    refine lv_iconst (v := (5 : Int32)) hx hb dX8_mark_10 (by decide) ?_
    obtain ⟨q4, e5, hf⟩ := bind_some hf
    refine aftI hS (cS (rest := []) X hP hS [.int x2, .int (1 : Int32), .int (5 : Int32)] (m_X8_in  e5) cw_X8_in tw_288 tw_546 (fits9 (by first | decide | omega) (by decide)) rfl rfl hl.1 (Nat.le_of_ble_eq_true rfl) dX8_mark_11 ⟨Nat.zero_le _, Nat.zero_le _⟩) (fun H locs hP hS => ?_)
    refine lv_if_ne (tgt := 19) hx hb dX8_mark_14 (by decide) (fun c6 => ?_) (fun c6 => ?_)
    · rw [if_neg c6] at hf
      refine lv_aload_n hx hb dX8_mark_19 rfl (lv_at hl 0 rfl) ?_
      refine lv_iload_n hx hb dX8_mark_20 rfl (lv_at hl 1 rfl) ?_
      refine lv_iload_n hx hb dX8_mark_21 rfl (lv_at hl 2 rfl) ?_
      obtain ⟨q7, e8, hf⟩ := bind_some hf
      refine aftI hS (cV (rest := []) X hP hS [.int x1, .int x2] (m_X8_isA  e8) cw_X8_isA tw_321 tw_578 tw_784 (by decide) (cf_M ) rfl (fits9 (by first | decide | omega) (by decide)) rfl rfl hl.1 (Nat.le_of_ble_eq_true rfl) dX8_mark_22 ⟨Nat.zero_le _, Nat.zero_le _⟩) (fun H locs hP hS => ?_)
      refine lv_if_ne (tgt := 34) hx hb dX8_mark_25 (by decide) (fun c9 => ?_) (fun c9 => ?_)
      · rw [if_neg c9] at hf
        refine lv_iconst (v := (0 : Int32)) hx hb dX8_mark_34 (by decide) ?_
        refine lv_istore_n (lv' := [(3, .int (0 : Int32)), (0, .ref (ad 0)), (1, .int x1), (2, .int x2)]) hx hb dX8_mark_35 rfl hl (by decide) rfl (fun ls hl => ?_)
        refine lv_bipush (v := (-9 : Int32)) hx hb dX8_mark_36 (by decide) ?_
        refine lv_istore (lv' := [(4, .int (-9 : Int32)), (3, .int (0 : Int32)), (0, .ref (ad 0)), (1, .int x1), (2, .int x2)]) hx hb dX8_mark_38 hl (by decide) rfl (fun ls hl => ?_)
        refine lv_iconst (v := (0 : Int32)) hx hb dX8_mark_40 (by decide) ?_
        refine lv_istore (lv' := [(5, .int (0 : Int32)), (4, .int (-9 : Int32)), (3, .int (0 : Int32)), (0, .ref (ad 0)), (1, .int x1), (2, .int x2)]) hx hb dX8_mark_41 hl (by decide) rfl (fun ls hl => ?_)
        refine vl_X8_mark_43 X hr hlk _ ?_ 300 _ _ _ _ _ _ _ _ ls hf  hP hS (lv_sub hl [3, 4, 5, 2, 1, 0] rfl)
        intro x1 x2 x3 x4 S H locs ls hf hP hS hl
        refine lv_bipush (v := (20 : Int32)) hx hb dX8_mark_94 (by decide) ?_
        refine lv_istore (lv' := [(5, .int (20 : Int32)), (0, .ref (ad 0)), (1, .int x1), (2, .int x2), (3, .int x3), (4, .int x4)]) hx hb dX8_mark_96 hl (by decide) rfl (fun ls hl => ?_)
        refine vl_X8_mark_98 X hr hlk _ ?_ 300 _ _ _ _ _ _ _ _ ls hf  hP hS (lv_sub hl [1, 2, 3, 4, 5, 0] rfl)
        intro x1 x2 x3 x4 S H locs ls hf hP hS hl
        refine lv_iload_n hx hb dX8_mark_128 rfl (lv_at hl 2 rfl) ?_
        by_cases c20 : x2 = (1 : Int32)
        · rw [if_pos c20] at hf
          refine W.eq (g2 := F0 m 129 ls [.int (1 : Int32)]) (by rw [c20]) ?_
          refine lv_tableIn (x := (1 : Int32)) (off := 31) (tgt := 160) hx hb dX8_mark_129 (by decide) (by decide) rfl (by decide) ?_
          refine lv_aload_n hx hb dX8_mark_160 rfl (lv_at hl 0 rfl) ?_
          refine lv_iload_n hx hb dX8_mark_161 rfl (lv_at hl 1 rfl) ?_
          obtain ⟨q21, e22, hf⟩ := bind_some hf
          refine aftI hS (cV (rest := []) X hP hS [.int x1] (m_X8_weightOf  e22) cw_X8_weightOf tw_322 tw_579 tw_790 (by decide) (cf_M ) rfl (fits9 (by first | decide | omega) (by decide)) rfl rfl hl.1 (Nat.le_of_ble_eq_true rfl) dX8_mark_162 ⟨Nat.zero_le _, Nat.zero_le _⟩) (fun H locs hP hS => ?_)
          cases hf
          exact rtI X hr hlk hP hS dX8_mark_165
        · rw [if_neg c20] at hf
          by_cases c23 : x2 = (2 : Int32)
          · rw [if_pos c23] at hf
            refine W.eq (g2 := F0 m 129 ls [.int (2 : Int32)]) (by rw [c23]) ?_
            refine lv_tableIn (x := (2 : Int32)) (off := 37) (tgt := 166) hx hb dX8_mark_129 (by decide) (by decide) rfl (by decide) ?_
            refine lv_aload_n hx hb dX8_mark_166 rfl (lv_at hl 0 rfl) ?_
            refine lv_iload_n hx hb dX8_mark_167 rfl (lv_at hl 1 rfl) ?_
            refine lv_bipush (v := (20 : Int32)) hx hb dX8_mark_168 (by decide) ?_
            obtain ⟨q24, e25, hf⟩ := bind_some hf
            refine aftI hS (cV (rest := []) X hP hS [.int x1, .int (20 : Int32)] (m_X8_doesBind  e25) cw_X8_doesBind tw_319 tw_576 tw_787 (by decide) (cf_M ) rfl (fits9 (by first | decide | omega) (by decide)) rfl rfl hl.1 (Nat.le_of_ble_eq_true rfl) dX8_mark_170 ⟨Nat.zero_le _, Nat.zero_le _⟩) (fun H locs hP hS => ?_)
            refine lv_if_eq (tgt := 180) hx hb dX8_mark_173 (by decide) (fun c26 => ?_) (fun c26 => ?_)
            · rw [if_pos c26] at hf
              refine lv_iconst (v := (0 : Int32)) hx hb dX8_mark_180 (by decide) ?_
              cases hf
              exact rtI X hr hlk hP hS dX8_mark_181
            · rw [if_neg c26] at hf
              refine lv_iconst (v := (1 : Int32)) hx hb dX8_mark_176 (by decide) ?_
              refine lv_goto (tgt := 181) hx hb dX8_mark_177 (by decide) ?_
              cases hf
              exact rtI X hr hlk hP hS dX8_mark_181
          · rw [if_neg c23] at hf
            by_cases c27 : x2 = (3 : Int32)
            · rw [if_pos c27] at hf
              refine W.eq (g2 := F0 m 129 ls [.int (3 : Int32)]) (by rw [c27]) ?_
              refine lv_tableIn (x := (3 : Int32)) (off := 53) (tgt := 182) hx hb dX8_mark_129 (by decide) (by decide) rfl (by decide) ?_
              refine lv_iload_n hx hb dX8_mark_182 rfl (lv_at hl 3 rfl) ?_
              cases hf
              exact rtI X hr hlk hP hS dX8_mark_183
            · rw [if_neg c27] at hf
              by_cases c28 : x2 = (4 : Int32)
              · rw [if_pos c28] at hf
                refine W.eq (g2 := F0 m 129 ls [.int (4 : Int32)]) (by rw [c28]) ?_
                refine lv_tableIn (x := (4 : Int32)) (off := 55) (tgt := 184) hx hb dX8_mark_129 (by decide) (by decide) rfl (by decide) ?_
                refine lv_aload_n hx hb dX8_mark_184 rfl (lv_at hl 0 rfl) ?_
                refine g_M_days X hP  tw_92 dX8_mark_185 ?_
                refine lv_iload_n hx hb dX8_mark_188 rfl (lv_at hl 1 rfl) ?_
                obtain ⟨g29, hf⟩ := grd_some hf
                refine r_m_days X hP  g29 dX8_mark_189 ?_
                refine lv_iconst (v := (2 : Int32)) hx hb dX8_mark_190 (by decide) ?_
                refine lv_iadd hx hb dX8_mark_191 ?_
                cases hf
                exact rtI X hr hlk hP hS dX8_mark_192
              · rw [if_neg c28] at hf
                have z9 : ∀ k : Int32, ¬ x2 = k → ¬ (x2).toInt = k.toInt := fun k h q => h (Int32.toInt_inj.mp q)
                have a0 : ¬ (x2).toInt = 1 := z9 (1 : Int32) c20
                have a1 : ¬ (x2).toInt = 2 := z9 (2 : Int32) c23
                have a2 : ¬ (x2).toInt = 3 := z9 (3 : Int32) c27
                have a3 : ¬ (x2).toInt = 4 := z9 (4 : Int32) c28
                have z8 : (x2).toInt < 1 ∨ 4 < (x2).toInt := by omega
                refine lv_tableOut (tgt := 193) hx hb dX8_mark_129 z8 (by decide) ?_
                refine lv_iload hx hb dX8_mark_193 (lv_at hl 4 rfl) ?_
                cases hf
                exact rtI X hr hlk hP hS dX8_mark_195
      · rw [if_pos c9] at hf
        refine lv_aload_n hx hb dX8_mark_28 rfl (lv_at hl 0 rfl) ?_
        refine lv_iconst (v := (3 : Int32)) hx hb dX8_mark_29 (by decide) ?_
        obtain ⟨q30, e31, hf⟩ := bind_some hf
        refine aftI hS (cV (rest := []) X hP hS [.int (3 : Int32)] (m_X8_meet  e31) cw_X8_meet tw_289 tw_547 tw_762 (by decide) (cf_M ) rfl (fits9 (by first | decide | omega) (by decide)) rfl rfl hl.1 (Nat.le_of_ble_eq_true rfl) dX8_mark_30 ⟨Nat.zero_le _, Nat.zero_le _⟩) (fun H locs hP hS => ?_)
        cases hf
        exact rtI X hr hlk hP hS dX8_mark_33
    · rw [if_pos c6] at hf
      refine lv_iconst (v := (-1 : Int32)) hx hb dX8_mark_17 (by decide) ?_
      cases hf
      exact rtI X hr hlk hP hS dX8_mark_18
/-! X8_mean -/
section
variable {p : Program} {l : Launch} {e : Env} {s : State} {m : MethodId} {args : Array Value} {below : List Frame} {meth : Method} {c : Code}
variable {D : va_G} {cI cP cB cA : ClassId} {ad : Nat → Nat} {tL tC : Nat}
set_option maxHeartbeats 4000000 in
set_option maxRecDepth 100000 in
theorem vb_X8_mean_17 (X : Cx D cI cP cB cA 19 ad tL tC p s m c cX8_mean 6 args RX8) (hr : meth.sig.returnType = (some .int)) (hlk : meth.locks = false) {res : Int32 × Stt} (kb : Int32 → Int64 → Int32 → Stt → Option (Int32 × Stt)) (ke : Int32 → Int64 → Stt → Option (Int32 × Stt)) (hkb : ∀ (x1 : Int32) (y3 : Int64) (x5 : Int32) (S : Stt) (H : Heap) (locs : List Loc) (ls : Array Slot), kb x1 y3 x5 S = some res → va_P D vwCl (wl 19 ad (cfM ad cI S)) H → va_S (Ar 19 ad) s.heap H locs → lv_has ls 6 [(0, .ref (ad 0)), (1, .int x1), (3, .long y3), (5, .int x5)] → W p l e (rmD 4) s m args below meth c H locs 0 0 (MQ below (QI D 19 ad res.1 (cfM ad cI res.2)) args s 0 0 (Ar 19 ad)) (F0 m 17 ls [])) (hke : ∀ (x1 : Int32) (y3 : Int64) (S : Stt) (H : Heap) (locs : List Loc) (ls : Array Slot), ke x1 y3 S = some res → va_P D vwCl (wl 19 ad (cfM ad cI S)) H → va_S (Ar 19 ad) s.heap H locs → lv_has ls 6 [(0, .ref (ad 0)), (1, .int x1), (3, .long y3)] → W p l e (rmD 4) s m args below meth c H locs 0 0 (MQ below (QI D 19 ad res.1 (cfM ad cI res.2)) args s 0 0 (Ar 19 ad)) (F0 m 45 ls [])) : ∀ (x1 : Int32) (y3 : Int64) (x5 : Int32) (S : Stt) (H : Heap) (locs : List Loc) (ls : Array Slot), fb_X8_mean_17 kb ke x1 y3 x5 S = some res → va_P D vwCl (wl 19 ad (cfM ad cI S)) H → va_S (Ar 19 ad) s.heap H locs → lv_has ls 6 [(0, .ref (ad 0)), (1, .int x1), (3, .long y3), (5, .int x5)] → W p l e (rmD 4) s m args below meth c H locs 0 0 (MQ below (QI D 19 ad res.1 (cfM ad cI res.2)) args s 0 0 (Ar 19 ad)) (F0 m 17 ls []) := by
  intro x1 y3 x5 S H locs ls hf hP hS hl
  have hx := X.1.1
  have hb := X.1.2.1
  unfold fb_X8_mean_17 at hf
  refine lv_iload hx hb dX8_mean_17 (lv_at hl 3 rfl) ?_
  refine lv_aload_n hx hb dX8_mean_19 rfl (lv_at hl 0 rfl) ?_
  refine g_M_sizes X hP  tw_81 dX8_mean_20 ?_
  refine lv_iload_n hx hb dX8_mean_23 rfl (lv_at hl 1 rfl) ?_
  obtain ⟨g4, hf⟩ := grd_some hf
  refine r_m_sizes X hP  g4 dX8_mean_24 ?_
  refine lv_icmp_ge (tgt := 45) hx hb dX8_mean_25 (by decide) (fun c5 => ?_) (fun c5 => ?_)
  · rw [if_pos c5] at hf
    exact hke _ _ _ _ _ ls hf  hP hS (lv_sub hl [0, 1, 2] rfl)
  · rw [if_neg c5] at hf
    refine lv_lload_n hx hb dX8_mean_28 rfl (lv_at hl 2 rfl) ?_
    refine lv_aload_n hx hb dX8_mean_29 rfl (lv_at hl 0 rfl) ?_
    refine lv_iload_n hx hb dX8_mean_30 rfl (lv_at hl 1 rfl) ?_
    refine lv_iload hx hb dX8_mean_31 (lv_at hl 3 rfl) ?_
    obtain ⟨q6, e7, hf⟩ := bind_some hf
    refine aftI hS (cV (rest := [.long y3]) X hP hS [.int x1, .int x5] (m_X8_rowAt  e7) cw_X8_rowAt tw_293 tw_551 tw_766 (by decide) (cf_M ) rfl (fits9 (by first | decide | omega) (by decide)) rfl rfl hl.1 (Nat.le_of_ble_eq_true rfl) dX8_mean_33 ⟨Nat.zero_le _, Nat.zero_le _⟩) (fun H locs hP hS => ?_)
    refine lv_i2l hx hb dX8_mean_36 rfl ?_
    refine lv_ladd hx hb dX8_mean_37 ?_
    refine lv_lstore_n (lv' := [(3, .long (y3 + q6.1.toInt64)), (0, .ref (ad 0)), (1, .int x1), (5, .int x5)]) hx hb dX8_mean_38 rfl hl (by decide) rfl (fun ls hl => ?_)
    refine lv_iinc (v := (x5 + (1 : Int32))) (lv' := [(5, .int (x5 + (1 : Int32))), (3, .long (y3 + q6.1.toInt64)), (0, .ref (ad 0)), (1, .int x1)]) hx hb dX8_mean_39 hl (k := 3) rfl rfl (by decide) rfl (fun ls hl => ?_)
    refine lv_goto (tgt := 17) hx hb dX8_mean_42 (by decide) ?_
    exact hkb _ _ _ _ _ _ ls hf  hP hS (lv_sub hl [2, 3, 1, 0] rfl)
set_option maxHeartbeats 4000000 in
set_option maxRecDepth 100000 in
theorem vl_X8_mean_17 (X : Cx D cI cP cB cA 19 ad tL tC p s m c cX8_mean 6 args RX8) (hr : meth.sig.returnType = (some .int)) (hlk : meth.locks = false) {res : Int32 × Stt} (ke : Int32 → Int64 → Stt → Option (Int32 × Stt)) (hke : ∀ (x1 : Int32) (y3 : Int64) (S : Stt) (H : Heap) (locs : List Loc) (ls : Array Slot), ke x1 y3 S = some res → va_P D vwCl (wl 19 ad (cfM ad cI S)) H → va_S (Ar 19 ad) s.heap H locs → lv_has ls 6 [(0, .ref (ad 0)), (1, .int x1), (3, .long y3)] → W p l e (rmD 4) s m args below meth c H locs 0 0 (MQ below (QI D 19 ad res.1 (cfM ad cI res.2)) args s 0 0 (Ar 19 ad)) (F0 m 45 ls [])) : ∀ (n : Nat), ∀ (x1 : Int32) (y3 : Int64) (x5 : Int32) (S : Stt) (H : Heap) (locs : List Loc) (ls : Array Slot), fl_X8_mean_17 ke n x1 y3 x5 S = some res → va_P D vwCl (wl 19 ad (cfM ad cI S)) H → va_S (Ar 19 ad) s.heap H locs → lv_has ls 6 [(0, .ref (ad 0)), (1, .int x1), (3, .long y3), (5, .int x5)] → W p l e (rmD 4) s m args below meth c H locs 0 0 (MQ below (QI D 19 ad res.1 (cfM ad cI res.2)) args s 0 0 (Ar 19 ad)) (F0 m 17 ls []) := by
  intro n
  induction n with
  | zero =>
    intro x1 y3 x5 S H locs ls hf hP hS hl
    cases hf
  | succ n ih =>
    intro x1 y3 x5 S H locs ls hf hP hS hl
    exact vb_X8_mean_17 X hr hlk _ ke ih hke x1 y3 x5 S H locs ls hf  hP hS hl
end
set_option maxHeartbeats 4000000 in
set_option maxRecDepth 100000 in
theorem m_X8_mean {l : Launch} {D : va_G} {cI cP cB cA : ClassId} {ad : Nat → Nat} {tL tC : Nat} {x1 : Int32} {S : Stt} {res : Int32 × Stt} (hf : f_X8_mean x1 S = some res) : Ct l D cI cP cB cA 19 ad tL tC yX8_mean cX8_mean 6 (some .int) 4 [.ref (ad 0), .int x1] (cfM ad cI S) (QI D 19 ad res.1 (cfM ad cI res.2)) := by
  refine ctOf (by decide) (Nat.le_of_ble_eq_true rfl) ?_
  intro p e s m args below meth c ls X hr hlk hP hl
  have hS : va_S (Ar 19 ad) s.heap s.heap [] := va_S.rf
  have hx := X.1.1
  have hb := X.1.2.1
  have hl : lv_has ls 6 [(0, .ref (ad 0)), (1, .int x1)] := hl
  unfold f_X8_mean at hf
  refine lv_aload_n hx hb dX8_mean_0 rfl (lv_at hl 0 rfl) ?_
  refine lv_iload_n hx hb dX8_mean_1 rfl (lv_at hl 1 rfl) ?_
  obtain ⟨q1, e2, hf⟩ := bind_some hf
  refine aftI hS (cV (rest := []) X hP hS [.int x1] (m_X8_askedRow  e2) cw_X8_askedRow tw_292 tw_550 tw_764 (by decide) (cf_M ) rfl (fits9 (by first | decide | omega) (by decide)) rfl rfl hl.1 (Nat.le_of_ble_eq_true rfl) dX8_mean_2 ⟨Nat.zero_le _, Nat.zero_le _⟩) (fun H locs hP hS => ?_)
  refine lv_istore_n (lv' := [(2, .int q1.1), (0, .ref (ad 0)), (1, .int x1)]) hx hb dX8_mean_5 rfl hl (by decide) rfl (fun ls hl => ?_)
  refine lv_iload_n hx hb dX8_mean_6 rfl (lv_at hl 0 rfl) ?_
  refine lv_if_ge (tgt := 12) hx hb dX8_mean_7 (by decide) (fun c3 => ?_) (fun c3 => ?_)
  · rw [if_pos c3] at hf
    refine lv_lconst (v := (0 : Int64)) hx hb dX8_mean_12 (by decide) ?_
    refine lv_lstore_n (lv' := [(3, .long (0 : Int64)), (2, .int q1.1), (0, .ref (ad 0)), (1, .int x1)]) hx hb dX8_mean_13 rfl hl (by decide) rfl (fun ls hl => ?_)
    refine lv_iconst (v := (0 : Int32)) hx hb dX8_mean_14 (by decide) ?_
    refine lv_istore (lv' := [(5, .int (0 : Int32)), (3, .long (0 : Int64)), (2, .int q1.1), (0, .ref (ad 0)), (1, .int x1)]) hx hb dX8_mean_15 hl (by decide) rfl (fun ls hl => ?_)
    refine vl_X8_mean_17 X hr hlk _ ?_ 300 _ _ _ _ _ _ ls hf  hP hS (lv_sub hl [3, 4, 1, 0] rfl)
    intro x1 y3 S H locs ls hf hP hS hl
    refine lv_aload_n hx hb dX8_mean_45 rfl (lv_at hl 0 rfl) ?_
    refine g_M_sizes X hP  tw_81 dX8_mean_46 ?_
    refine lv_iload_n hx hb dX8_mean_49 rfl (lv_at hl 1 rfl) ?_
    obtain ⟨g8, hf⟩ := grd_some hf
    refine r_m_sizes X hP  g8 dX8_mean_50 ?_
    refine lv_if_ne (tgt := 62) hx hb dX8_mean_51 (by decide) (fun c9 => ?_) (fun c9 => ?_)
    · rw [if_neg c9] at hf
      refine lv_aload_n hx hb dX8_mean_62 rfl (lv_at hl 0 rfl) ?_
      refine lv_lload_n hx hb dX8_mean_63 rfl (lv_at hl 2 rfl) ?_
      refine lv_aload_n hx hb dX8_mean_64 rfl (lv_at hl 0 rfl) ?_
      refine g_M_sizes X hP  tw_81 dX8_mean_65 ?_
      refine lv_iload_n hx hb dX8_mean_68 rfl (lv_at hl 1 rfl) ?_
      obtain ⟨g10, hf⟩ := grd_some hf
      refine r_m_sizes X hP  g10 dX8_mean_69 ?_
      refine lv_i2l hx hb dX8_mean_70 rfl ?_
      obtain ⟨g11, hf⟩ := grd_some hf
      refine lv_ldiv hx hb dX8_mean_71 (of_decide_eq_true g11) ?_
      refine lv_l2i hx hb dX8_mean_72 rfl ?_
      refine lv_iconst (v := (1 : Int32)) hx hb dX8_mean_73 (by decide) ?_
      obtain ⟨q12, e13, hf⟩ := bind_some hf
      refine aftI hS (cV (rest := []) X hP hS [.int (y3 / (S.1 2 0 x1.toNatClampNeg).toInt64).toInt32, .int (1 : Int32)] (m_X8_ask  e13) cw_X8_ask tw_294 tw_552 tw_763 (by decide) (cf_M ) rfl (fits9 (by first | decide | omega) (by decide)) rfl rfl hl.1 (Nat.le_of_ble_eq_true rfl) dX8_mean_74 ⟨Nat.zero_le _, Nat.zero_le _⟩) (fun H locs hP hS => ?_)
      cases hf
      exact rtI X hr hlk hP hS dX8_mean_77
    · rw [if_pos c9] at hf
      refine lv_aload_n hx hb dX8_mean_54 rfl (lv_at hl 0 rfl) ?_
      refine lv_iconst (v := (4 : Int32)) hx hb dX8_mean_55 (by decide) ?_
      obtain ⟨q14, e15, hf⟩ := bind_some hf
      refine aftI hS (cV (rest := []) X hP hS [.int (4 : Int32)] (m_X8_meet  e15) cw_X8_meet tw_289 tw_547 tw_762 (by decide) (cf_M ) rfl (fits9 (by first | decide | omega) (by decide)) rfl rfl hl.1 (Nat.le_of_ble_eq_true rfl) dX8_mean_56 ⟨Nat.zero_le _, Nat.zero_le _⟩) (fun H locs hP hS => ?_)
      refine lv_goto (tgt := 77) hx hb dX8_mean_59 (by decide) ?_
      cases hf
      exact rtI X hr hlk hP hS dX8_mean_77
  · rw [if_neg c3] at hf
    refine lv_iload_n hx hb dX8_mean_10 rfl (lv_at hl 0 rfl) ?_
    cases hf
    exact rtI X hr hlk hP hS dX8_mean_11
/-! X8_meanOf -/
section
variable {p : Program} {l : Launch} {e : Env} {s : State} {m : MethodId} {args : Array Value} {below : List Frame} {meth : Method} {c : Code}
variable {D : va_G} {cI cP cB cA : ClassId} {ad : Nat → Nat} {tL tC : Nat}
set_option maxHeartbeats 4000000 in
set_option maxRecDepth 100000 in
theorem vj_X8_meanOf_55_6 (X : Cx D cI cP cB cA 19 ad tL tC p s m c cX8_meanOf 6 args RX8) (hr : meth.sig.returnType = (some .int)) (hlk : meth.locks = false) {res : Int32 × Stt} (kb : Int32 → Int32 → Int32 → Int32 → Stt → Option (Int32 × Stt)) (ke : Int32 → Stt → Option (Int32 × Stt)) (hkb : ∀ (x1 : Int32) (x2 : Int32) (x3 : Int32) (x4 : Int32) (S : Stt) (H : Heap) (locs : List Loc) (ls : Array Slot), kb x1 x2 x3 x4 S = some res → va_P D vwCl (wl 19 ad (cfM ad cI S)) H → va_S (Ar 19 ad) s.heap H locs → lv_has ls 6 [(0, .ref (ad 0)), (1, .int x1), (2, .int x2), (3, .int x3), (4, .int x4)] → W p l e (rmD 4) s m args below meth c H locs 0 0 (MQ below (QI D 19 ad res.1 (cfM ad cI res.2)) args s 0 0 (Ar 19 ad)) (F0 m 6 ls [])) (hke : ∀ (x3 : Int32) (S : Stt) (H : Heap) (locs : List Loc) (ls : Array Slot), ke x3 S = some res → va_P D vwCl (wl 19 ad (cfM ad cI S)) H → va_S (Ar 19 ad) s.heap H locs → lv_has ls 6 [(0, .ref (ad 0)), (3, .int x3)] → W p l e (rmD 4) s m args below meth c H locs 0 0 (MQ below (QI D 19 ad res.1 (cfM ad cI res.2)) args s 0 0 (Ar 19 ad)) (F0 m 97 ls [])) : ∀ (x1 : Int32) (x2 : Int32) (x3 : Int32) (x4 : Int32) (xt0 : Int32) (S : Stt) (H : Heap) (locs : List Loc) (ls : Array Slot), fj_X8_meanOf_55_6 kb ke x1 x2 x3 x4 xt0 S = some res → va_P D vwCl (wl 19 ad (cfM ad cI S)) H → va_S (Ar 19 ad) s.heap H locs → lv_has ls 6 [(0, .ref (ad 0)), (1, .int x1), (2, .int x2), (3, .int x3), (4, .int x4)] → W p l e (rmD 4) s m args below meth c H locs 0 0 (MQ below (QI D 19 ad res.1 (cfM ad cI res.2)) args s 0 0 (Ar 19 ad)) (F0 m 55 ls [.int xt0]) := by
  intro x1 x2 x3 x4 xt0 S H locs ls hf hP hS hl
  have hx := X.1.1
  have hb := X.1.2.1
  unfold fj_X8_meanOf_55_6 at hf
  refine lv_istore (lv' := [(5, .int xt0), (0, .ref (ad 0)), (1, .int x1), (2, .int x2), (3, .int x3), (4, .int x4)]) hx hb dX8_meanOf_55 hl (by decide) rfl (fun ls hl => ?_)
  refine lv_iload hx hb dX8_meanOf_57 (lv_at hl 0 rfl) ?_
  refine lv_if_eq (tgt := 89) hx hb dX8_meanOf_59 (by decide) (fun c4 => ?_) (fun c4 => ?_)
  · rw [if_pos c4] at hf
    refine lv_iload_n hx hb dX8_meanOf_89 rfl (lv_at hl 4 rfl) ?_
    refine lv_istore_n (lv' := [(3, .int x3), (5, .int xt0), (0, .ref (ad 0)), (1, .int x1), (2, .int x2), (4, .int x4)]) hx hb dX8_meanOf_90 rfl hl (by decide) rfl (fun ls hl => ?_)
    refine lv_iinc (v := (x4 + (1 : Int32))) (lv' := [(4, .int (x4 + (1 : Int32))), (3, .int x3), (5, .int xt0), (0, .ref (ad 0)), (1, .int x1), (2, .int x2)]) hx hb dX8_meanOf_91 hl (k := 5) rfl rfl (by decide) rfl (fun ls hl => ?_)
    refine lv_goto (tgt := 6) hx hb dX8_meanOf_94 (by decide) ?_
    exact hkb _ _ _ _ _ _ _ ls hf  hP hS (lv_sub hl [3, 4, 5, 1, 0] rfl)
  · rw [if_neg c4] at hf
    refine lv_iload_n hx hb dX8_meanOf_62 rfl (lv_at hl 4 rfl) ?_
    refine lv_bipush (v := (-9 : Int32)) hx hb dX8_meanOf_63 (by decide) ?_
    refine lv_icmp_eq (tgt := 84) hx hb dX8_meanOf_65 (by decide) (fun c5 => ?_) (fun c5 => ?_)
    · rw [if_pos c5] at hf
      refine lv_iload hx hb dX8_meanOf_84 (lv_at hl 5 rfl) ?_
      refine lv_goto (tgt := 90) hx hb dX8_meanOf_86 (by decide) ?_
      refine lv_istore_n (lv' := [(3, .int x4), (5, .int xt0), (0, .ref (ad 0)), (1, .int x1), (2, .int x2), (4, .int x4)]) hx hb dX8_meanOf_90 rfl hl (by decide) rfl (fun ls hl => ?_)
      refine lv_iinc (v := (x4 + (1 : Int32))) (lv' := [(4, .int (x4 + (1 : Int32))), (3, .int x4), (5, .int xt0), (0, .ref (ad 0)), (1, .int x1), (2, .int x2)]) hx hb dX8_meanOf_91 hl (k := 5) rfl rfl (by decide) rfl (fun ls hl => ?_)
      refine lv_goto (tgt := 6) hx hb dX8_meanOf_94 (by decide) ?_
      exact hkb _ _ _ _ _ _ _ ls hf  hP hS (lv_sub hl [3, 4, 5, 1, 0] rfl)
    · rw [if_neg c5] at hf
      refine lv_aload_n hx hb dX8_meanOf_68 rfl (lv_at hl 1 rfl) ?_
      refine g_M_days X hP  tw_92 dX8_meanOf_69 ?_
      refine lv_iload hx hb dX8_meanOf_72 (lv_at hl 5 rfl) ?_
      obtain ⟨g6, hf⟩ := grd_some hf
      refine r_m_days X hP  g6 dX8_meanOf_74 ?_
      refine lv_aload_n hx hb dX8_meanOf_75 rfl (lv_at hl 1 rfl) ?_
      refine g_M_days X hP  tw_92 dX8_meanOf_76 ?_
      refine lv_iload_n hx hb dX8_meanOf_79 rfl (lv_at hl 4 rfl) ?_
      obtain ⟨g7, hf⟩ := grd_some hf
      refine r_m_days X hP  g7 dX8_meanOf_80 ?_
      refine lv_icmp_le (tgt := 89) hx hb dX8_meanOf_81 (by decide) (fun c8 => ?_) (fun c8 => ?_)
      · rw [if_pos c8] at hf
        refine lv_iload_n hx hb dX8_meanOf_89 rfl (lv_at hl 4 rfl) ?_
        refine lv_istore_n (lv' := [(3, .int x3), (5, .int xt0), (0, .ref (ad 0)), (1, .int x1), (2, .int x2), (4, .int x4)]) hx hb dX8_meanOf_90 rfl hl (by decide) rfl (fun ls hl => ?_)
        refine lv_iinc (v := (x4 + (1 : Int32))) (lv' := [(4, .int (x4 + (1 : Int32))), (3, .int x3), (5, .int xt0), (0, .ref (ad 0)), (1, .int x1), (2, .int x2)]) hx hb dX8_meanOf_91 hl (k := 5) rfl rfl (by decide) rfl (fun ls hl => ?_)
        refine lv_goto (tgt := 6) hx hb dX8_meanOf_94 (by decide) ?_
        exact hkb _ _ _ _ _ _ _ ls hf  hP hS (lv_sub hl [3, 4, 5, 1, 0] rfl)
      · rw [if_neg c8] at hf
        refine lv_iload hx hb dX8_meanOf_84 (lv_at hl 5 rfl) ?_
        refine lv_goto (tgt := 90) hx hb dX8_meanOf_86 (by decide) ?_
        refine lv_istore_n (lv' := [(3, .int x4), (5, .int xt0), (0, .ref (ad 0)), (1, .int x1), (2, .int x2), (4, .int x4)]) hx hb dX8_meanOf_90 rfl hl (by decide) rfl (fun ls hl => ?_)
        refine lv_iinc (v := (x4 + (1 : Int32))) (lv' := [(4, .int (x4 + (1 : Int32))), (3, .int x4), (5, .int xt0), (0, .ref (ad 0)), (1, .int x1), (2, .int x2)]) hx hb dX8_meanOf_91 hl (k := 5) rfl rfl (by decide) rfl (fun ls hl => ?_)
        refine lv_goto (tgt := 6) hx hb dX8_meanOf_94 (by decide) ?_
        exact hkb _ _ _ _ _ _ _ ls hf  hP hS (lv_sub hl [3, 4, 5, 1, 0] rfl)
set_option maxHeartbeats 4000000 in
set_option maxRecDepth 100000 in
theorem vj_X8_meanOf_54_6 (X : Cx D cI cP cB cA 19 ad tL tC p s m c cX8_meanOf 6 args RX8) (hr : meth.sig.returnType = (some .int)) (hlk : meth.locks = false) {res : Int32 × Stt} (kb : Int32 → Int32 → Int32 → Int32 → Stt → Option (Int32 × Stt)) (ke : Int32 → Stt → Option (Int32 × Stt)) (hkb : ∀ (x1 : Int32) (x2 : Int32) (x3 : Int32) (x4 : Int32) (S : Stt) (H : Heap) (locs : List Loc) (ls : Array Slot), kb x1 x2 x3 x4 S = some res → va_P D vwCl (wl 19 ad (cfM ad cI S)) H → va_S (Ar 19 ad) s.heap H locs → lv_has ls 6 [(0, .ref (ad 0)), (1, .int x1), (2, .int x2), (3, .int x3), (4, .int x4)] → W p l e (rmD 4) s m args below meth c H locs 0 0 (MQ below (QI D 19 ad res.1 (cfM ad cI res.2)) args s 0 0 (Ar 19 ad)) (F0 m 6 ls [])) (hke : ∀ (x3 : Int32) (S : Stt) (H : Heap) (locs : List Loc) (ls : Array Slot), ke x3 S = some res → va_P D vwCl (wl 19 ad (cfM ad cI S)) H → va_S (Ar 19 ad) s.heap H locs → lv_has ls 6 [(0, .ref (ad 0)), (3, .int x3)] → W p l e (rmD 4) s m args below meth c H locs 0 0 (MQ below (QI D 19 ad res.1 (cfM ad cI res.2)) args s 0 0 (Ar 19 ad)) (F0 m 97 ls [])) : ∀ (x1 : Int32) (x2 : Int32) (x3 : Int32) (x4 : Int32) (S : Stt) (H : Heap) (locs : List Loc) (ls : Array Slot), fj_X8_meanOf_54_6 kb ke x1 x2 x3 x4 S = some res → va_P D vwCl (wl 19 ad (cfM ad cI S)) H → va_S (Ar 19 ad) s.heap H locs → lv_has ls 6 [(0, .ref (ad 0)), (1, .int x1), (2, .int x2), (3, .int x3), (4, .int x4)] → W p l e (rmD 4) s m args below meth c H locs 0 0 (MQ below (QI D 19 ad res.1 (cfM ad cI res.2)) args s 0 0 (Ar 19 ad)) (F0 m 54 ls []) := by
  intro x1 x2 x3 x4 S H locs ls hf hP hS hl
  have hx := X.1.1
  have hb := X.1.2.1
  unfold fj_X8_meanOf_54_6 at hf
  refine lv_iconst (v := (0 : Int32)) hx hb dX8_meanOf_54 (by decide) ?_
  exact vj_X8_meanOf_55_6 X hr hlk _ _ hkb hke _ _ _ _ _ _ _ _ ls hf  hP hS (lv_sub hl [0, 1, 2, 3, 4] rfl)
set_option maxHeartbeats 4000000 in
set_option maxRecDepth 100000 in
theorem vb_X8_meanOf_6 (X : Cx D cI cP cB cA 19 ad tL tC p s m c cX8_meanOf 6 args RX8) (hr : meth.sig.returnType = (some .int)) (hlk : meth.locks = false) {res : Int32 × Stt} (kb : Int32 → Int32 → Int32 → Int32 → Stt → Option (Int32 × Stt)) (ke : Int32 → Stt → Option (Int32 × Stt)) (hkb : ∀ (x1 : Int32) (x2 : Int32) (x3 : Int32) (x4 : Int32) (S : Stt) (H : Heap) (locs : List Loc) (ls : Array Slot), kb x1 x2 x3 x4 S = some res → va_P D vwCl (wl 19 ad (cfM ad cI S)) H → va_S (Ar 19 ad) s.heap H locs → lv_has ls 6 [(0, .ref (ad 0)), (1, .int x1), (2, .int x2), (3, .int x3), (4, .int x4)] → W p l e (rmD 4) s m args below meth c H locs 0 0 (MQ below (QI D 19 ad res.1 (cfM ad cI res.2)) args s 0 0 (Ar 19 ad)) (F0 m 6 ls [])) (hke : ∀ (x3 : Int32) (S : Stt) (H : Heap) (locs : List Loc) (ls : Array Slot), ke x3 S = some res → va_P D vwCl (wl 19 ad (cfM ad cI S)) H → va_S (Ar 19 ad) s.heap H locs → lv_has ls 6 [(0, .ref (ad 0)), (3, .int x3)] → W p l e (rmD 4) s m args below meth c H locs 0 0 (MQ below (QI D 19 ad res.1 (cfM ad cI res.2)) args s 0 0 (Ar 19 ad)) (F0 m 97 ls [])) : ∀ (x1 : Int32) (x2 : Int32) (x3 : Int32) (x4 : Int32) (S : Stt) (H : Heap) (locs : List Loc) (ls : Array Slot), fb_X8_meanOf_6 kb ke x1 x2 x3 x4 S = some res → va_P D vwCl (wl 19 ad (cfM ad cI S)) H → va_S (Ar 19 ad) s.heap H locs → lv_has ls 6 [(0, .ref (ad 0)), (1, .int x1), (2, .int x2), (3, .int x3), (4, .int x4)] → W p l e (rmD 4) s m args below meth c H locs 0 0 (MQ below (QI D 19 ad res.1 (cfM ad cI res.2)) args s 0 0 (Ar 19 ad)) (F0 m 6 ls []) := by
  intro x1 x2 x3 x4 S H locs ls hf hP hS hl
  have hx := X.1.1
  have hb := X.1.2.1
  unfold fb_X8_meanOf_6 at hf
  refine lv_iload hx hb dX8_meanOf_6 (lv_at hl 4 rfl) ?_
  refine lv_aload_n hx hb dX8_meanOf_8 rfl (lv_at hl 0 rfl) ?_
  refine g_M_many X hP  tw_86 dX8_meanOf_9 ?_
  refine lv_icmp_ge (tgt := 97) hx hb dX8_meanOf_12 (by decide) (fun c1 => ?_) (fun c1 => ?_)
  · rw [if_pos c1] at hf
    exact hke _ _ _ _ ls hf  hP hS (lv_sub hl [0, 3] rfl)
  · rw [if_neg c1] at hf
    refine lv_aload_n hx hb dX8_meanOf_15 rfl (lv_at hl 0 rfl) ?_
    refine g_M_kinds X hP  tw_87 dX8_meanOf_16 ?_
    refine lv_iload hx hb dX8_meanOf_19 (lv_at hl 4 rfl) ?_
    obtain ⟨g2, hf⟩ := grd_some hf
    refine r_m_kinds X hP  g2 dX8_meanOf_21 ?_
    refine lv_iconst (v := (3 : Int32)) hx hb dX8_meanOf_22 (by decide) ?_
    refine lv_icmp_ne (tgt := 54) hx hb dX8_meanOf_23 (by decide) (fun c3 => ?_) (fun c3 => ?_)
    · rw [if_neg c3] at hf
      exact vj_X8_meanOf_54_6 X hr hlk _ _ hkb hke _ _ _ _ _ _ _ ls hf  hP hS (lv_sub hl [0, 1, 2, 3, 4] rfl)
    · rw [if_pos c3] at hf
      refine lv_aload_n hx hb dX8_meanOf_26 rfl (lv_at hl 0 rfl) ?_
      refine g_M_words X hP  tw_89 dX8_meanOf_27 ?_
      refine lv_iload hx hb dX8_meanOf_30 (lv_at hl 4 rfl) ?_
      obtain ⟨g9, hf⟩ := grd_some hf
      refine r_m_words X hP  g9 dX8_meanOf_32 ?_
      refine lv_iload_n hx hb dX8_meanOf_33 rfl (lv_at hl 1 rfl) ?_
      obtain ⟨q10, e11, hf⟩ := bind_some hf
      refine aftI hS (cS (rest := []) X hP hS [.int (S.1 9 0 x4.toNatClampNeg), .int x1] (m_X8_has  e11) cw_X8_has tw_333 tw_590 (fits9 (by first | decide | omega) (by decide)) rfl rfl hl.1 (Nat.le_of_ble_eq_true rfl) dX8_meanOf_34 ⟨Nat.zero_le _, Nat.zero_le _⟩) (fun H locs hP hS => ?_)
      refine lv_if_eq (tgt := 54) hx hb dX8_meanOf_37 (by decide) (fun c12 => ?_) (fun c12 => ?_)
      · rw [if_pos c12] at hf
        exact vj_X8_meanOf_54_6 X hr hlk _ _ hkb hke _ _ _ _ _ _ _ ls hf  hP hS (lv_sub hl [0, 1, 2, 3, 4] rfl)
      · rw [if_neg c12] at hf
        refine lv_aload_n hx hb dX8_meanOf_40 rfl (lv_at hl 0 rfl) ?_
        refine lv_iload hx hb dX8_meanOf_41 (lv_at hl 4 rfl) ?_
        refine lv_iload_n hx hb dX8_meanOf_43 rfl (lv_at hl 2 rfl) ?_
        obtain ⟨q13, e14, hf⟩ := bind_some hf
        refine aftI hS (cV (rest := []) X hP hS [.int x4, .int x2] (m_X8_doesBind  e14) cw_X8_doesBind tw_319 tw_576 tw_787 (by decide) (cf_M ) rfl (fits9 (by first | decide | omega) (by decide)) rfl rfl hl.1 (Nat.le_of_ble_eq_true rfl) dX8_meanOf_44 ⟨Nat.zero_le _, Nat.zero_le _⟩) (fun H locs hP hS => ?_)
        refine lv_if_eq (tgt := 54) hx hb dX8_meanOf_47 (by decide) (fun c15 => ?_) (fun c15 => ?_)
        · rw [if_pos c15] at hf
          exact vj_X8_meanOf_54_6 X hr hlk _ _ hkb hke _ _ _ _ _ _ _ ls hf  hP hS (lv_sub hl [0, 1, 2, 3, 4] rfl)
        · rw [if_neg c15] at hf
          refine lv_iconst (v := (1 : Int32)) hx hb dX8_meanOf_50 (by decide) ?_
          refine lv_goto (tgt := 55) hx hb dX8_meanOf_51 (by decide) ?_
          exact vj_X8_meanOf_55_6 X hr hlk _ _ hkb hke _ _ _ _ _ _ _ _ ls hf  hP hS (lv_sub hl [0, 1, 2, 3, 4] rfl)
set_option maxHeartbeats 4000000 in
set_option maxRecDepth 100000 in
theorem vl_X8_meanOf_6 (X : Cx D cI cP cB cA 19 ad tL tC p s m c cX8_meanOf 6 args RX8) (hr : meth.sig.returnType = (some .int)) (hlk : meth.locks = false) {res : Int32 × Stt} (ke : Int32 → Stt → Option (Int32 × Stt)) (hke : ∀ (x3 : Int32) (S : Stt) (H : Heap) (locs : List Loc) (ls : Array Slot), ke x3 S = some res → va_P D vwCl (wl 19 ad (cfM ad cI S)) H → va_S (Ar 19 ad) s.heap H locs → lv_has ls 6 [(0, .ref (ad 0)), (3, .int x3)] → W p l e (rmD 4) s m args below meth c H locs 0 0 (MQ below (QI D 19 ad res.1 (cfM ad cI res.2)) args s 0 0 (Ar 19 ad)) (F0 m 97 ls [])) : ∀ (n : Nat), ∀ (x1 : Int32) (x2 : Int32) (x3 : Int32) (x4 : Int32) (S : Stt) (H : Heap) (locs : List Loc) (ls : Array Slot), fl_X8_meanOf_6 ke n x1 x2 x3 x4 S = some res → va_P D vwCl (wl 19 ad (cfM ad cI S)) H → va_S (Ar 19 ad) s.heap H locs → lv_has ls 6 [(0, .ref (ad 0)), (1, .int x1), (2, .int x2), (3, .int x3), (4, .int x4)] → W p l e (rmD 4) s m args below meth c H locs 0 0 (MQ below (QI D 19 ad res.1 (cfM ad cI res.2)) args s 0 0 (Ar 19 ad)) (F0 m 6 ls []) := by
  intro n
  induction n with
  | zero =>
    intro x1 x2 x3 x4 S H locs ls hf hP hS hl
    cases hf
  | succ n ih =>
    intro x1 x2 x3 x4 S H locs ls hf hP hS hl
    exact vb_X8_meanOf_6 X hr hlk _ ke ih hke x1 x2 x3 x4 S H locs ls hf  hP hS hl
end
set_option maxHeartbeats 4000000 in
set_option maxRecDepth 100000 in
theorem m_X8_meanOf {l : Launch} {D : va_G} {cI cP cB cA : ClassId} {ad : Nat → Nat} {tL tC : Nat} {x1 : Int32} {x2 : Int32} {S : Stt} {res : Int32 × Stt} (hf : f_X8_meanOf x1 x2 S = some res) : Ct l D cI cP cB cA 19 ad tL tC yX8_meanOf cX8_meanOf 6 (some .int) 4 [.ref (ad 0), .int x1, .int x2] (cfM ad cI S) (QI D 19 ad res.1 (cfM ad cI res.2)) := by
  refine ctOf (by decide) (Nat.le_of_ble_eq_true rfl) ?_
  intro p e s m args below meth c ls X hr hlk hP hl
  have hS : va_S (Ar 19 ad) s.heap s.heap [] := va_S.rf
  have hx := X.1.1
  have hb := X.1.2.1
  have hl : lv_has ls 6 [(0, .ref (ad 0)), (1, .int x1), (2, .int x2)] := hl
  unfold f_X8_meanOf at hf
  refine lv_bipush (v := (-9 : Int32)) hx hb dX8_meanOf_0 (by decide) ?_
  refine lv_istore_n (lv' := [(3, .int (-9 : Int32)), (0, .ref (ad 0)), (1, .int x1), (2, .int x2)]) hx hb dX8_meanOf_2 rfl hl (by decide) rfl (fun ls hl => ?_)
  refine lv_iconst (v := (0 : Int32)) hx hb dX8_meanOf_3 (by decide) ?_
  refine lv_istore (lv' := [(4, .int (0 : Int32)), (3, .int (-9 : Int32)), (0, .ref (ad 0)), (1, .int x1), (2, .int x2)]) hx hb dX8_meanOf_4 hl (by decide) rfl (fun ls hl => ?_)
  refine vl_X8_meanOf_6 X hr hlk _ ?_ 300 _ _ _ _ _ _ _ ls hf  hP hS (lv_sub hl [2, 3, 4, 1, 0] rfl)
  intro x3 S H locs ls hf hP hS hl
  refine lv_iload_n hx hb dX8_meanOf_97 rfl (lv_at hl 1 rfl) ?_
  refine lv_bipush (v := (-9 : Int32)) hx hb dX8_meanOf_98 (by decide) ?_
  refine lv_icmp_ne (tgt := 108) hx hb dX8_meanOf_100 (by decide) (fun c16 => ?_) (fun c16 => ?_)
  · rw [if_neg c16] at hf
    refine lv_iconst (v := (1 : Int32)) hx hb dX8_meanOf_108 (by decide) ?_
    refine lv_aload_n hx hb dX8_meanOf_109 rfl (lv_at hl 0 rfl) ?_
    refine g_M_facts X hP  tw_91 dX8_meanOf_110 ?_
    refine lv_iload_n hx hb dX8_meanOf_113 rfl (lv_at hl 1 rfl) ?_
    obtain ⟨g17, hf⟩ := grd_some hf
    refine r_m_facts X hP  g17 dX8_meanOf_114 ?_
    refine lv_ishl hx hb dX8_meanOf_115 ?_
    cases hf
    exact rtI X hr hlk hP hS dX8_meanOf_116
  · rw [if_pos c16] at hf
    refine lv_bipush (v := (31 : Int32)) hx hb dX8_meanOf_103 (by decide) ?_
    refine lv_goto (tgt := 116) hx hb dX8_meanOf_105 (by decide) ?_
    cases hf
    exact rtI X hr hlk hP hS dX8_meanOf_116
/-! X8_never -/
section
variable {p : Program} {l : Launch} {e : Env} {s : State} {m : MethodId} {args : Array Value} {below : List Frame} {meth : Method} {c : Code}
variable {D : va_G} {cI cP cB cA : ClassId} {ad : Nat → Nat} {tL tC : Nat}
set_option maxHeartbeats 4000000 in
set_option maxRecDepth 100000 in
theorem vb_X8_never_20 (X : Cx D cI cP cB cA 19 ad tL tC p s m c cX8_never 6 args RX8) (hr : meth.sig.returnType = (some .int)) (hlk : meth.locks = false) {res : Int32 × Stt} (kb : Int32 → Int32 → Int32 → Int32 → Int32 → Stt → Option (Int32 × Stt)) (ke : Int32 → Int32 → Int32 → Int32 → Stt → Option (Int32 × Stt)) (hkb : ∀ (x1 : Int32) (x2 : Int32) (x3 : Int32) (x4 : Int32) (x5 : Int32) (S : Stt) (H : Heap) (locs : List Loc) (ls : Array Slot), kb x1 x2 x3 x4 x5 S = some res → va_P D vwCl (wl 19 ad (cfM ad cI S)) H → va_S (Ar 19 ad) s.heap H locs → lv_has ls 6 [(0, .ref (ad 0)), (1, .int x1), (2, .int x2), (3, .int x3), (4, .int x4), (5, .int x5)] → W p l e (rmD 4) s m args below meth c H locs 0 0 (MQ below (QI D 19 ad res.1 (cfM ad cI res.2)) args s 0 0 (Ar 19 ad)) (F0 m 20 ls [])) (hke : ∀ (x1 : Int32) (x2 : Int32) (x3 : Int32) (x4 : Int32) (S : Stt) (H : Heap) (locs : List Loc) (ls : Array Slot), ke x1 x2 x3 x4 S = some res → va_P D vwCl (wl 19 ad (cfM ad cI S)) H → va_S (Ar 19 ad) s.heap H locs → lv_has ls 6 [(0, .ref (ad 0)), (1, .int x1), (2, .int x2), (3, .int x3), (4, .int x4)] → W p l e (rmD 4) s m args below meth c H locs 0 0 (MQ below (QI D 19 ad res.1 (cfM ad cI res.2)) args s 0 0 (Ar 19 ad)) (F0 m 55 ls [])) : ∀ (x1 : Int32) (x2 : Int32) (x3 : Int32) (x4 : Int32) (x5 : Int32) (S : Stt) (H : Heap) (locs : List Loc) (ls : Array Slot), fb_X8_never_20 kb ke x1 x2 x3 x4 x5 S = some res → va_P D vwCl (wl 19 ad (cfM ad cI S)) H → va_S (Ar 19 ad) s.heap H locs → lv_has ls 6 [(0, .ref (ad 0)), (1, .int x1), (2, .int x2), (3, .int x3), (4, .int x4), (5, .int x5)] → W p l e (rmD 4) s m args below meth c H locs 0 0 (MQ below (QI D 19 ad res.1 (cfM ad cI res.2)) args s 0 0 (Ar 19 ad)) (F0 m 20 ls []) := by
  intro x1 x2 x3 x4 x5 S H locs ls hf hP hS hl
  have hx := X.1.1
  have hb := X.1.2.1
  unfold fb_X8_never_20 at hf
  refine lv_iload hx hb dX8_never_20 (lv_at hl 5 rfl) ?_
  refine lv_bipush (v := (20 : Int32)) hx hb dX8_never_22 (by decide) ?_
  refine lv_icmp_gt (tgt := 55) hx hb dX8_never_24 (by decide) (fun c2 => ?_) (fun c2 => ?_)
  · rw [if_pos c2] at hf
    exact hke _ _ _ _ _ _ _ ls hf  hP hS (lv_sub hl [0, 1, 2, 3, 4] rfl)
  · rw [if_neg c2] at hf
    refine lv_iload hx hb dX8_never_27 (lv_at hl 4 rfl) ?_
    refine lv_if_ne (tgt := 42) hx hb dX8_never_29 (by decide) (fun c3 => ?_) (fun c3 => ?_)
    · rw [if_neg c3] at hf
      refine lv_iconst (v := (1 : Int32)) hx hb dX8_never_42 (by decide) ?_
      refine lv_goto (tgt := 47) hx hb dX8_never_43 (by decide) ?_
      refine lv_istore (lv' := [(4, .int (1 : Int32)), (0, .ref (ad 0)), (1, .int x1), (2, .int x2), (3, .int x3), (5, .int x5)]) hx hb dX8_never_47 hl (by decide) rfl (fun ls hl => ?_)
      refine lv_iinc (v := (x5 + (1 : Int32))) (lv' := [(5, .int (x5 + (1 : Int32))), (4, .int (1 : Int32)), (0, .ref (ad 0)), (1, .int x1), (2, .int x2), (3, .int x3)]) hx hb dX8_never_49 hl (k := 5) rfl rfl (by decide) rfl (fun ls hl => ?_)
      refine lv_goto (tgt := 20) hx hb dX8_never_52 (by decide) ?_
      exact hkb _ _ _ _ _ _ _ _ ls hf  hP hS (lv_sub hl [2, 3, 4, 5, 1, 0] rfl)
    · rw [if_pos c3] at hf
      refine lv_aload_n hx hb dX8_never_32 rfl (lv_at hl 0 rfl) ?_
      refine lv_iload_n hx hb dX8_never_33 rfl (lv_at hl 3 rfl) ?_
      refine lv_iload hx hb dX8_never_34 (lv_at hl 5 rfl) ?_
      obtain ⟨q4, e5, hf⟩ := bind_some hf
      refine aftI hS (cV (rest := []) X hP hS [.int x3, .int x5] (m_X8_doesBind  e5) cw_X8_doesBind tw_319 tw_576 tw_787 (by decide) (cf_M ) rfl (fits9 (by first | decide | omega) (by decide)) rfl rfl hl.1 (Nat.le_of_ble_eq_true rfl) dX8_never_36 ⟨Nat.zero_le _, Nat.zero_le _⟩) (fun H locs hP hS => ?_)
      refine lv_if_eq (tgt := 46) hx hb dX8_never_39 (by decide) (fun c6 => ?_) (fun c6 => ?_)
      · rw [if_pos c6] at hf
        refine lv_iconst (v := (0 : Int32)) hx hb dX8_never_46 (by decide) ?_
        refine lv_istore (lv' := [(4, .int (0 : Int32)), (0, .ref (ad 0)), (1, .int x1), (2, .int x2), (3, .int x3), (5, .int x5)]) hx hb dX8_never_47 hl (by decide) rfl (fun ls hl => ?_)
        refine lv_iinc (v := (x5 + (1 : Int32))) (lv' := [(5, .int (x5 + (1 : Int32))), (4, .int (0 : Int32)), (0, .ref (ad 0)), (1, .int x1), (2, .int x2), (3, .int x3)]) hx hb dX8_never_49 hl (k := 5) rfl rfl (by decide) rfl (fun ls hl => ?_)
        refine lv_goto (tgt := 20) hx hb dX8_never_52 (by decide) ?_
        exact hkb _ _ _ _ _ _ _ _ ls hf  hP hS (lv_sub hl [2, 3, 4, 5, 1, 0] rfl)
      · rw [if_neg c6] at hf
        refine lv_iconst (v := (1 : Int32)) hx hb dX8_never_42 (by decide) ?_
        refine lv_goto (tgt := 47) hx hb dX8_never_43 (by decide) ?_
        refine lv_istore (lv' := [(4, .int (1 : Int32)), (0, .ref (ad 0)), (1, .int x1), (2, .int x2), (3, .int x3), (5, .int x5)]) hx hb dX8_never_47 hl (by decide) rfl (fun ls hl => ?_)
        refine lv_iinc (v := (x5 + (1 : Int32))) (lv' := [(5, .int (x5 + (1 : Int32))), (4, .int (1 : Int32)), (0, .ref (ad 0)), (1, .int x1), (2, .int x2), (3, .int x3)]) hx hb dX8_never_49 hl (k := 5) rfl rfl (by decide) rfl (fun ls hl => ?_)
        refine lv_goto (tgt := 20) hx hb dX8_never_52 (by decide) ?_
        exact hkb _ _ _ _ _ _ _ _ ls hf  hP hS (lv_sub hl [2, 3, 4, 5, 1, 0] rfl)
set_option maxHeartbeats 4000000 in
set_option maxRecDepth 100000 in
theorem vl_X8_never_20 (X : Cx D cI cP cB cA 19 ad tL tC p s m c cX8_never 6 args RX8) (hr : meth.sig.returnType = (some .int)) (hlk : meth.locks = false) {res : Int32 × Stt} (ke : Int32 → Int32 → Int32 → Int32 → Stt → Option (Int32 × Stt)) (hke : ∀ (x1 : Int32) (x2 : Int32) (x3 : Int32) (x4 : Int32) (S : Stt) (H : Heap) (locs : List Loc) (ls : Array Slot), ke x1 x2 x3 x4 S = some res → va_P D vwCl (wl 19 ad (cfM ad cI S)) H → va_S (Ar 19 ad) s.heap H locs → lv_has ls 6 [(0, .ref (ad 0)), (1, .int x1), (2, .int x2), (3, .int x3), (4, .int x4)] → W p l e (rmD 4) s m args below meth c H locs 0 0 (MQ below (QI D 19 ad res.1 (cfM ad cI res.2)) args s 0 0 (Ar 19 ad)) (F0 m 55 ls [])) : ∀ (n : Nat), ∀ (x1 : Int32) (x2 : Int32) (x3 : Int32) (x4 : Int32) (x5 : Int32) (S : Stt) (H : Heap) (locs : List Loc) (ls : Array Slot), fl_X8_never_20 ke n x1 x2 x3 x4 x5 S = some res → va_P D vwCl (wl 19 ad (cfM ad cI S)) H → va_S (Ar 19 ad) s.heap H locs → lv_has ls 6 [(0, .ref (ad 0)), (1, .int x1), (2, .int x2), (3, .int x3), (4, .int x4), (5, .int x5)] → W p l e (rmD 4) s m args below meth c H locs 0 0 (MQ below (QI D 19 ad res.1 (cfM ad cI res.2)) args s 0 0 (Ar 19 ad)) (F0 m 20 ls []) := by
  intro n
  induction n with
  | zero =>
    intro x1 x2 x3 x4 x5 S H locs ls hf hP hS hl
    cases hf
  | succ n ih =>
    intro x1 x2 x3 x4 x5 S H locs ls hf hP hS hl
    exact vb_X8_never_20 X hr hlk _ ke ih hke x1 x2 x3 x4 x5 S H locs ls hf  hP hS hl
set_option maxHeartbeats 4000000 in
set_option maxRecDepth 100000 in
theorem vj_X8_never_68_6 (X : Cx D cI cP cB cA 19 ad tL tC p s m c cX8_never 6 args RX8) (hr : meth.sig.returnType = (some .int)) (hlk : meth.locks = false) {res : Int32 × Stt} (kb : Int32 → Int32 → Int32 → Stt → Option (Int32 × Stt)) (ke : Int32 → Int32 → Stt → Option (Int32 × Stt)) (hkb : ∀ (x1 : Int32) (x2 : Int32) (x3 : Int32) (S : Stt) (H : Heap) (locs : List Loc) (ls : Array Slot), kb x1 x2 x3 S = some res → va_P D vwCl (wl 19 ad (cfM ad cI S)) H → va_S (Ar 19 ad) s.heap H locs → lv_has ls 6 [(0, .ref (ad 0)), (1, .int x1), (2, .int x2), (3, .int x3)] → W p l e (rmD 4) s m args below meth c H locs 0 0 (MQ below (QI D 19 ad res.1 (cfM ad cI res.2)) args s 0 0 (Ar 19 ad)) (F0 m 6 ls [])) (hke : ∀ (x1 : Int32) (x2 : Int32) (S : Stt) (H : Heap) (locs : List Loc) (ls : Array Slot), ke x1 x2 S = some res → va_P D vwCl (wl 19 ad (cfM ad cI S)) H → va_S (Ar 19 ad) s.heap H locs → lv_has ls 6 [(0, .ref (ad 0)), (1, .int x1), (2, .int x2)] → W p l e (rmD 4) s m args below meth c H locs 0 0 (MQ below (QI D 19 ad res.1 (cfM ad cI res.2)) args s 0 0 (Ar 19 ad)) (F0 m 99 ls [])) : ∀ (x2 : Int32) (x3 : Int32) (x4 : Int32) (xt0 : Int32) (xt1 : Int32) (S : Stt) (H : Heap) (locs : List Loc) (ls : Array Slot), fj_X8_never_68_6 kb ke x2 x3 x4 xt0 xt1 S = some res → va_P D vwCl (wl 19 ad (cfM ad cI S)) H → va_S (Ar 19 ad) s.heap H locs → lv_has ls 6 [(0, .ref (ad 0)), (2, .int x2), (3, .int x3), (4, .int x4)] → W p l e (rmD 4) s m args below meth c H locs 0 0 (MQ below (QI D 19 ad res.1 (cfM ad cI res.2)) args s 0 0 (Ar 19 ad)) (F0 m 68 ls [.int xt1, .int xt0]) := by
  intro x2 x3 x4 xt0 xt1 S H locs ls hf hP hS hl
  have hx := X.1.1
  have hb := X.1.2.1
  unfold fj_X8_never_68_6 at hf
  refine lv_ior hx hb dX8_never_68 ?_
  refine lv_istore_n (lv' := [(1, .int (xt0 ||| xt1)), (0, .ref (ad 0)), (2, .int x2), (3, .int x3), (4, .int x4)]) hx hb dX8_never_69 rfl hl (by decide) rfl (fun ls hl => ?_)
  refine lv_iload_n hx hb dX8_never_70 rfl (lv_at hl 2 rfl) ?_
  refine lv_iload hx hb dX8_never_71 (lv_at hl 4 rfl) ?_
  refine lv_if_ne (tgt := 90) hx hb dX8_never_73 (by decide) (fun c8 => ?_) (fun c8 => ?_)
  · rw [if_neg c8] at hf
    refine lv_iconst (v := (0 : Int32)) hx hb dX8_never_90 (by decide) ?_
    refine lv_ior hx hb dX8_never_91 ?_
    refine lv_istore_n (lv' := [(2, .int (x2 ||| (0 : Int32))), (1, .int (xt0 ||| xt1)), (0, .ref (ad 0)), (3, .int x3), (4, .int x4)]) hx hb dX8_never_92 rfl hl (by decide) rfl (fun ls hl => ?_)
    refine lv_iinc (v := (x3 + (1 : Int32))) (lv' := [(3, .int (x3 + (1 : Int32))), (2, .int (x2 ||| (0 : Int32))), (1, .int (xt0 ||| xt1)), (0, .ref (ad 0)), (4, .int x4)]) hx hb dX8_never_93 hl (k := 3) rfl rfl (by decide) rfl (fun ls hl => ?_)
    refine lv_goto (tgt := 6) hx hb dX8_never_96 (by decide) ?_
    exact hkb _ _ _ _ _ _ ls hf  hP hS (lv_sub hl [3, 2, 1, 0] rfl)
  · rw [if_pos c8] at hf
    refine lv_aload_n hx hb dX8_never_76 rfl (lv_at hl 1 rfl) ?_
    refine lv_iload_n hx hb dX8_never_77 rfl (lv_at hl 3 rfl) ?_
    obtain ⟨q9, e10, hf⟩ := bind_some hf
    refine aftI hS (cV (rest := [.int x2]) X hP hS [.int x3] (m_X8_isInRing  e10) cw_X8_isInRing tw_336 tw_593 tw_802 (by decide) (cf_M ) rfl (fits9 (by first | decide | omega) (by decide)) rfl rfl hl.1 (Nat.le_of_ble_eq_true rfl) dX8_never_78 ⟨Nat.zero_le _, Nat.zero_le _⟩) (fun H locs hP hS => ?_)
    refine lv_if_eq (tgt := 90) hx hb dX8_never_81 (by decide) (fun c11 => ?_) (fun c11 => ?_)
    · rw [if_pos c11] at hf
      refine lv_iconst (v := (0 : Int32)) hx hb dX8_never_90 (by decide) ?_
      refine lv_ior hx hb dX8_never_91 ?_
      refine lv_istore_n (lv' := [(2, .int (x2 ||| (0 : Int32))), (1, .int (xt0 ||| xt1)), (0, .ref (ad 0)), (3, .int x3), (4, .int x4)]) hx hb dX8_never_92 rfl hl (by decide) rfl (fun ls hl => ?_)
      refine lv_iinc (v := (x3 + (1 : Int32))) (lv' := [(3, .int (x3 + (1 : Int32))), (2, .int (x2 ||| (0 : Int32))), (1, .int (xt0 ||| xt1)), (0, .ref (ad 0)), (4, .int x4)]) hx hb dX8_never_93 hl (k := 3) rfl rfl (by decide) rfl (fun ls hl => ?_)
      refine lv_goto (tgt := 6) hx hb dX8_never_96 (by decide) ?_
      exact hkb _ _ _ _ _ _ ls hf  hP hS (lv_sub hl [3, 2, 1, 0] rfl)
    · rw [if_neg c11] at hf
      refine lv_iconst (v := (1 : Int32)) hx hb dX8_never_84 (by decide) ?_
      refine lv_iload_n hx hb dX8_never_85 rfl (lv_at hl 3 rfl) ?_
      refine lv_ishl hx hb dX8_never_86 ?_
      refine lv_goto (tgt := 91) hx hb dX8_never_87 (by decide) ?_
      refine lv_ior hx hb dX8_never_91 ?_
      refine lv_istore_n (lv' := [(2, .int (x2 ||| ((1 : Int32) <<< (x3 &&& 31)))), (1, .int (xt0 ||| xt1)), (0, .ref (ad 0)), (3, .int x3), (4, .int x4)]) hx hb dX8_never_92 rfl hl (by decide) rfl (fun ls hl => ?_)
      refine lv_iinc (v := (x3 + (1 : Int32))) (lv' := [(3, .int (x3 + (1 : Int32))), (2, .int (x2 ||| ((1 : Int32) <<< (x3 &&& 31)))), (1, .int (xt0 ||| xt1)), (0, .ref (ad 0)), (4, .int x4)]) hx hb dX8_never_93 hl (k := 3) rfl rfl (by decide) rfl (fun ls hl => ?_)
      refine lv_goto (tgt := 6) hx hb dX8_never_96 (by decide) ?_
      exact hkb _ _ _ _ _ _ ls hf  hP hS (lv_sub hl [3, 2, 1, 0] rfl)
set_option maxHeartbeats 4000000 in
set_option maxRecDepth 100000 in
theorem vb_X8_never_6 (X : Cx D cI cP cB cA 19 ad tL tC p s m c cX8_never 6 args RX8) (hr : meth.sig.returnType = (some .int)) (hlk : meth.locks = false) {res : Int32 × Stt} (kb : Int32 → Int32 → Int32 → Stt → Option (Int32 × Stt)) (ke : Int32 → Int32 → Stt → Option (Int32 × Stt)) (hkb : ∀ (x1 : Int32) (x2 : Int32) (x3 : Int32) (S : Stt) (H : Heap) (locs : List Loc) (ls : Array Slot), kb x1 x2 x3 S = some res → va_P D vwCl (wl 19 ad (cfM ad cI S)) H → va_S (Ar 19 ad) s.heap H locs → lv_has ls 6 [(0, .ref (ad 0)), (1, .int x1), (2, .int x2), (3, .int x3)] → W p l e (rmD 4) s m args below meth c H locs 0 0 (MQ below (QI D 19 ad res.1 (cfM ad cI res.2)) args s 0 0 (Ar 19 ad)) (F0 m 6 ls [])) (hke : ∀ (x1 : Int32) (x2 : Int32) (S : Stt) (H : Heap) (locs : List Loc) (ls : Array Slot), ke x1 x2 S = some res → va_P D vwCl (wl 19 ad (cfM ad cI S)) H → va_S (Ar 19 ad) s.heap H locs → lv_has ls 6 [(0, .ref (ad 0)), (1, .int x1), (2, .int x2)] → W p l e (rmD 4) s m args below meth c H locs 0 0 (MQ below (QI D 19 ad res.1 (cfM ad cI res.2)) args s 0 0 (Ar 19 ad)) (F0 m 99 ls [])) : ∀ (x1 : Int32) (x2 : Int32) (x3 : Int32) (S : Stt) (H : Heap) (locs : List Loc) (ls : Array Slot), fb_X8_never_6 kb ke x1 x2 x3 S = some res → va_P D vwCl (wl 19 ad (cfM ad cI S)) H → va_S (Ar 19 ad) s.heap H locs → lv_has ls 6 [(0, .ref (ad 0)), (1, .int x1), (2, .int x2), (3, .int x3)] → W p l e (rmD 4) s m args below meth c H locs 0 0 (MQ below (QI D 19 ad res.1 (cfM ad cI res.2)) args s 0 0 (Ar 19 ad)) (F0 m 6 ls []) := by
  intro x1 x2 x3 S H locs ls hf hP hS hl
  have hx := X.1.1
  have hb := X.1.2.1
  unfold fb_X8_never_6 at hf
  refine lv_iload_n hx hb dX8_never_6 rfl (lv_at hl 3 rfl) ?_
  refine lv_aload_n hx hb dX8_never_7 rfl (lv_at hl 0 rfl) ?_
  refine g_M_many X hP  tw_86 dX8_never_8 ?_
  refine lv_icmp_ge (tgt := 99) hx hb dX8_never_11 (by decide) (fun c1 => ?_) (fun c1 => ?_)
  · rw [if_pos c1] at hf
    exact hke _ _ _ _ _ ls hf  hP hS (lv_sub hl [0, 1, 2] rfl)
  · rw [if_neg c1] at hf
    refine lv_iconst (v := (0 : Int32)) hx hb dX8_never_14 (by decide) ?_
    refine lv_istore (lv' := [(4, .int (0 : Int32)), (0, .ref (ad 0)), (1, .int x1), (2, .int x2), (3, .int x3)]) hx hb dX8_never_15 hl (by decide) rfl (fun ls hl => ?_)
    refine lv_iconst (v := (0 : Int32)) hx hb dX8_never_17 (by decide) ?_
    refine lv_istore (lv' := [(5, .int (0 : Int32)), (4, .int (0 : Int32)), (0, .ref (ad 0)), (1, .int x1), (2, .int x2), (3, .int x3)]) hx hb dX8_never_18 hl (by decide) rfl (fun ls hl => ?_)
    refine vl_X8_never_20 X hr hlk _ ?_ 300 _ _ _ _ _ _ _ _ ls hf  hP hS (lv_sub hl [2, 3, 4, 5, 1, 0] rfl)
    intro x1 x2 x3 x4 S H locs ls hf hP hS hl
    refine lv_iload_n hx hb dX8_never_55 rfl (lv_at hl 1 rfl) ?_
    refine lv_iload hx hb dX8_never_56 (lv_at hl 4 rfl) ?_
    refine lv_if_eq (tgt := 65) hx hb dX8_never_58 (by decide) (fun c7 => ?_) (fun c7 => ?_)
    · rw [if_pos c7] at hf
      refine lv_iconst (v := (1 : Int32)) hx hb dX8_never_65 (by decide) ?_
      refine lv_iload_n hx hb dX8_never_66 rfl (lv_at hl 3 rfl) ?_
      refine lv_ishl hx hb dX8_never_67 ?_
      exact vj_X8_never_68_6 X hr hlk _ _ hkb hke _ _ _ _ _ _ _ _ ls hf  hP hS (lv_sub hl [0, 2, 3, 4] rfl)
    · rw [if_neg c7] at hf
      refine lv_iconst (v := (0 : Int32)) hx hb dX8_never_61 (by decide) ?_
      refine lv_goto (tgt := 68) hx hb dX8_never_62 (by decide) ?_
      exact vj_X8_never_68_6 X hr hlk _ _ hkb hke _ _ _ _ _ _ _ _ ls hf  hP hS (lv_sub hl [0, 2, 3, 4] rfl)
set_option maxHeartbeats 4000000 in
set_option maxRecDepth 100000 in
theorem vl_X8_never_6 (X : Cx D cI cP cB cA 19 ad tL tC p s m c cX8_never 6 args RX8) (hr : meth.sig.returnType = (some .int)) (hlk : meth.locks = false) {res : Int32 × Stt} (ke : Int32 → Int32 → Stt → Option (Int32 × Stt)) (hke : ∀ (x1 : Int32) (x2 : Int32) (S : Stt) (H : Heap) (locs : List Loc) (ls : Array Slot), ke x1 x2 S = some res → va_P D vwCl (wl 19 ad (cfM ad cI S)) H → va_S (Ar 19 ad) s.heap H locs → lv_has ls 6 [(0, .ref (ad 0)), (1, .int x1), (2, .int x2)] → W p l e (rmD 4) s m args below meth c H locs 0 0 (MQ below (QI D 19 ad res.1 (cfM ad cI res.2)) args s 0 0 (Ar 19 ad)) (F0 m 99 ls [])) : ∀ (n : Nat), ∀ (x1 : Int32) (x2 : Int32) (x3 : Int32) (S : Stt) (H : Heap) (locs : List Loc) (ls : Array Slot), fl_X8_never_6 ke n x1 x2 x3 S = some res → va_P D vwCl (wl 19 ad (cfM ad cI S)) H → va_S (Ar 19 ad) s.heap H locs → lv_has ls 6 [(0, .ref (ad 0)), (1, .int x1), (2, .int x2), (3, .int x3)] → W p l e (rmD 4) s m args below meth c H locs 0 0 (MQ below (QI D 19 ad res.1 (cfM ad cI res.2)) args s 0 0 (Ar 19 ad)) (F0 m 6 ls []) := by
  intro n
  induction n with
  | zero =>
    intro x1 x2 x3 S H locs ls hf hP hS hl
    cases hf
  | succ n ih =>
    intro x1 x2 x3 S H locs ls hf hP hS hl
    exact vb_X8_never_6 X hr hlk _ ke ih hke x1 x2 x3 S H locs ls hf  hP hS hl
end
set_option maxHeartbeats 4000000 in
set_option maxRecDepth 100000 in
theorem m_X8_never {l : Launch} {D : va_G} {cI cP cB cA : ClassId} {ad : Nat → Nat} {tL tC : Nat} {S : Stt} {res : Int32 × Stt} (hf : f_X8_never  S = some res) : Ct l D cI cP cB cA 19 ad tL tC yX8_never cX8_never 6 (some .int) 4 [.ref (ad 0)] (cfM ad cI S) (QI D 19 ad res.1 (cfM ad cI res.2)) := by
  refine ctOf (by decide) (Nat.le_of_ble_eq_true rfl) ?_
  intro p e s m args below meth c ls X hr hlk hP hl
  have hS : va_S (Ar 19 ad) s.heap s.heap [] := va_S.rf
  have hx := X.1.1
  have hb := X.1.2.1
  have hl : lv_has ls 6 [(0, .ref (ad 0))] := hl
  unfold f_X8_never at hf
  refine lv_iconst (v := (0 : Int32)) hx hb dX8_never_0 (by decide) ?_
  refine lv_istore_n (lv' := [(1, .int (0 : Int32)), (0, .ref (ad 0))]) hx hb dX8_never_1 rfl hl (by decide) rfl (fun ls hl => ?_)
  refine lv_iconst (v := (0 : Int32)) hx hb dX8_never_2 (by decide) ?_
  refine lv_istore_n (lv' := [(2, .int (0 : Int32)), (1, .int (0 : Int32)), (0, .ref (ad 0))]) hx hb dX8_never_3 rfl hl (by decide) rfl (fun ls hl => ?_)
  refine lv_iconst (v := (0 : Int32)) hx hb dX8_never_4 (by decide) ?_
  refine lv_istore_n (lv' := [(3, .int (0 : Int32)), (2, .int (0 : Int32)), (1, .int (0 : Int32)), (0, .ref (ad 0))]) hx hb dX8_never_5 rfl hl (by decide) rfl (fun ls hl => ?_)
  refine vl_X8_never_6 X hr hlk _ ?_ 300 _ _ _ _ _ _ ls hf  hP hS (lv_sub hl [3, 2, 1, 0] rfl)
  intro x1 x2 S H locs ls hf hP hS hl
  refine lv_aload_n hx hb dX8_never_99 rfl (lv_at hl 0 rfl) ?_
  refine lv_iload_n hx hb dX8_never_100 rfl (lv_at hl 2 rfl) ?_
  refine lv_iload_n hx hb dX8_never_101 rfl (lv_at hl 1 rfl) ?_
  obtain ⟨q12, e13, hf⟩ := bind_some hf
  refine aftI hS (cV (rest := []) X hP hS [.int x2, .int x1] (m_X8_ask  e13) cw_X8_ask tw_294 tw_552 tw_763 (by decide) (cf_M ) rfl (fits9 (by first | decide | omega) (by decide)) rfl rfl hl.1 (Nat.le_of_ble_eq_true rfl) dX8_never_102 ⟨Nat.zero_le _, Nat.zero_le _⟩) (fun H locs hP hS => ?_)
  cases hf
  exact rtI X hr hlk hP hS dX8_never_105
/-! X8_put -/
section
variable {p : Program} {l : Launch} {e : Env} {s : State} {m : MethodId} {args : Array Value} {below : List Frame} {meth : Method} {c : Code}
variable {D : va_G} {cI cP cB cA : ClassId} {ad : Nat → Nat} {tL tC : Nat}
end
set_option maxHeartbeats 4000000 in
set_option maxRecDepth 100000 in
theorem m_X8_put {l : Launch} {D : va_G} {cI cP cB cA : ClassId} {ad : Nat → Nat} {tL tC : Nat} {x1 : Int32} {x2 : Int32} {x3 : Int32} {S : Stt} {res : Int32 × Stt} (hf : f_X8_put x1 x2 x3 S = some res) : Ct l D cI cP cB cA 19 ad tL tC yX8_put cX8_put 6 (some .int) 4 [.ref (ad 0), .int x1, .int x2, .int x3] (cfM ad cI S) (QI D 19 ad res.1 (cfM ad cI res.2)) := by
  refine ctOf (by decide) (Nat.le_of_ble_eq_true rfl) ?_
  intro p e s m args below meth c ls X hr hlk hP hl
  have hS : va_S (Ar 19 ad) s.heap s.heap [] := va_S.rf
  have hx := X.1.1
  have hb := X.1.2.1
  have hl : lv_has ls 6 [(0, .ref (ad 0)), (1, .int x1), (2, .int x2), (3, .int x3)] := hl
  unfold f_X8_put at hf
  refine lv_aload_n hx hb dX8_put_0 rfl (lv_at hl 0 rfl) ?_
  refine lv_iload_n hx hb dX8_put_1 rfl (lv_at hl 1 rfl) ?_
  obtain ⟨q1, e2, hf⟩ := bind_some hf
  refine aftI hS (cV (rest := []) X hP hS [.int x1] (m_X8_askedText  e2) cw_X8_askedText tw_303 tw_560 tw_765 (by decide) (cf_M ) rfl (fits9 (by first | decide | omega) (by decide)) rfl rfl hl.1 (Nat.le_of_ble_eq_true rfl) dX8_put_2 ⟨Nat.zero_le _, Nat.zero_le _⟩) (fun H locs hP hS => ?_)
  refine lv_istore (lv' := [(4, .int q1.1), (0, .ref (ad 0)), (1, .int x1), (2, .int x2), (3, .int x3)]) hx hb dX8_put_5 hl (by decide) rfl (fun ls hl => ?_)
  refine lv_iload hx hb dX8_put_7 (lv_at hl 0 rfl) ?_
  refine lv_if_ge (tgt := 15) hx hb dX8_put_9 (by decide) (fun c3 => ?_) (fun c3 => ?_)
  · rw [if_pos c3] at hf
    refine lv_iload_n hx hb dX8_put_15 rfl (lv_at hl 3 rfl) ?_
    refine lv_iconst (v := (0 : Int32)) hx hb dX8_put_16 (by decide) ?_
    refine lv_aload_n hx hb dX8_put_17 rfl (lv_at hl 1 rfl) ?_
    refine g_M_lengths X hP  tw_84 dX8_put_18 ?_
    refine lv_iload_n hx hb dX8_put_21 rfl (lv_at hl 2 rfl) ?_
    obtain ⟨g4, hf⟩ := grd_some hf
    refine r_m_lengths X hP  g4 dX8_put_22 ?_
    refine lv_iconst (v := (1 : Int32)) hx hb dX8_put_23 (by decide) ?_
    refine lv_isub hx hb dX8_put_24 ?_
    obtain ⟨q5, e6, hf⟩ := bind_some hf
    refine aftI hS (cS (rest := []) X hP hS [.int x2, .int (0 : Int32), .int ((q1.2.1 5 0 x1.toNatClampNeg) - (1 : Int32))] (m_X8_in  e6) cw_X8_in tw_288 tw_546 (fits9 (by first | decide | omega) (by decide)) rfl rfl hl.1 (Nat.le_of_ble_eq_true rfl) dX8_put_25 ⟨Nat.zero_le _, Nat.zero_le _⟩) (fun H locs hP hS => ?_)
    refine lv_if_ne (tgt := 37) hx hb dX8_put_28 (by decide) (fun c7 => ?_) (fun c7 => ?_)
    · rw [if_neg c7] at hf
      refine lv_aload_n hx hb dX8_put_37 rfl (lv_at hl 1 rfl) ?_
      refine g_M_texts X hP  tw_85 dX8_put_38 ?_
      refine lv_bipush (v := (80 : Int32)) hx hb dX8_put_41 (by decide) ?_
      refine lv_iload_n hx hb dX8_put_43 rfl (lv_at hl 2 rfl) ?_
      refine lv_imul hx hb dX8_put_44 ?_
      refine lv_iload_n hx hb dX8_put_45 rfl (lv_at hl 3 rfl) ?_
      refine lv_iadd hx hb dX8_put_46 ?_
      obtain ⟨g8, hf⟩ := grd_some hf
      refine r_m_texts X hP  g8 dX8_put_47 ?_
      refine lv_istore (lv' := [(5, .int (q5.2.1 6 0 (((80 : Int32) * x1) + x2).toNatClampNeg)), (4, .int q1.1), (0, .ref (ad 0)), (1, .int x1), (2, .int x2), (3, .int x3)]) hx hb dX8_put_48 hl (by decide) rfl (fun ls hl => ?_)
      refine lv_aload_n hx hb dX8_put_50 rfl (lv_at hl 2 rfl) ?_
      refine g_M_texts X hP  tw_85 dX8_put_51 ?_
      refine lv_bipush (v := (80 : Int32)) hx hb dX8_put_54 (by decide) ?_
      refine lv_iload_n hx hb dX8_put_56 rfl (lv_at hl 3 rfl) ?_
      refine lv_imul hx hb dX8_put_57 ?_
      refine lv_iload_n hx hb dX8_put_58 rfl (lv_at hl 4 rfl) ?_
      refine lv_iadd hx hb dX8_put_59 ?_
      refine lv_iload_n hx hb dX8_put_60 rfl (lv_at hl 5 rfl) ?_
      refine lv_i2b hx hb dX8_put_61 rfl ?_
      obtain ⟨g9, hf⟩ := grd_some hf
      refine w_m_texts X hP hS  g9 dX8_put_62 (fun H locs hP hS => ?_)
      refine lv_iload hx hb dX8_put_63 (lv_at hl 0 rfl) ?_
      refine lv_sipush (v := (1000 : Int32)) hx hb dX8_put_65 (by decide) ?_
      refine lv_iadd hx hb dX8_put_68 ?_
      cases hf
      exact rtI X hr hlk hP hS dX8_put_69
    · rw [if_pos c7] at hf
      refine lv_aload_n hx hb dX8_put_31 rfl (lv_at hl 1 rfl) ?_
      refine lv_iconst (v := (2 : Int32)) hx hb dX8_put_32 (by decide) ?_
      obtain ⟨q10, e11, hf⟩ := bind_some hf
      refine aftI hS (cV (rest := []) X hP hS [.int (2 : Int32)] (m_X8_meet  e11) cw_X8_meet tw_289 tw_547 tw_762 (by decide) (cf_M ) rfl (fits9 (by first | decide | omega) (by decide)) rfl rfl hl.1 (Nat.le_of_ble_eq_true rfl) dX8_put_33 ⟨Nat.zero_le _, Nat.zero_le _⟩) (fun H locs hP hS => ?_)
      cases hf
      exact rtI X hr hlk hP hS dX8_put_36
  · rw [if_neg c3] at hf
    refine lv_iload hx hb dX8_put_12 (lv_at hl 0 rfl) ?_
    cases hf
    exact rtI X hr hlk hP hS dX8_put_14
/-! X8_read -/
section
variable {p : Program} {l : Launch} {e : Env} {s : State} {m : MethodId} {args : Array Value} {below : List Frame} {meth : Method} {c : Code}
variable {D : va_G} {cI cP cB cA : ClassId} {ad : Nat → Nat} {tL tC : Nat}
set_option maxHeartbeats 4000000 in
set_option maxRecDepth 100000 in
theorem vb_X8_read_55 (X : Cx D cI cP cB cA 19 ad tL tC p s m c cX8_read 5 args RX8) (hr : meth.sig.returnType = (some .int)) (hlk : meth.locks = false) {res : Int32 × Stt} (kb : Int32 → Int32 → Int32 → Stt → Option (Int32 × Stt)) (ke : Int32 → Int32 → Stt → Option (Int32 × Stt)) (hkb : ∀ (x1 : Int32) (x3 : Int32) (x4 : Int32) (S : Stt) (H : Heap) (locs : List Loc) (ls : Array Slot), kb x1 x3 x4 S = some res → va_P D vwCl (wl 19 ad (cfM ad cI S)) H → va_S (Ar 19 ad) s.heap H locs → lv_has ls 5 [(0, .ref (ad 0)), (1, .int x1), (3, .int x3), (4, .int x4)] → W p l e (rmD 4) s m args below meth c H locs 0 0 (MQ below (QI D 19 ad res.1 (cfM ad cI res.2)) args s 0 0 (Ar 19 ad)) (F0 m 55 ls [])) (hke : ∀ (x1 : Int32) (x3 : Int32) (S : Stt) (H : Heap) (locs : List Loc) (ls : Array Slot), ke x1 x3 S = some res → va_P D vwCl (wl 19 ad (cfM ad cI S)) H → va_S (Ar 19 ad) s.heap H locs → lv_has ls 5 [(0, .ref (ad 0)), (1, .int x1), (3, .int x3)] → W p l e (rmD 4) s m args below meth c H locs 0 0 (MQ below (QI D 19 ad res.1 (cfM ad cI res.2)) args s 0 0 (Ar 19 ad)) (F0 m 100 ls [])) : ∀ (x1 : Int32) (x3 : Int32) (x4 : Int32) (S : Stt) (H : Heap) (locs : List Loc) (ls : Array Slot), fb_X8_read_55 kb ke x1 x3 x4 S = some res → va_P D vwCl (wl 19 ad (cfM ad cI S)) H → va_S (Ar 19 ad) s.heap H locs → lv_has ls 5 [(0, .ref (ad 0)), (1, .int x1), (3, .int x3), (4, .int x4)] → W p l e (rmD 4) s m args below meth c H locs 0 0 (MQ below (QI D 19 ad res.1 (cfM ad cI res.2)) args s 0 0 (Ar 19 ad)) (F0 m 55 ls []) := by
  intro x1 x3 x4 S H locs ls hf hP hS hl
  have hx := X.1.1
  have hb := X.1.2.1
  unfold fb_X8_read_55 at hf
  refine lv_iload hx hb dX8_read_55 (lv_at hl 3 rfl) ?_
  refine lv_aload_n hx hb dX8_read_57 rfl (lv_at hl 0 rfl) ?_
  refine g_M_many X hP  tw_86 dX8_read_58 ?_
  refine lv_icmp_ge (tgt := 100) hx hb dX8_read_61 (by decide) (fun c10 => ?_) (fun c10 => ?_)
  · rw [if_pos c10] at hf
    exact hke _ _ _ _ _ ls hf  hP hS (lv_sub hl [0, 1, 2] rfl)
  · rw [if_neg c10] at hf
    refine lv_iload_n hx hb dX8_read_64 rfl (lv_at hl 2 rfl) ?_
    refine lv_aload_n hx hb dX8_read_65 rfl (lv_at hl 0 rfl) ?_
    refine lv_aload_n hx hb dX8_read_66 rfl (lv_at hl 0 rfl) ?_
    refine lv_iload_n hx hb dX8_read_67 rfl (lv_at hl 1 rfl) ?_
    refine lv_iload hx hb dX8_read_68 (lv_at hl 3 rfl) ?_
    obtain ⟨q11, e12, hf⟩ := bind_some hf
    refine aftI hS (cV (rest := [.ref (ad 0), .int x3]) X hP hS [.int x1, .int x4] (m_X8_rowAt  e12) cw_X8_rowAt tw_293 tw_551 tw_766 (by decide) (cf_M ) rfl (fits9 (by first | decide | omega) (by decide)) rfl rfl hl.1 (Nat.le_of_ble_eq_true rfl) dX8_read_70 ⟨Nat.zero_le _, Nat.zero_le _⟩) (fun H locs hP hS => ?_)
    obtain ⟨q13, e14, hf⟩ := bind_some hf
    refine aftI hS (cV (rest := [.int x3]) X hP hS [.int q11.1] (m_X8_isPage  e14) cw_X8_isPage tw_314 tw_571 tw_783 (by decide) (cf_M ) rfl (fits9 (by first | decide | omega) (by decide)) rfl rfl hl.1 (Nat.le_of_ble_eq_true rfl) dX8_read_73 ⟨Nat.zero_le _, Nat.zero_le _⟩) (fun H locs hP hS => ?_)
    refine lv_if_eq (tgt := 91) hx hb dX8_read_76 (by decide) (fun c15 => ?_) (fun c15 => ?_)
    · rw [if_pos c15] at hf
      refine lv_iconst (v := (0 : Int32)) hx hb dX8_read_91 (by decide) ?_
      refine lv_ior hx hb dX8_read_92 ?_
      refine lv_istore_n (lv' := [(3, .int (x3 ||| (0 : Int32))), (0, .ref (ad 0)), (1, .int x1), (4, .int x4)]) hx hb dX8_read_93 rfl hl (by decide) rfl (fun ls hl => ?_)
      refine lv_iinc (v := (x4 + (1 : Int32))) (lv' := [(4, .int (x4 + (1 : Int32))), (3, .int (x3 ||| (0 : Int32))), (0, .ref (ad 0)), (1, .int x1)]) hx hb dX8_read_94 hl (k := 3) rfl rfl (by decide) rfl (fun ls hl => ?_)
      refine lv_goto (tgt := 55) hx hb dX8_read_97 (by decide) ?_
      exact hkb _ _ _ _ _ _ ls hf  hP hS (lv_sub hl [2, 3, 1, 0] rfl)
    · rw [if_neg c15] at hf
      refine lv_iconst (v := (1 : Int32)) hx hb dX8_read_79 (by decide) ?_
      refine lv_aload_n hx hb dX8_read_80 rfl (lv_at hl 0 rfl) ?_
      refine lv_iload_n hx hb dX8_read_81 rfl (lv_at hl 1 rfl) ?_
      refine lv_iload hx hb dX8_read_82 (lv_at hl 3 rfl) ?_
      obtain ⟨q16, e17, hf⟩ := bind_some hf
      refine aftI hS (cV (rest := [.int (1 : Int32), .int x3]) X hP hS [.int x1, .int x4] (m_X8_rowAt  e17) cw_X8_rowAt tw_293 tw_551 tw_766 (by decide) (cf_M ) rfl (fits9 (by first | decide | omega) (by decide)) rfl rfl hl.1 (Nat.le_of_ble_eq_true rfl) dX8_read_84 ⟨Nat.zero_le _, Nat.zero_le _⟩) (fun H locs hP hS => ?_)
      refine lv_ishl hx hb dX8_read_87 ?_
      refine lv_goto (tgt := 92) hx hb dX8_read_88 (by decide) ?_
      refine lv_ior hx hb dX8_read_92 ?_
      refine lv_istore_n (lv' := [(3, .int (x3 ||| ((1 : Int32) <<< (q16.1 &&& 31)))), (0, .ref (ad 0)), (1, .int x1), (4, .int x4)]) hx hb dX8_read_93 rfl hl (by decide) rfl (fun ls hl => ?_)
      refine lv_iinc (v := (x4 + (1 : Int32))) (lv' := [(4, .int (x4 + (1 : Int32))), (3, .int (x3 ||| ((1 : Int32) <<< (q16.1 &&& 31)))), (0, .ref (ad 0)), (1, .int x1)]) hx hb dX8_read_94 hl (k := 3) rfl rfl (by decide) rfl (fun ls hl => ?_)
      refine lv_goto (tgt := 55) hx hb dX8_read_97 (by decide) ?_
      exact hkb _ _ _ _ _ _ ls hf  hP hS (lv_sub hl [2, 3, 1, 0] rfl)
set_option maxHeartbeats 4000000 in
set_option maxRecDepth 100000 in
theorem vl_X8_read_55 (X : Cx D cI cP cB cA 19 ad tL tC p s m c cX8_read 5 args RX8) (hr : meth.sig.returnType = (some .int)) (hlk : meth.locks = false) {res : Int32 × Stt} (ke : Int32 → Int32 → Stt → Option (Int32 × Stt)) (hke : ∀ (x1 : Int32) (x3 : Int32) (S : Stt) (H : Heap) (locs : List Loc) (ls : Array Slot), ke x1 x3 S = some res → va_P D vwCl (wl 19 ad (cfM ad cI S)) H → va_S (Ar 19 ad) s.heap H locs → lv_has ls 5 [(0, .ref (ad 0)), (1, .int x1), (3, .int x3)] → W p l e (rmD 4) s m args below meth c H locs 0 0 (MQ below (QI D 19 ad res.1 (cfM ad cI res.2)) args s 0 0 (Ar 19 ad)) (F0 m 100 ls [])) : ∀ (n : Nat), ∀ (x1 : Int32) (x3 : Int32) (x4 : Int32) (S : Stt) (H : Heap) (locs : List Loc) (ls : Array Slot), fl_X8_read_55 ke n x1 x3 x4 S = some res → va_P D vwCl (wl 19 ad (cfM ad cI S)) H → va_S (Ar 19 ad) s.heap H locs → lv_has ls 5 [(0, .ref (ad 0)), (1, .int x1), (3, .int x3), (4, .int x4)] → W p l e (rmD 4) s m args below meth c H locs 0 0 (MQ below (QI D 19 ad res.1 (cfM ad cI res.2)) args s 0 0 (Ar 19 ad)) (F0 m 55 ls []) := by
  intro n
  induction n with
  | zero =>
    intro x1 x3 x4 S H locs ls hf hP hS hl
    cases hf
  | succ n ih =>
    intro x1 x3 x4 S H locs ls hf hP hS hl
    exact vb_X8_read_55 X hr hlk _ ke ih hke x1 x3 x4 S H locs ls hf  hP hS hl
set_option maxHeartbeats 4000000 in
set_option maxRecDepth 100000 in
theorem vb_X8_read_121 (X : Cx D cI cP cB cA 19 ad tL tC p s m c cX8_read 5 args RX8) (hr : meth.sig.returnType = (some .int)) (hlk : meth.locks = false) {res : Int32 × Stt} (kb : Int32 → Int32 → Stt → Option (Int32 × Stt)) (ke : Stt → Option (Int32 × Stt)) (hkb : ∀ (x1 : Int32) (x4 : Int32) (S : Stt) (H : Heap) (locs : List Loc) (ls : Array Slot), kb x1 x4 S = some res → va_P D vwCl (wl 19 ad (cfM ad cI S)) H → va_S (Ar 19 ad) s.heap H locs → lv_has ls 5 [(0, .ref (ad 0)), (1, .int x1), (4, .int x4)] → W p l e (rmD 4) s m args below meth c H locs 0 0 (MQ below (QI D 19 ad res.1 (cfM ad cI res.2)) args s 0 0 (Ar 19 ad)) (F0 m 121 ls [])) (hke : ∀ (S : Stt) (H : Heap) (locs : List Loc) (ls : Array Slot), ke S = some res → va_P D vwCl (wl 19 ad (cfM ad cI S)) H → va_S (Ar 19 ad) s.heap H locs → lv_has ls 5 [] → W p l e (rmD 4) s m args below meth c H locs 0 0 (MQ below (QI D 19 ad res.1 (cfM ad cI res.2)) args s 0 0 (Ar 19 ad)) (F0 m 150 ls [])) : ∀ (x1 : Int32) (x4 : Int32) (S : Stt) (H : Heap) (locs : List Loc) (ls : Array Slot), fb_X8_read_121 kb ke x1 x4 S = some res → va_P D vwCl (wl 19 ad (cfM ad cI S)) H → va_S (Ar 19 ad) s.heap H locs → lv_has ls 5 [(0, .ref (ad 0)), (1, .int x1), (4, .int x4)] → W p l e (rmD 4) s m args below meth c H locs 0 0 (MQ below (QI D 19 ad res.1 (cfM ad cI res.2)) args s 0 0 (Ar 19 ad)) (F0 m 121 ls []) := by
  intro x1 x4 S H locs ls hf hP hS hl
  have hx := X.1.1
  have hb := X.1.2.1
  unfold fb_X8_read_121 at hf
  refine lv_iload hx hb dX8_read_121 (lv_at hl 2 rfl) ?_
  refine lv_aload_n hx hb dX8_read_123 rfl (lv_at hl 0 rfl) ?_
  refine g_M_many X hP  tw_86 dX8_read_124 ?_
  refine lv_icmp_ge (tgt := 150) hx hb dX8_read_127 (by decide) (fun c19 => ?_) (fun c19 => ?_)
  · rw [if_pos c19] at hf
    exact hke  _ _ _ ls hf  hP hS (lv_sub hl [] rfl)
  · rw [if_neg c19] at hf
    refine lv_aload_n hx hb dX8_read_130 rfl (lv_at hl 0 rfl) ?_
    refine g_M_days X hP  tw_92 dX8_read_131 ?_
    refine lv_aload_n hx hb dX8_read_134 rfl (lv_at hl 0 rfl) ?_
    refine lv_iload_n hx hb dX8_read_135 rfl (lv_at hl 1 rfl) ?_
    refine lv_iload hx hb dX8_read_136 (lv_at hl 2 rfl) ?_
    obtain ⟨q20, e21, hf⟩ := bind_some hf
    refine aftI hS (cV (rest := [.ref (ad 12)]) X hP hS [.int x1, .int x4] (m_X8_rowAt  e21) cw_X8_rowAt tw_293 tw_551 tw_766 (by decide) (cf_M ) rfl (fits9 (by first | decide | omega) (by decide)) rfl rfl hl.1 (Nat.le_of_ble_eq_true rfl) dX8_read_138 ⟨Nat.zero_le _, Nat.zero_le _⟩) (fun H locs hP hS => ?_)
    refine lv_iload hx hb dX8_read_141 (lv_at hl 2 rfl) ?_
    obtain ⟨g22, hf⟩ := grd_some hf
    refine w_m_days X hP hS  g22 dX8_read_143 (fun H locs hP hS => ?_)
    refine lv_iinc (v := (x4 + (1 : Int32))) (lv' := [(4, .int (x4 + (1 : Int32))), (0, .ref (ad 0)), (1, .int x1)]) hx hb dX8_read_144 hl (k := 2) rfl rfl (by decide) rfl (fun ls hl => ?_)
    refine lv_goto (tgt := 121) hx hb dX8_read_147 (by decide) ?_
    exact hkb _ _ _ _ _ ls hf  hP hS (lv_sub hl [1, 2, 0] rfl)
set_option maxHeartbeats 4000000 in
set_option maxRecDepth 100000 in
theorem vl_X8_read_121 (X : Cx D cI cP cB cA 19 ad tL tC p s m c cX8_read 5 args RX8) (hr : meth.sig.returnType = (some .int)) (hlk : meth.locks = false) {res : Int32 × Stt} (ke : Stt → Option (Int32 × Stt)) (hke : ∀ (S : Stt) (H : Heap) (locs : List Loc) (ls : Array Slot), ke S = some res → va_P D vwCl (wl 19 ad (cfM ad cI S)) H → va_S (Ar 19 ad) s.heap H locs → lv_has ls 5 [] → W p l e (rmD 4) s m args below meth c H locs 0 0 (MQ below (QI D 19 ad res.1 (cfM ad cI res.2)) args s 0 0 (Ar 19 ad)) (F0 m 150 ls [])) : ∀ (n : Nat), ∀ (x1 : Int32) (x4 : Int32) (S : Stt) (H : Heap) (locs : List Loc) (ls : Array Slot), fl_X8_read_121 ke n x1 x4 S = some res → va_P D vwCl (wl 19 ad (cfM ad cI S)) H → va_S (Ar 19 ad) s.heap H locs → lv_has ls 5 [(0, .ref (ad 0)), (1, .int x1), (4, .int x4)] → W p l e (rmD 4) s m args below meth c H locs 0 0 (MQ below (QI D 19 ad res.1 (cfM ad cI res.2)) args s 0 0 (Ar 19 ad)) (F0 m 121 ls []) := by
  intro n
  induction n with
  | zero =>
    intro x1 x4 S H locs ls hf hP hS hl
    cases hf
  | succ n ih =>
    intro x1 x4 S H locs ls hf hP hS hl
    exact vb_X8_read_121 X hr hlk _ ke ih hke x1 x4 S H locs ls hf  hP hS hl
end
set_option maxHeartbeats 4000000 in
set_option maxRecDepth 100000 in
theorem m_X8_read {l : Launch} {D : va_G} {cI cP cB cA : ClassId} {ad : Nat → Nat} {tL tC : Nat} {x1 : Int32} {S : Stt} {res : Int32 × Stt} (hf : f_X8_read x1 S = some res) : Ct l D cI cP cB cA 19 ad tL tC yX8_read cX8_read 5 (some .int) 4 [.ref (ad 0), .int x1] (cfM ad cI S) (QI D 19 ad res.1 (cfM ad cI res.2)) := by
  refine ctOf (by decide) (Nat.le_of_ble_eq_true rfl) ?_
  intro p e s m args below meth c ls X hr hlk hP hl
  have hS : va_S (Ar 19 ad) s.heap s.heap [] := va_S.rf
  have hx := X.1.1
  have hb := X.1.2.1
  have hl : lv_has ls 5 [(0, .ref (ad 0)), (1, .int x1)] := hl
  unfold f_X8_read at hf
  refine lv_iload_n hx hb dX8_read_0 rfl (lv_at hl 1 rfl) ?_
  obtain ⟨q1, e2, hf⟩ := bind_some hf
  refine aftI hS (cS (rest := []) X hP hS [.int x1] (m_X8_isRow  e2) cw_X8_isRow tw_287 tw_545 (fits9 (by first | decide | omega) (by decide)) rfl rfl hl.1 (Nat.le_of_ble_eq_true rfl) dX8_read_1 ⟨Nat.zero_le _, Nat.zero_le _⟩) (fun H locs hP hS => ?_)
  refine lv_if_ne (tgt := 9) hx hb dX8_read_4 (by decide) (fun c3 => ?_) (fun c3 => ?_)
  · rw [if_neg c3] at hf
    refine lv_aload_n hx hb dX8_read_9 rfl (lv_at hl 0 rfl) ?_
    refine g_M_many X hP  tw_86 dX8_read_10 ?_
    refine lv_if_ne (tgt := 19) hx hb dX8_read_13 (by decide) (fun c4 => ?_) (fun c4 => ?_)
    · rw [if_neg c4] at hf
      refine lv_aload_n hx hb dX8_read_19 rfl (lv_at hl 0 rfl) ?_
      refine lv_iload_n hx hb dX8_read_20 rfl (lv_at hl 1 rfl) ?_
      obtain ⟨q5, e6, hf⟩ := bind_some hf
      refine aftI hS (cV (rest := []) X hP hS [.int x1] (m_X8_askedRow  e6) cw_X8_askedRow tw_292 tw_550 tw_764 (by decide) (cf_M ) rfl (fits9 (by first | decide | omega) (by decide)) rfl rfl hl.1 (Nat.le_of_ble_eq_true rfl) dX8_read_21 ⟨Nat.zero_le _, Nat.zero_le _⟩) (fun H locs hP hS => ?_)
      refine lv_istore_n (lv' := [(2, .int q5.1), (0, .ref (ad 0)), (1, .int x1)]) hx hb dX8_read_24 rfl hl (by decide) rfl (fun ls hl => ?_)
      refine lv_iload_n hx hb dX8_read_25 rfl (lv_at hl 0 rfl) ?_
      refine lv_if_ge (tgt := 31) hx hb dX8_read_26 (by decide) (fun c7 => ?_) (fun c7 => ?_)
      · rw [if_pos c7] at hf
        refine lv_aload_n hx hb dX8_read_31 rfl (lv_at hl 1 rfl) ?_
        refine g_M_sizes X hP  tw_81 dX8_read_32 ?_
        refine lv_iload_n hx hb dX8_read_35 rfl (lv_at hl 2 rfl) ?_
        obtain ⟨g8, hf⟩ := grd_some hf
        refine r_m_sizes X hP  g8 dX8_read_36 ?_
        refine lv_aload_n hx hb dX8_read_37 rfl (lv_at hl 1 rfl) ?_
        refine g_M_many X hP  tw_86 dX8_read_38 ?_
        refine lv_icmp_eq (tgt := 50) hx hb dX8_read_41 (by decide) (fun c9 => ?_) (fun c9 => ?_)
        · rw [if_pos c9] at hf
          refine lv_iconst (v := (0 : Int32)) hx hb dX8_read_50 (by decide) ?_
          refine lv_istore_n (lv' := [(3, .int (0 : Int32)), (2, .int q5.1), (0, .ref (ad 0)), (1, .int x1)]) hx hb dX8_read_51 rfl hl (by decide) rfl (fun ls hl => ?_)
          refine lv_iconst (v := (0 : Int32)) hx hb dX8_read_52 (by decide) ?_
          refine lv_istore (lv' := [(4, .int (0 : Int32)), (3, .int (0 : Int32)), (2, .int q5.1), (0, .ref (ad 0)), (1, .int x1)]) hx hb dX8_read_53 hl (by decide) rfl (fun ls hl => ?_)
          refine vl_X8_read_55 X hr hlk _ ?_ 300 _ _ _ _ _ _ ls hf  hP hS (lv_sub hl [3, 4, 1, 0] rfl)
          intro x1 x3 S H locs ls hf hP hS hl
          refine lv_iload_n hx hb dX8_read_100 rfl (lv_at hl 2 rfl) ?_
          refine lv_iconst (v := (1 : Int32)) hx hb dX8_read_101 (by decide) ?_
          refine lv_aload_n hx hb dX8_read_102 rfl (lv_at hl 0 rfl) ?_
          refine g_M_many X hP  tw_86 dX8_read_103 ?_
          refine lv_ishl hx hb dX8_read_106 ?_
          refine lv_iconst (v := (1 : Int32)) hx hb dX8_read_107 (by decide) ?_
          refine lv_isub hx hb dX8_read_108 ?_
          refine lv_icmp_eq (tgt := 118) hx hb dX8_read_109 (by decide) (fun c18 => ?_) (fun c18 => ?_)
          · rw [if_pos c18] at hf
            refine lv_iconst (v := (0 : Int32)) hx hb dX8_read_118 (by decide) ?_
            refine lv_istore (lv' := [(4, .int (0 : Int32)), (0, .ref (ad 0)), (1, .int x1), (3, .int x3)]) hx hb dX8_read_119 hl (by decide) rfl (fun ls hl => ?_)
            refine vl_X8_read_121 X hr hlk _ ?_ 300 _ _ _ _ _ ls hf  hP hS (lv_sub hl [1, 2, 0] rfl)
            intro S H locs ls hf hP hS hl
            refine lv_iconst (v := (1 : Int32)) hx hb dX8_read_150 (by decide) ?_
            cases hf
            exact rtI X hr hlk hP hS dX8_read_151
          · rw [if_neg c18] at hf
            refine lv_aload_n hx hb dX8_read_112 rfl (lv_at hl 0 rfl) ?_
            refine lv_iconst (v := (3 : Int32)) hx hb dX8_read_113 (by decide) ?_
            obtain ⟨q23, e24, hf⟩ := bind_some hf
            refine aftI hS (cV (rest := []) X hP hS [.int (3 : Int32)] (m_X8_meet  e24) cw_X8_meet tw_289 tw_547 tw_762 (by decide) (cf_M ) rfl (fits9 (by first | decide | omega) (by decide)) rfl rfl hl.1 (Nat.le_of_ble_eq_true rfl) dX8_read_114 ⟨Nat.zero_le _, Nat.zero_le _⟩) (fun H locs hP hS => ?_)
            cases hf
            exact rtI X hr hlk hP hS dX8_read_117
        · rw [if_neg c9] at hf
          refine lv_aload_n hx hb dX8_read_44 rfl (lv_at hl 1 rfl) ?_
          refine lv_iconst (v := (5 : Int32)) hx hb dX8_read_45 (by decide) ?_
          obtain ⟨q25, e26, hf⟩ := bind_some hf
          refine aftI hS (cV (rest := []) X hP hS [.int (5 : Int32)] (m_X8_meet  e26) cw_X8_meet tw_289 tw_547 tw_762 (by decide) (cf_M ) rfl (fits9 (by first | decide | omega) (by decide)) rfl rfl hl.1 (Nat.le_of_ble_eq_true rfl) dX8_read_46 ⟨Nat.zero_le _, Nat.zero_le _⟩) (fun H locs hP hS => ?_)
          cases hf
          exact rtI X hr hlk hP hS dX8_read_49
      · rw [if_neg c7] at hf
        refine lv_iload_n hx hb dX8_read_29 rfl (lv_at hl 0 rfl) ?_
        cases hf
        exact rtI X hr hlk hP hS dX8_read_30
    · rw [if_pos c4] at hf
      refine lv_bipush (v := (-4 : Int32)) hx hb dX8_read_16 (by decide) ?_
      cases hf
      exact rtI X hr hlk hP hS dX8_read_18
  · rw [if_pos c3] at hf
    refine lv_iconst (v := (-1 : Int32)) hx hb dX8_read_7 (by decide) ?_
    cases hf
    exact rtI X hr hlk hP hS dX8_read_8
/-! X8_tear -/
section
variable {p : Program} {l : Launch} {e : Env} {s : State} {m : MethodId} {args : Array Value} {below : List Frame} {meth : Method} {c : Code}
variable {D : va_G} {cI cP cB cA : ClassId} {ad : Nat → Nat} {tL tC : Nat}
end
set_option maxHeartbeats 4000000 in
set_option maxRecDepth 100000 in
theorem m_X8_tear {l : Launch} {D : va_G} {cI cP cB cA : ClassId} {ad : Nat → Nat} {tL tC : Nat} {x1 : Int32} {S : Stt} {res : Int32 × Stt} (hf : f_X8_tear x1 S = some res) : Ct l D cI cP cB cA 19 ad tL tC yX8_tear cX8_tear 3 (some .int) 4 [.ref (ad 0), .int x1] (cfM ad cI S) (QI D 19 ad res.1 (cfM ad cI res.2)) := by
  refine ctOf (by decide) (Nat.le_of_ble_eq_true rfl) ?_
  intro p e s m args below meth c ls X hr hlk hP hl
  have hS : va_S (Ar 19 ad) s.heap s.heap [] := va_S.rf
  have hx := X.1.1
  have hb := X.1.2.1
  have hl : lv_has ls 3 [(0, .ref (ad 0)), (1, .int x1)] := hl
  unfold f_X8_tear at hf
  refine lv_aload_n hx hb dX8_tear_0 rfl (lv_at hl 0 rfl) ?_
  refine lv_iload_n hx hb dX8_tear_1 rfl (lv_at hl 1 rfl) ?_
  obtain ⟨q1, e2, hf⟩ := bind_some hf
  refine aftI hS (cV (rest := []) X hP hS [.int x1] (m_X8_askedRow  e2) cw_X8_askedRow tw_292 tw_550 tw_764 (by decide) (cf_M ) rfl (fits9 (by first | decide | omega) (by decide)) rfl rfl hl.1 (Nat.le_of_ble_eq_true rfl) dX8_tear_2 ⟨Nat.zero_le _, Nat.zero_le _⟩) (fun H locs hP hS => ?_)
  refine lv_istore_n (lv' := [(2, .int q1.1), (0, .ref (ad 0)), (1, .int x1)]) hx hb dX8_tear_5 rfl hl (by decide) rfl (fun ls hl => ?_)
  refine lv_iload_n hx hb dX8_tear_6 rfl (lv_at hl 0 rfl) ?_
  refine lv_if_ge (tgt := 12) hx hb dX8_tear_7 (by decide) (fun c3 => ?_) (fun c3 => ?_)
  · rw [if_pos c3] at hf
    refine lv_aload_n hx hb dX8_tear_12 rfl (lv_at hl 1 rfl) ?_
    refine g_M_sizes X hP  tw_81 dX8_tear_13 ?_
    refine lv_iload_n hx hb dX8_tear_16 rfl (lv_at hl 2 rfl) ?_
    refine lv_bipush (v := (-9 : Int32)) hx hb dX8_tear_17 (by decide) ?_
    obtain ⟨g4, hf⟩ := grd_some hf
    refine w_m_sizes X hP hS  g4 dX8_tear_19 (fun H locs hP hS => ?_)
    refine lv_iconst (v := (1 : Int32)) hx hb dX8_tear_20 (by decide) ?_
    cases hf
    exact rtI X hr hlk hP hS dX8_tear_21
  · rw [if_neg c3] at hf
    refine lv_iload_n hx hb dX8_tear_10 rfl (lv_at hl 0 rfl) ?_
    cases hf
    exact rtI X hr hlk hP hS dX8_tear_11
/-! X0_leaveOut -/
section
variable {p : Program} {l : Launch} {e : Env} {s : State} {m : MethodId} {args : Array Value} {below : List Frame} {meth : Method} {c : Code}
variable {D : va_G} {cI cP cB cA : ClassId} {ad : Nat → Nat} {tL tC : Nat}
end
set_option maxHeartbeats 4000000 in
set_option maxRecDepth 100000 in
theorem m_X0_leaveOut {l : Launch} {D : va_G} {cI cP cB cA : ClassId} {ad : Nat → Nat} {tL tC : Nat} {b0 : Nat} {x1 : Int32} (hb_0_0 : b0 < 5) {S : Stt} {res : Stt} (hf : f_X0_leaveOut b0 x1 S = some res) : Ct l D cI cP cB cA 79 ad tL tC yX0_leaveOut cX0_leaveOut 2 none 5 [.ref (ad (34 + b0)), .int x1] (cfC ad cI cP cB cA S) (QV D 79 ad (cfC ad cI cP cB cA res)) := by
  refine ctOf (by decide) (Nat.le_of_ble_eq_true rfl) ?_
  intro p e s m args below meth c ls X hr hlk hP hl
  have hS : va_S (Ar 79 ad) s.heap s.heap [] := va_S.rf
  have hx := X.1.1
  have hb := X.1.2.1
  have hl : lv_has ls 2 [(0, .ref (ad (34 + b0))), (1, .int x1)] := hl
  unfold f_X0_leaveOut at hf
  refine lv_aload_n hx hb dX0_leaveOut_0 rfl (lv_at hl 0 rfl) ?_
  refine lv_iload_n hx hb dX0_leaveOut_1 rfl (lv_at hl 1 rfl) ?_
  obtain ⟨q1, e2, hf⟩ := bind_some hf
  refine aftI hS (cV (rest := []) X hP hS [.int x1] (m_X0_isOne hb_0_0 e2) cw_X0_isOne tw_171 tw_450 tw_644 (bk_lt hb_0_0) (cf_Book hb_0_0) rfl (fits9 (by first | decide | omega) (by decide)) rfl rfl hl.1 (Nat.le_of_ble_eq_true rfl) dX0_leaveOut_2 ⟨Nat.zero_le _, Nat.zero_le _⟩) (fun H locs hP hS => ?_)
  refine lv_if_ne (tgt := 9) hx hb dX0_leaveOut_5 (by decide) (fun c3 => ?_) (fun c3 => ?_)
  · rw [if_neg c3] at hf
    refine lv_aload_n hx hb dX0_leaveOut_9 rfl (lv_at hl 0 rfl) ?_
    refine g_Book_pages X hP hb_0_0 tw_20 dX0_leaveOut_10 ?_
    refine lv_iload_n hx hb dX0_leaveOut_13 rfl (lv_at hl 1 rfl) ?_
    obtain ⟨g4, hf⟩ := grd_some hf
    refine q_pages X hP hb_0_0 g4 dX0_leaveOut_14 ?_
    refine lv_bipush (v := (99 : Int32)) hx hb dX0_leaveOut_15 (by decide) ?_
    refine pN_Page_day X hP hS hb_0_0 (ixb_lt g4) tw_17 dX0_leaveOut_17 (fun H locs hP hS => ?_)
    refine lv_aload_n hx hb dX0_leaveOut_20 rfl (lv_at hl 0 rfl) ?_
    refine lv_iload_n hx hb dX0_leaveOut_21 rfl (lv_at hl 1 rfl) ?_
    refine lv_iconst (v := (0 : Int32)) hx hb dX0_leaveOut_22 (by decide) ?_
    obtain ⟨q5, e6, hf⟩ := bind_some hf
    refine aftV hS (cV (rest := []) X hP hS [.int x1, .int (0 : Int32)] (m_X0_changeKind hb_0_0 e6) cw_X0_changeKind tw_252 tw_511 tw_649 (bk_lt hb_0_0) (cf_Book hb_0_0) rfl (fits9 (by first | decide | omega) (by decide)) rfl rfl hl.1 (Nat.le_of_ble_eq_true rfl) dX0_leaveOut_23 ⟨Nat.zero_le _, Nat.zero_le _⟩) (fun H locs hP hS => ?_)
    cases hf
    exact rtV X hr hlk hP hS dX0_leaveOut_26
  · rw [if_pos c3] at hf
    cases hf
    exact rtV X hr hlk hP hS dX0_leaveOut_8
/-! X1_hearReading -/
section
variable {p : Program} {l : Launch} {e : Env} {s : State} {m : MethodId} {args : Array Value} {below : List Frame} {meth : Method} {c : Code}
variable {D : va_G} {cI cP cB cA : ClassId} {ad : Nat → Nat} {tL tC : Nat}
set_option maxHeartbeats 4000000 in
set_option maxRecDepth 100000 in
theorem vb_X1_hearReading_10 (X : Cx D cI cP cB cA 79 ad tL tC p s m c cX1_hearReading 3 args RX1) (hr : meth.sig.returnType = none) (hlk : meth.locks = false) {res : Stt} (kb : Nat → Int32 → Stt → Option (Stt)) (ke : Stt → Option (Stt)) (hkb : ∀ (b1 : Nat) (x2 : Int32) (S : Stt) (H : Heap) (locs : List Loc) (ls : Array Slot), kb b1 x2 S = some res → b1 < 5 → va_P D vwCl (wl 79 ad (cfC ad cI cP cB cA S)) H → va_S (Ar 79 ad) s.heap H locs → lv_has ls 3 [(0, .ref (ad 8)), (1, .ref (ad (34 + b1))), (2, .int x2)] → W p l e (rmD 5) s m args below meth c H locs 0 0 (MQ below (QV D 79 ad (cfC ad cI cP cB cA res)) args s 0 0 (Ar 79 ad)) (F0 m 10 ls [])) (hke : ∀ (S : Stt) (H : Heap) (locs : List Loc) (ls : Array Slot), ke S = some res → va_P D vwCl (wl 79 ad (cfC ad cI cP cB cA S)) H → va_S (Ar 79 ad) s.heap H locs → lv_has ls 3 [] → W p l e (rmD 5) s m args below meth c H locs 0 0 (MQ below (QV D 79 ad (cfC ad cI cP cB cA res)) args s 0 0 (Ar 79 ad)) (F0 m 50 ls [])) : ∀ (b1 : Nat) (x2 : Int32) (S : Stt) (H : Heap) (locs : List Loc) (ls : Array Slot), fb_X1_hearReading_10 kb ke b1 x2 S = some res → b1 < 5 → va_P D vwCl (wl 79 ad (cfC ad cI cP cB cA S)) H → va_S (Ar 79 ad) s.heap H locs → lv_has ls 3 [(0, .ref (ad 8)), (1, .ref (ad (34 + b1))), (2, .int x2)] → W p l e (rmD 5) s m args below meth c H locs 0 0 (MQ below (QV D 79 ad (cfC ad cI cP cB cA res)) args s 0 0 (Ar 79 ad)) (F0 m 10 ls []) := by
  intro b1 x2 S H locs ls hf hb_1_0 hP hS hl
  have hx := X.1.1
  have hb := X.1.2.1
  unfold fb_X1_hearReading_10 at hf
  refine lv_iload_n hx hb dX1_hearReading_10 rfl (lv_at hl 2 rfl) ?_
  refine lv_aload_n hx hb dX1_hearReading_11 rfl (lv_at hl 0 rfl) ?_
  refine g_Court_daysRead X hP  tw_44 dX1_hearReading_12 ?_
  refine lv_icmp_ge (tgt := 50) hx hb dX1_hearReading_15 (by decide) (fun c1 => ?_) (fun c1 => ?_)
  · rw [if_pos c1] at hf
    exact hke  _ _ _ ls hf  hP hS (lv_sub hl [] rfl)
  · rw [if_neg c1] at hf
    refine lv_aload_n hx hb dX1_hearReading_18 rfl (lv_at hl 0 rfl) ?_
    refine lv_aload_n hx hb dX1_hearReading_19 rfl (lv_at hl 1 rfl) ?_
    refine lv_iload_n hx hb dX1_hearReading_20 rfl (lv_at hl 2 rfl) ?_
    obtain ⟨q2, e3, hf⟩ := bind_some hf
    refine aftV hS (cV (rest := []) X hP hS [.ref (ad (34 + b1)), .int x2] (m_X1_hear hb_1_0 e3) cw_X1_hear tw_222 tw_477 tw_665 (by decide) (cf_Court ) rfl (fits9 (by first | decide | omega) (by decide)) rfl rfl hl.1 (Nat.le_of_ble_eq_true rfl) dX1_hearReading_21 ⟨Nat.zero_le _, Nat.zero_le _⟩) (fun H locs hP hS => ?_)
    refine lv_aload_n hx hb dX1_hearReading_24 rfl (lv_at hl 0 rfl) ?_
    refine g_Court_alwaysOn X hP  tw_42 dX1_hearReading_25 ?_
    refine lv_iload_n hx hb dX1_hearReading_28 rfl (lv_at hl 2 rfl) ?_
    refine lv_aload_n hx hb dX1_hearReading_29 rfl (lv_at hl 0 rfl) ?_
    refine g_Court_always X hP  tw_37 dX1_hearReading_30 ?_
    obtain ⟨g4, hf⟩ := grd_some hf
    refine w_alwaysOn X hP hS  g4 dX1_hearReading_33 (fun H locs hP hS => ?_)
    refine lv_aload_n hx hb dX1_hearReading_34 rfl (lv_at hl 0 rfl) ?_
    refine g_Court_everOn X hP  tw_43 dX1_hearReading_35 ?_
    refine lv_iload_n hx hb dX1_hearReading_38 rfl (lv_at hl 2 rfl) ?_
    refine lv_aload_n hx hb dX1_hearReading_39 rfl (lv_at hl 0 rfl) ?_
    refine g_Court_ever X hP  tw_39 dX1_hearReading_40 ?_
    obtain ⟨g5, hf⟩ := grd_some hf
    refine w_everOn X hP hS  g5 dX1_hearReading_43 (fun H locs hP hS => ?_)
    refine lv_iinc (v := (x2 + (1 : Int32))) (lv' := [(2, .int (x2 + (1 : Int32))), (0, .ref (ad 8)), (1, .ref (ad (34 + b1)))]) hx hb dX1_hearReading_44 hl (k := 2) rfl rfl (by decide) rfl (fun ls hl => ?_)
    refine lv_goto (tgt := 10) hx hb dX1_hearReading_47 (by decide) ?_
    exact hkb _ _ _ _ _ ls hf hb_1_0 hP hS (lv_sub hl [1, 2, 0] rfl)
set_option maxHeartbeats 4000000 in
set_option maxRecDepth 100000 in
theorem vl_X1_hearReading_10 (X : Cx D cI cP cB cA 79 ad tL tC p s m c cX1_hearReading 3 args RX1) (hr : meth.sig.returnType = none) (hlk : meth.locks = false) {res : Stt} (ke : Stt → Option (Stt)) (hke : ∀ (S : Stt) (H : Heap) (locs : List Loc) (ls : Array Slot), ke S = some res → va_P D vwCl (wl 79 ad (cfC ad cI cP cB cA S)) H → va_S (Ar 79 ad) s.heap H locs → lv_has ls 3 [] → W p l e (rmD 5) s m args below meth c H locs 0 0 (MQ below (QV D 79 ad (cfC ad cI cP cB cA res)) args s 0 0 (Ar 79 ad)) (F0 m 50 ls [])) : ∀ (n : Nat), ∀ (b1 : Nat) (x2 : Int32) (S : Stt) (H : Heap) (locs : List Loc) (ls : Array Slot), fl_X1_hearReading_10 ke n b1 x2 S = some res → b1 < 5 → va_P D vwCl (wl 79 ad (cfC ad cI cP cB cA S)) H → va_S (Ar 79 ad) s.heap H locs → lv_has ls 3 [(0, .ref (ad 8)), (1, .ref (ad (34 + b1))), (2, .int x2)] → W p l e (rmD 5) s m args below meth c H locs 0 0 (MQ below (QV D 79 ad (cfC ad cI cP cB cA res)) args s 0 0 (Ar 79 ad)) (F0 m 10 ls []) := by
  intro n
  induction n with
  | zero =>
    intro b1 x2 S H locs ls hf hb_1_0 hP hS hl
    cases hf
  | succ n ih =>
    intro b1 x2 S H locs ls hf hb_1_0 hP hS hl
    exact vb_X1_hearReading_10 X hr hlk _ ke ih hke b1 x2 S H locs ls hf hb_1_0 hP hS hl
end
set_option maxHeartbeats 4000000 in
set_option maxRecDepth 100000 in
theorem m_X1_hearReading {l : Launch} {D : va_G} {cI cP cB cA : ClassId} {ad : Nat → Nat} {tL tC : Nat} {b1 : Nat} (hb_1_0 : b1 < 5) {S : Stt} {res : Stt} (hf : f_X1_hearReading b1 S = some res) : Ct l D cI cP cB cA 79 ad tL tC yX1_hearReading cX1_hearReading 3 none 5 [.ref (ad 8), .ref (ad (34 + b1))] (cfC ad cI cP cB cA S) (QV D 79 ad (cfC ad cI cP cB cA res)) := by
  refine ctOf (by decide) (Nat.le_of_ble_eq_true rfl) ?_
  intro p e s m args below meth c ls X hr hlk hP hl
  have hS : va_S (Ar 79 ad) s.heap s.heap [] := va_S.rf
  have hx := X.1.1
  have hb := X.1.2.1
  have hl : lv_has ls 3 [(0, .ref (ad 8)), (1, .ref (ad (34 + b1)))] := hl
  unfold f_X1_hearReading at hf
  refine lv_aload_n hx hb dX1_hearReading_0 rfl (lv_at hl 0 rfl) ?_
  refine lv_aload_n hx hb dX1_hearReading_1 rfl (lv_at hl 1 rfl) ?_
  refine gN_Book_count X hP hb_1_0 tw_27 dX1_hearReading_2 ?_
  refine p_Court_daysRead X hP hS  tw_44 dX1_hearReading_5 (fun H locs hP hS => ?_)
  refine lv_iconst (v := (0 : Int32)) hx hb dX1_hearReading_8 (by decide) ?_
  refine lv_istore_n (lv' := [(2, .int (0 : Int32)), (0, .ref (ad 8)), (1, .ref (ad (34 + b1)))]) hx hb dX1_hearReading_9 rfl hl (by decide) rfl (fun ls hl => ?_)
  refine vl_X1_hearReading_10 X hr hlk _ ?_ 300 _ _ _ _ _ ls hf hb_1_0 hP hS (lv_sub hl [1, 2, 0] rfl)
  intro S H locs ls hf hP hS hl
  cases hf
  exact rtV X hr hlk hP hS dX1_hearReading_50
/-! X1_waitingInAll -/
section
variable {p : Program} {l : Launch} {e : Env} {s : State} {m : MethodId} {args : Array Value} {below : List Frame} {meth : Method} {c : Code}
variable {D : va_G} {cI cP cB cA : ClassId} {ad : Nat → Nat} {tL tC : Nat}
set_option maxHeartbeats 4000000 in
set_option maxRecDepth 100000 in
theorem vb_X1_waitingInAll_4 (X : Cx D cI cP cB cA 79 ad tL tC p s m c cX1_waitingInAll 4 args RX1) (hr : meth.sig.returnType = (some .int)) (hlk : meth.locks = false) {res : Int32 × Stt} (kb : Nat → Int32 → Int32 → Stt → Option (Int32 × Stt)) (ke : Int32 → Stt → Option (Int32 × Stt)) (hkb : ∀ (b1 : Nat) (x2 : Int32) (x3 : Int32) (S : Stt) (H : Heap) (locs : List Loc) (ls : Array Slot), kb b1 x2 x3 S = some res → b1 < 5 → va_P D vwCl (wl 79 ad (cfC ad cI cP cB cA S)) H → va_S (Ar 79 ad) s.heap H locs → lv_has ls 4 [(0, .ref (ad 8)), (1, .ref (ad (34 + b1))), (2, .int x2), (3, .int x3)] → W p l e (rmD 5) s m args below meth c H locs 0 0 (MQ below (QI D 79 ad res.1 (cfC ad cI cP cB cA res.2)) args s 0 0 (Ar 79 ad)) (F0 m 4 ls [])) (hke : ∀ (x2 : Int32) (S : Stt) (H : Heap) (locs : List Loc) (ls : Array Slot), ke x2 S = some res → va_P D vwCl (wl 79 ad (cfC ad cI cP cB cA S)) H → va_S (Ar 79 ad) s.heap H locs → lv_has ls 4 [(2, .int x2)] → W p l e (rmD 5) s m args below meth c H locs 0 0 (MQ below (QI D 79 ad res.1 (cfC ad cI cP cB cA res.2)) args s 0 0 (Ar 79 ad)) (F0 m 34 ls [])) : ∀ (b1 : Nat) (x2 : Int32) (x3 : Int32) (S : Stt) (H : Heap) (locs : List Loc) (ls : Array Slot), fb_X1_waitingInAll_4 kb ke b1 x2 x3 S = some res → b1 < 5 → va_P D vwCl (wl 79 ad (cfC ad cI cP cB cA S)) H → va_S (Ar 79 ad) s.heap H locs → lv_has ls 4 [(0, .ref (ad 8)), (1, .ref (ad (34 + b1))), (2, .int x2), (3, .int x3)] → W p l e (rmD 5) s m args below meth c H locs 0 0 (MQ below (QI D 79 ad res.1 (cfC ad cI cP cB cA res.2)) args s 0 0 (Ar 79 ad)) (F0 m 4 ls []) := by
  intro b1 x2 x3 S H locs ls hf hb_1_0 hP hS hl
  have hx := X.1.1
  have hb := X.1.2.1
  unfold fb_X1_waitingInAll_4 at hf
  refine lv_iload_n hx hb dX1_waitingInAll_4 rfl (lv_at hl 3 rfl) ?_
  refine lv_aload_n hx hb dX1_waitingInAll_5 rfl (lv_at hl 1 rfl) ?_
  refine gN_Book_count X hP hb_1_0 tw_27 dX1_waitingInAll_6 ?_
  refine lv_icmp_ge (tgt := 34) hx hb dX1_waitingInAll_9 (by decide) (fun c1 => ?_) (fun c1 => ?_)
  · rw [if_pos c1] at hf
    exact hke _ _ _ _ ls hf  hP hS (lv_sub hl [2] rfl)
  · rw [if_neg c1] at hf
    refine lv_aload_n hx hb dX1_waitingInAll_12 rfl (lv_at hl 0 rfl) ?_
    refine lv_aload_n hx hb dX1_waitingInAll_13 rfl (lv_at hl 1 rfl) ?_
    refine lv_iload_n hx hb dX1_waitingInAll_14 rfl (lv_at hl 3 rfl) ?_
    obtain ⟨q2, e3, hf⟩ := bind_some hf
    refine aftV hS (cV (rest := []) X hP hS [.ref (ad (34 + b1)), .int x3] (m_X1_hear hb_1_0 e3) cw_X1_hear tw_222 tw_477 tw_665 (by decide) (cf_Court ) rfl (fits9 (by first | decide | omega) (by decide)) rfl rfl hl.1 (Nat.le_of_ble_eq_true rfl) dX1_waitingInAll_15 ⟨Nat.zero_le _, Nat.zero_le _⟩) (fun H locs hP hS => ?_)
    refine lv_iload_n hx hb dX1_waitingInAll_18 rfl (lv_at hl 2 rfl) ?_
    refine lv_aload_n hx hb dX1_waitingInAll_19 rfl (lv_at hl 0 rfl) ?_
    obtain ⟨q4, e5, hf⟩ := bind_some hf
    refine aftI hS (cV (rest := [.int x2]) X hP hS [] (m_X1_waiting  e5) cw_X1_waiting tw_223 tw_488 tw_667 (by decide) (cf_Court ) rfl (fits9 (by first | decide | omega) (by decide)) rfl rfl hl.1 (Nat.le_of_ble_eq_true rfl) dX1_waitingInAll_20 ⟨Nat.zero_le _, Nat.zero_le _⟩) (fun H locs hP hS => ?_)
    obtain ⟨q6, e7, hf⟩ := bind_some hf
    refine aftI hS (cS (rest := [.int x2]) X hP hS [.int q4.1] (m_J6_bitCount_0f7a4  e7) cw_J6_bitCount_0f7a4 tw_224 tw_438 (fits9 (by first | decide | omega) (by decide)) rfl rfl hl.1 (Nat.le_of_ble_eq_true rfl) dX1_waitingInAll_23 ⟨Nat.zero_le _, Nat.zero_le _⟩) (fun H locs hP hS => ?_)
    refine lv_iadd hx hb dX1_waitingInAll_26 ?_
    refine lv_istore_n (lv' := [(2, .int (x2 + q6.1)), (0, .ref (ad 8)), (1, .ref (ad (34 + b1))), (3, .int x3)]) hx hb dX1_waitingInAll_27 rfl hl (by decide) rfl (fun ls hl => ?_)
    refine lv_iinc (v := (x3 + (1 : Int32))) (lv' := [(3, .int (x3 + (1 : Int32))), (2, .int (x2 + q6.1)), (0, .ref (ad 8)), (1, .ref (ad (34 + b1)))]) hx hb dX1_waitingInAll_28 hl (k := 3) rfl rfl (by decide) rfl (fun ls hl => ?_)
    refine lv_goto (tgt := 4) hx hb dX1_waitingInAll_31 (by decide) ?_
    exact hkb _ _ _ _ _ _ ls hf hb_1_0 hP hS (lv_sub hl [2, 3, 1, 0] rfl)
set_option maxHeartbeats 4000000 in
set_option maxRecDepth 100000 in
theorem vl_X1_waitingInAll_4 (X : Cx D cI cP cB cA 79 ad tL tC p s m c cX1_waitingInAll 4 args RX1) (hr : meth.sig.returnType = (some .int)) (hlk : meth.locks = false) {res : Int32 × Stt} (ke : Int32 → Stt → Option (Int32 × Stt)) (hke : ∀ (x2 : Int32) (S : Stt) (H : Heap) (locs : List Loc) (ls : Array Slot), ke x2 S = some res → va_P D vwCl (wl 79 ad (cfC ad cI cP cB cA S)) H → va_S (Ar 79 ad) s.heap H locs → lv_has ls 4 [(2, .int x2)] → W p l e (rmD 5) s m args below meth c H locs 0 0 (MQ below (QI D 79 ad res.1 (cfC ad cI cP cB cA res.2)) args s 0 0 (Ar 79 ad)) (F0 m 34 ls [])) : ∀ (n : Nat), ∀ (b1 : Nat) (x2 : Int32) (x3 : Int32) (S : Stt) (H : Heap) (locs : List Loc) (ls : Array Slot), fl_X1_waitingInAll_4 ke n b1 x2 x3 S = some res → b1 < 5 → va_P D vwCl (wl 79 ad (cfC ad cI cP cB cA S)) H → va_S (Ar 79 ad) s.heap H locs → lv_has ls 4 [(0, .ref (ad 8)), (1, .ref (ad (34 + b1))), (2, .int x2), (3, .int x3)] → W p l e (rmD 5) s m args below meth c H locs 0 0 (MQ below (QI D 79 ad res.1 (cfC ad cI cP cB cA res.2)) args s 0 0 (Ar 79 ad)) (F0 m 4 ls []) := by
  intro n
  induction n with
  | zero =>
    intro b1 x2 x3 S H locs ls hf hb_1_0 hP hS hl
    cases hf
  | succ n ih =>
    intro b1 x2 x3 S H locs ls hf hb_1_0 hP hS hl
    exact vb_X1_waitingInAll_4 X hr hlk _ ke ih hke b1 x2 x3 S H locs ls hf hb_1_0 hP hS hl
end
set_option maxHeartbeats 4000000 in
set_option maxRecDepth 100000 in
theorem m_X1_waitingInAll {l : Launch} {D : va_G} {cI cP cB cA : ClassId} {ad : Nat → Nat} {tL tC : Nat} {b1 : Nat} (hb_1_0 : b1 < 5) {S : Stt} {res : Int32 × Stt} (hf : f_X1_waitingInAll b1 S = some res) : Ct l D cI cP cB cA 79 ad tL tC yX1_waitingInAll cX1_waitingInAll 4 (some .int) 5 [.ref (ad 8), .ref (ad (34 + b1))] (cfC ad cI cP cB cA S) (QI D 79 ad res.1 (cfC ad cI cP cB cA res.2)) := by
  refine ctOf (by decide) (Nat.le_of_ble_eq_true rfl) ?_
  intro p e s m args below meth c ls X hr hlk hP hl
  have hS : va_S (Ar 79 ad) s.heap s.heap [] := va_S.rf
  have hx := X.1.1
  have hb := X.1.2.1
  have hl : lv_has ls 4 [(0, .ref (ad 8)), (1, .ref (ad (34 + b1)))] := hl
  unfold f_X1_waitingInAll at hf
  refine lv_iconst (v := (0 : Int32)) hx hb dX1_waitingInAll_0 (by decide) ?_
  refine lv_istore_n (lv' := [(2, .int (0 : Int32)), (0, .ref (ad 8)), (1, .ref (ad (34 + b1)))]) hx hb dX1_waitingInAll_1 rfl hl (by decide) rfl (fun ls hl => ?_)
  refine lv_iconst (v := (0 : Int32)) hx hb dX1_waitingInAll_2 (by decide) ?_
  refine lv_istore_n (lv' := [(3, .int (0 : Int32)), (2, .int (0 : Int32)), (0, .ref (ad 8)), (1, .ref (ad (34 + b1)))]) hx hb dX1_waitingInAll_3 rfl hl (by decide) rfl (fun ls hl => ?_)
  refine vl_X1_waitingInAll_4 X hr hlk _ ?_ 300 _ _ _ _ _ _ ls hf hb_1_0 hP hS (lv_sub hl [2, 3, 1, 0] rfl)
  intro x2 S H locs ls hf hP hS hl
  refine lv_iload_n hx hb dX1_waitingInAll_34 rfl (lv_at hl 0 rfl) ?_
  cases hf
  exact rtI X hr hlk hP hS dX1_waitingInAll_35
/-! X4_take -/
section
variable {p : Program} {l : Launch} {e : Env} {s : State} {m : MethodId} {args : Array Value} {below : List Frame} {meth : Method} {c : Code}
variable {D : va_G} {cI cP cB cA : ClassId} {ad : Nat → Nat} {tL tC : Nat}
set_option maxHeartbeats 4000000 in
set_option maxRecDepth 100000 in
theorem vb_X4_take_17 (X : Cx D cI cP cB cA 79 ad tL tC p s m c cX4_take 6 args RX4) (hr : meth.sig.returnType = none) (hlk : meth.locks = false) {res : Stt} (kb : Nat → Int32 → Nat → Int32 → Stt → Option (Stt)) (ke : Nat → Stt → Option (Stt)) (hkb : ∀ (z1 : Nat) (x2 : Int32) (b4 : Nat) (x5 : Int32) (S : Stt) (H : Heap) (locs : List Loc) (ls : Array Slot), kb z1 x2 b4 x5 S = some res → z1 < 2 → b4 < 5 → va_P D vwCl (wl 79 ad (cfC ad cI cP cB cA S)) H → va_S (Ar 79 ad) s.heap H locs → lv_has ls 6 [(0, .ref (ad 9)), (1, .ref (ad (1 + z1))), (2, .int x2), (3, .ref (ad 8)), (4, .ref (ad (34 + b4))), (5, .int x5)] → W p l e (rmD 5) s m args below meth c H locs 0 0 (MQ below (QV D 79 ad (cfC ad cI cP cB cA res)) args s 0 0 (Ar 79 ad)) (F0 m 17 ls [])) (hke : ∀ (b4 : Nat) (S : Stt) (H : Heap) (locs : List Loc) (ls : Array Slot), ke b4 S = some res → b4 < 5 → va_P D vwCl (wl 79 ad (cfC ad cI cP cB cA S)) H → va_S (Ar 79 ad) s.heap H locs → lv_has ls 6 [(0, .ref (ad 9)), (3, .ref (ad 8)), (4, .ref (ad (34 + b4)))] → W p l e (rmD 5) s m args below meth c H locs 0 0 (MQ below (QV D 79 ad (cfC ad cI cP cB cA res)) args s 0 0 (Ar 79 ad)) (F0 m 46 ls [])) : ∀ (z1 : Nat) (x2 : Int32) (b4 : Nat) (x5 : Int32) (S : Stt) (H : Heap) (locs : List Loc) (ls : Array Slot), fb_X4_take_17 kb ke z1 x2 b4 x5 S = some res → z1 < 2 → b4 < 5 → va_P D vwCl (wl 79 ad (cfC ad cI cP cB cA S)) H → va_S (Ar 79 ad) s.heap H locs → lv_has ls 6 [(0, .ref (ad 9)), (1, .ref (ad (1 + z1))), (2, .int x2), (3, .ref (ad 8)), (4, .ref (ad (34 + b4))), (5, .int x5)] → W p l e (rmD 5) s m args below meth c H locs 0 0 (MQ below (QV D 79 ad (cfC ad cI cP cB cA res)) args s 0 0 (Ar 79 ad)) (F0 m 17 ls []) := by
  intro z1 x2 b4 x5 S H locs ls hf hb_1_0 hb_4_0 hP hS hl
  have hx := X.1.1
  have hb := X.1.2.1
  unfold fb_X4_take_17 at hf
  refine lv_iload hx hb dX4_take_17 (lv_at hl 5 rfl) ?_
  refine lv_aload_n hx hb dX4_take_19 rfl (lv_at hl 0 rfl) ?_
  refine g_Planner_size X hP  tw_49 dX4_take_20 ?_
  refine lv_icmp_ge (tgt := 46) hx hb dX4_take_23 (by decide) (fun c3 => ?_) (fun c3 => ?_)
  · rw [if_pos c3] at hf
    exact hke _ _ _ _ ls hf hb_4_0 hP hS (lv_sub hl [0, 3, 4] rfl)
  · rw [if_neg c3] at hf
    refine lv_aload_n hx hb dX4_take_26 rfl (lv_at hl 0 rfl) ?_
    refine g_Planner_deeds X hP  tw_48 dX4_take_27 ?_
    refine lv_iload hx hb dX4_take_30 (lv_at hl 5 rfl) ?_
    refine lv_aload_n hx hb dX4_take_32 rfl (lv_at hl 1 rfl) ?_
    refine lv_iload_n hx hb dX4_take_33 rfl (lv_at hl 2 rfl) ?_
    refine lv_iload hx hb dX4_take_34 (lv_at hl 5 rfl) ?_
    obtain ⟨q4, e5, hf⟩ := bind_some hf
    refine aftI hS (cV (rest := [.int x5, .ref (ad 16)]) X hP hS [.int x2, .int x5] (m_X6_placeOf hb_1_0 e5) cw_X6_placeOf tw_231 tw_411 tw_699 (sh_lt hb_1_0) (cf_Shelf hb_1_0) rfl (fits9 (by first | decide | omega) (by decide)) rfl rfl hl.1 (Nat.le_of_ble_eq_true rfl) dX4_take_36 ⟨Nat.zero_le _, Nat.zero_le _⟩) (fun H locs hP hS => ?_)
    obtain ⟨g6, hf⟩ := grd_some hf
    refine w_deeds X hP hS  g6 dX4_take_39 (fun H locs hP hS => ?_)
    refine lv_iinc (v := (x5 + (1 : Int32))) (lv' := [(5, .int (x5 + (1 : Int32))), (0, .ref (ad 9)), (1, .ref (ad (1 + z1))), (2, .int x2), (3, .ref (ad 8)), (4, .ref (ad (34 + b4)))]) hx hb dX4_take_40 hl (k := 5) rfl rfl (by decide) rfl (fun ls hl => ?_)
    refine lv_goto (tgt := 17) hx hb dX4_take_43 (by decide) ?_
    exact hkb _ _ _ _ _ _ _ ls hf hb_1_0 hb_4_0 hP hS (lv_sub hl [1, 2, 3, 4, 5, 0] rfl)
set_option maxHeartbeats 4000000 in
set_option maxRecDepth 100000 in
theorem vl_X4_take_17 (X : Cx D cI cP cB cA 79 ad tL tC p s m c cX4_take 6 args RX4) (hr : meth.sig.returnType = none) (hlk : meth.locks = false) {res : Stt} (ke : Nat → Stt → Option (Stt)) (hke : ∀ (b4 : Nat) (S : Stt) (H : Heap) (locs : List Loc) (ls : Array Slot), ke b4 S = some res → b4 < 5 → va_P D vwCl (wl 79 ad (cfC ad cI cP cB cA S)) H → va_S (Ar 79 ad) s.heap H locs → lv_has ls 6 [(0, .ref (ad 9)), (3, .ref (ad 8)), (4, .ref (ad (34 + b4)))] → W p l e (rmD 5) s m args below meth c H locs 0 0 (MQ below (QV D 79 ad (cfC ad cI cP cB cA res)) args s 0 0 (Ar 79 ad)) (F0 m 46 ls [])) : ∀ (n : Nat), ∀ (z1 : Nat) (x2 : Int32) (b4 : Nat) (x5 : Int32) (S : Stt) (H : Heap) (locs : List Loc) (ls : Array Slot), fl_X4_take_17 ke n z1 x2 b4 x5 S = some res → z1 < 2 → b4 < 5 → va_P D vwCl (wl 79 ad (cfC ad cI cP cB cA S)) H → va_S (Ar 79 ad) s.heap H locs → lv_has ls 6 [(0, .ref (ad 9)), (1, .ref (ad (1 + z1))), (2, .int x2), (3, .ref (ad 8)), (4, .ref (ad (34 + b4))), (5, .int x5)] → W p l e (rmD 5) s m args below meth c H locs 0 0 (MQ below (QV D 79 ad (cfC ad cI cP cB cA res)) args s 0 0 (Ar 79 ad)) (F0 m 17 ls []) := by
  intro n
  induction n with
  | zero =>
    intro z1 x2 b4 x5 S H locs ls hf hb_1_0 hb_4_0 hP hS hl
    cases hf
  | succ n ih =>
    intro z1 x2 b4 x5 S H locs ls hf hb_1_0 hb_4_0 hP hS hl
    exact vb_X4_take_17 X hr hlk _ ke ih hke z1 x2 b4 x5 S H locs ls hf hb_1_0 hb_4_0 hP hS hl
set_option maxHeartbeats 4000000 in
set_option maxRecDepth 100000 in
theorem vb_X4_take_49 (X : Cx D cI cP cB cA 79 ad tL tC p s m c cX4_take 6 args RX4) (hr : meth.sig.returnType = none) (hlk : meth.locks = false) {res : Stt} (kb : Nat → Int32 → Stt → Option (Stt)) (ke : Stt → Option (Stt)) (hkb : ∀ (b4 : Nat) (x5 : Int32) (S : Stt) (H : Heap) (locs : List Loc) (ls : Array Slot), kb b4 x5 S = some res → b4 < 5 → va_P D vwCl (wl 79 ad (cfC ad cI cP cB cA S)) H → va_S (Ar 79 ad) s.heap H locs → lv_has ls 6 [(0, .ref (ad 9)), (3, .ref (ad 8)), (4, .ref (ad (34 + b4))), (5, .int x5)] → W p l e (rmD 5) s m args below meth c H locs 0 0 (MQ below (QV D 79 ad (cfC ad cI cP cB cA res)) args s 0 0 (Ar 79 ad)) (F0 m 49 ls [])) (hke : ∀ (S : Stt) (H : Heap) (locs : List Loc) (ls : Array Slot), ke S = some res → va_P D vwCl (wl 79 ad (cfC ad cI cP cB cA S)) H → va_S (Ar 79 ad) s.heap H locs → lv_has ls 6 [] → W p l e (rmD 5) s m args below meth c H locs 0 0 (MQ below (QV D 79 ad (cfC ad cI cP cB cA res)) args s 0 0 (Ar 79 ad)) (F0 m 83 ls [])) : ∀ (b4 : Nat) (x5 : Int32) (S : Stt) (H : Heap) (locs : List Loc) (ls : Array Slot), fb_X4_take_49 kb ke b4 x5 S = some res → b4 < 5 → va_P D vwCl (wl 79 ad (cfC ad cI cP cB cA S)) H → va_S (Ar 79 ad) s.heap H locs → lv_has ls 6 [(0, .ref (ad 9)), (3, .ref (ad 8)), (4, .ref (ad (34 + b4))), (5, .int x5)] → W p l e (rmD 5) s m args below meth c H locs 0 0 (MQ below (QV D 79 ad (cfC ad cI cP cB cA res)) args s 0 0 (Ar 79 ad)) (F0 m 49 ls []) := by
  intro b4 x5 S H locs ls hf hb_4_0 hP hS hl
  have hx := X.1.1
  have hb := X.1.2.1
  unfold fb_X4_take_49 at hf
  refine lv_iload hx hb dX4_take_49 (lv_at hl 3 rfl) ?_
  refine lv_bipush (v := (20 : Int32)) hx hb dX4_take_51 (by decide) ?_
  refine lv_icmp_gt (tgt := 83) hx hb dX4_take_53 (by decide) (fun c7 => ?_) (fun c7 => ?_)
  · rw [if_pos c7] at hf
    exact hke  _ _ _ ls hf  hP hS (lv_sub hl [] rfl)
  · rw [if_neg c7] at hf
    refine lv_aload_n hx hb dX4_take_56 rfl (lv_at hl 1 rfl) ?_
    refine lv_aload hx hb dX4_take_57 (lv_at hl 2 rfl) ?_
    refine lv_iload hx hb dX4_take_59 (lv_at hl 3 rfl) ?_
    obtain ⟨q8, e9, hf⟩ := bind_some hf
    refine aftV hS (cV (rest := []) X hP hS [.ref (ad (34 + b4)), .int x5] (m_X1_hear hb_4_0 e9) cw_X1_hear tw_232 tw_477 tw_665 (by decide) (cf_Court ) rfl (fits9 (by first | decide | omega) (by decide)) rfl rfl hl.1 (Nat.le_of_ble_eq_true rfl) dX4_take_61 ⟨Nat.zero_le _, Nat.zero_le _⟩) (fun H locs hP hS => ?_)
    refine lv_aload_n hx hb dX4_take_64 rfl (lv_at hl 0 rfl) ?_
    refine g_Planner_clearOn X hP  tw_47 dX4_take_65 ?_
    refine lv_iload hx hb dX4_take_68 (lv_at hl 3 rfl) ?_
    refine lv_aload_n hx hb dX4_take_70 rfl (lv_at hl 1 rfl) ?_
    refine gN_Court_ever X hP  tw_40 dX4_take_71 ?_
    refine lv_iconst (v := (-1 : Int32)) hx hb dX4_take_74 (by decide) ?_
    refine lv_ixor hx hb dX4_take_75 ?_
    obtain ⟨g10, hf⟩ := grd_some hf
    refine w_clearOn X hP hS  g10 dX4_take_76 (fun H locs hP hS => ?_)
    refine lv_iinc (v := (x5 + (1 : Int32))) (lv' := [(5, .int (x5 + (1 : Int32))), (0, .ref (ad 9)), (3, .ref (ad 8)), (4, .ref (ad (34 + b4)))]) hx hb dX4_take_77 hl (k := 3) rfl rfl (by decide) rfl (fun ls hl => ?_)
    refine lv_goto (tgt := 49) hx hb dX4_take_80 (by decide) ?_
    exact hkb _ _ _ _ _ ls hf hb_4_0 hP hS (lv_sub hl [1, 2, 3, 0] rfl)
set_option maxHeartbeats 4000000 in
set_option maxRecDepth 100000 in
theorem vl_X4_take_49 (X : Cx D cI cP cB cA 79 ad tL tC p s m c cX4_take 6 args RX4) (hr : meth.sig.returnType = none) (hlk : meth.locks = false) {res : Stt} (ke : Stt → Option (Stt)) (hke : ∀ (S : Stt) (H : Heap) (locs : List Loc) (ls : Array Slot), ke S = some res → va_P D vwCl (wl 79 ad (cfC ad cI cP cB cA S)) H → va_S (Ar 79 ad) s.heap H locs → lv_has ls 6 [] → W p l e (rmD 5) s m args below meth c H locs 0 0 (MQ below (QV D 79 ad (cfC ad cI cP cB cA res)) args s 0 0 (Ar 79 ad)) (F0 m 83 ls [])) : ∀ (n : Nat), ∀ (b4 : Nat) (x5 : Int32) (S : Stt) (H : Heap) (locs : List Loc) (ls : Array Slot), fl_X4_take_49 ke n b4 x5 S = some res → b4 < 5 → va_P D vwCl (wl 79 ad (cfC ad cI cP cB cA S)) H → va_S (Ar 79 ad) s.heap H locs → lv_has ls 6 [(0, .ref (ad 9)), (3, .ref (ad 8)), (4, .ref (ad (34 + b4))), (5, .int x5)] → W p l e (rmD 5) s m args below meth c H locs 0 0 (MQ below (QV D 79 ad (cfC ad cI cP cB cA res)) args s 0 0 (Ar 79 ad)) (F0 m 49 ls []) := by
  intro n
  induction n with
  | zero =>
    intro b4 x5 S H locs ls hf hb_4_0 hP hS hl
    cases hf
  | succ n ih =>
    intro b4 x5 S H locs ls hf hb_4_0 hP hS hl
    exact vb_X4_take_49 X hr hlk _ ke ih hke b4 x5 S H locs ls hf hb_4_0 hP hS hl
end
set_option maxHeartbeats 4000000 in
set_option maxRecDepth 100000 in
theorem m_X4_take {l : Launch} {D : va_G} {cI cP cB cA : ClassId} {ad : Nat → Nat} {tL tC : Nat} {z1 : Nat} {x2 : Int32} {b4 : Nat} (hb_1_0 : z1 < 2) (hb_4_0 : b4 < 5) {S : Stt} {res : Stt} (hf : f_X4_take z1 x2 b4 S = some res) : Ct l D cI cP cB cA 79 ad tL tC yX4_take cX4_take 6 none 5 [.ref (ad 9), .ref (ad (1 + z1)), .int x2, .ref (ad 8), .ref (ad (34 + b4))] (cfC ad cI cP cB cA S) (QV D 79 ad (cfC ad cI cP cB cA res)) := by
  refine ctOf (by decide) (Nat.le_of_ble_eq_true rfl) ?_
  intro p e s m args below meth c ls X hr hlk hP hl
  have hS : va_S (Ar 79 ad) s.heap s.heap [] := va_S.rf
  have hx := X.1.1
  have hb := X.1.2.1
  have hl : lv_has ls 6 [(0, .ref (ad 9)), (1, .ref (ad (1 + z1))), (2, .int x2), (3, .ref (ad 8)), (4, .ref (ad (34 + b4)))] := hl
  unfold f_X4_take at hf
  refine lv_aload_n hx hb dX4_take_0 rfl (lv_at hl 0 rfl) ?_
  refine lv_aload_n hx hb dX4_take_1 rfl (lv_at hl 1 rfl) ?_
  refine lv_iload_n hx hb dX4_take_2 rfl (lv_at hl 2 rfl) ?_
  obtain ⟨q1, e2, hf⟩ := bind_some hf
  refine aftI hS (cV (rest := [.ref (ad 9)]) X hP hS [.int x2] (m_X6_sizeOf hb_1_0 e2) cw_X6_sizeOf tw_229 tw_422 tw_698 (sh_lt hb_1_0) (cf_Shelf hb_1_0) rfl (fits9 (by first | decide | omega) (by decide)) rfl rfl hl.1 (Nat.le_of_ble_eq_true rfl) dX4_take_3 ⟨Nat.zero_le _, Nat.zero_le _⟩) (fun H locs hP hS => ?_)
  refine lv_bipush (v := (8 : Int32)) hx hb dX4_take_6 (by decide) ?_
  refine va_mmin (rest := [.ref (ad 9)]) hx hb (X.1.2.2.1.trans hl.1.symm) X.1.2.2.2.1 (X.1.2.2.2.2 _ tw_230) (X.1.2.2.2.2 _ tw_495) (X.1.2.2.2.2 _ tw_393) (X.1.2.2.2.2 _ cw_J9_min_7cf53.1) (by first | exact Nat.le_of_ble_eq_true rfl | exact Nat.succ_le_succ (Nat.zero_le _)) (by first | exact Nat.le_of_ble_eq_true rfl | exact Nat.le_trans (m := 44) (Nat.le_of_ble_eq_true rfl) (Nat.mul_le_mul_left 44 (Nat.succ_le_succ (Nat.zero_le _)))) (Nat.zero_le _) (Nat.zero_le _) dX4_take_8 ?_
  refine p_Planner_size X hP hS  tw_49 dX4_take_11 (fun H locs hP hS => ?_)
  refine lv_iconst (v := (0 : Int32)) hx hb dX4_take_14 (by decide) ?_
  refine lv_istore (lv' := [(5, .int (0 : Int32)), (0, .ref (ad 9)), (1, .ref (ad (1 + z1))), (2, .int x2), (3, .ref (ad 8)), (4, .ref (ad (34 + b4)))]) hx hb dX4_take_15 hl (by decide) rfl (fun ls hl => ?_)
  refine vl_X4_take_17 X hr hlk _ ?_ 300 _ _ _ _ _ _ _ ls hf hb_1_0 hb_4_0 hP hS (lv_sub hl [1, 2, 3, 4, 5, 0] rfl)
  intro b4 S H locs ls hf hb_4_0 hP hS hl
  refine lv_iconst (v := (0 : Int32)) hx hb dX4_take_46 (by decide) ?_
  refine lv_istore (lv' := [(5, .int (0 : Int32)), (0, .ref (ad 9)), (3, .ref (ad 8)), (4, .ref (ad (34 + b4)))]) hx hb dX4_take_47 hl (by decide) rfl (fun ls hl => ?_)
  refine vl_X4_take_49 X hr hlk _ ?_ 300 _ _ _ _ _ ls hf hb_4_0 hP hS (lv_sub hl [1, 2, 3, 0] rfl)
  intro S H locs ls hf hP hS hl
  cases hf
  exact rtV X hr hlk hP hS dX4_take_83
/-! X5_takeItem -/
section
variable {p : Program} {l : Launch} {e : Env} {s : State} {m : MethodId} {args : Array Value} {below : List Frame} {meth : Method} {c : Code}
variable {D : va_G} {cI cP cB cA : ClassId} {ad : Nat → Nat} {tL tC : Nat}
set_option maxHeartbeats 4000000 in
set_option maxRecDepth 100000 in
theorem vj_X5_takeItem_97 (X : Cx D cI cP cB cA 79 ad tL tC p s m c cX5_takeItem 5 args RX5) (hr : meth.sig.returnType = none) (hlk : meth.locks = false) {res : Stt} : ∀ (b1 : Nat) (x2 : Int32) (xt0 : Int32) (S : Stt) (H : Heap) (locs : List Loc) (ls : Array Slot), fj_X5_takeItem_97 b1 x2 xt0 S = some res → b1 < 5 → va_P D vwCl (wl 79 ad (cfC ad cI cP cB cA S)) H → va_S (Ar 79 ad) s.heap H locs → lv_has ls 5 [(0, .ref (ad 7)), (1, .ref (ad (34 + b1))), (2, .int x2)] → W p l e (rmD 5) s m args below meth c H locs 0 0 (MQ below (QV D 79 ad (cfC ad cI cP cB cA res)) args s 0 0 (Ar 79 ad)) (F0 m 97 ls [.int xt0]) := by
  intro b1 x2 xt0 S H locs ls hf hb_1_0 hP hS hl
  have hx := X.1.1
  have hb := X.1.2.1
  unfold fj_X5_takeItem_97 at hf
  refine lv_istore_n (lv' := [(3, .int xt0), (0, .ref (ad 7)), (1, .ref (ad (34 + b1))), (2, .int x2)]) hx hb dX5_takeItem_97 rfl hl (by decide) rfl (fun ls hl => ?_)
  refine lv_aload_n hx hb dX5_takeItem_98 rfl (lv_at hl 1 rfl) ?_
  refine lv_iconst (v := (0 : Int32)) hx hb dX5_takeItem_99 (by decide) ?_
  refine lv_iconst (v := (1 : Int32)) hx hb dX5_takeItem_100 (by decide) ?_
  obtain ⟨q11, e12, hf⟩ := bind_some hf
  refine aftI hS (cV (rest := []) X hP hS [.int (0 : Int32), .int (1 : Int32)] (m_X5_takeFigure  e12) cw_X5_takeFigure tw_153 tw_432 tw_691 (by decide) (cf_Scribe ) rfl (fits9 (by first | decide | omega) (by decide)) rfl rfl hl.1 (Nat.le_of_ble_eq_true rfl) dX5_takeItem_101 ⟨Nat.zero_le _, Nat.zero_le _⟩) (fun H locs hP hS => ?_)
  refine lv_istore (lv' := [(4, .int q11.1), (3, .int xt0), (0, .ref (ad 7)), (1, .ref (ad (34 + b1))), (2, .int x2)]) hx hb dX5_takeItem_104 hl (by decide) rfl (fun ls hl => ?_)
  refine lv_aload_n hx hb dX5_takeItem_106 rfl (lv_at hl 3 rfl) ?_
  refine lv_iload_n hx hb dX5_takeItem_107 rfl (lv_at hl 4 rfl) ?_
  refine lv_iload_n hx hb dX5_takeItem_108 rfl (lv_at hl 1 rfl) ?_
  refine lv_iload hx hb dX5_takeItem_109 (lv_at hl 0 rfl) ?_
  refine lv_aload_n hx hb dX5_takeItem_111 rfl (lv_at hl 2 rfl) ?_
  obtain ⟨q13, e14, hf⟩ := bind_some hf
  refine aftI hS (cV (rest := [.int q11.1, .int xt0, .int x2, .ref (ad (34 + b1))]) X hP hS [] (m_X5_takeWords  e14) cw_X5_takeWords tw_161 tw_443 tw_693 (by decide) (cf_Scribe ) rfl (fits9 (by first | decide | omega) (by decide)) rfl rfl hl.1 (Nat.le_of_ble_eq_true rfl) dX5_takeItem_112 ⟨Nat.zero_le _, Nat.zero_le _⟩) (fun H locs hP hS => ?_)
  refine lv_bipush (v := (-9 : Int32)) hx hb dX5_takeItem_115 (by decide) ?_
  obtain ⟨q15, e16, hf⟩ := bind_some hf
  refine aftV hS (cV (rest := []) X hP hS [.int x2, .int xt0, .int q11.1, .int q13.1, .int (-9 : Int32)] (m_X0_append hb_1_0 e16) cw_X0_append tw_154 tw_433 tw_647 (bk_lt hb_1_0) (cf_Book hb_1_0) rfl (fits9 (by first | decide | omega) (by decide)) rfl rfl hl.1 (Nat.le_of_ble_eq_true rfl) dX5_takeItem_117 ⟨Nat.zero_le _, Nat.zero_le _⟩) (fun H locs hP hS => ?_)
  cases hf
  exact rtV X hr hlk hP hS dX5_takeItem_120
set_option maxHeartbeats 4000000 in
set_option maxRecDepth 100000 in
theorem vj_X5_takeItem_86 (X : Cx D cI cP cB cA 79 ad tL tC p s m c cX5_takeItem 5 args RX5) (hr : meth.sig.returnType = none) (hlk : meth.locks = false) {res : Stt} : ∀ (b1 : Nat) (x2 : Int32) (S : Stt) (H : Heap) (locs : List Loc) (ls : Array Slot), fj_X5_takeItem_86 b1 x2 S = some res → b1 < 5 → va_P D vwCl (wl 79 ad (cfC ad cI cP cB cA S)) H → va_S (Ar 79 ad) s.heap H locs → lv_has ls 5 [(0, .ref (ad 7)), (1, .ref (ad (34 + b1))), (2, .int x2)] → W p l e (rmD 5) s m args below meth c H locs 0 0 (MQ below (QV D 79 ad (cfC ad cI cP cB cA res)) args s 0 0 (Ar 79 ad)) (F0 m 86 ls []) := by
  intro b1 x2 S H locs ls hf hb_1_0 hP hS hl
  have hx := X.1.1
  have hb := X.1.2.1
  unfold fj_X5_takeItem_86 at hf
  refine lv_aload_n hx hb dX5_takeItem_86 rfl (lv_at hl 0 rfl) ?_
  refine lv_iconst (v := (0 : Int32)) hx hb dX5_takeItem_87 (by decide) ?_
  refine lv_iconst (v := (5 : Int32)) hx hb dX5_takeItem_88 (by decide) ?_
  obtain ⟨q9, e10, hf⟩ := bind_some hf
  refine aftI hS (cV (rest := []) X hP hS [.int (0 : Int32), .int (5 : Int32)] (m_X5_takeFigure  e10) cw_X5_takeFigure tw_153 tw_432 tw_691 (by decide) (cf_Scribe ) rfl (fits9 (by first | decide | omega) (by decide)) rfl rfl hl.1 (Nat.le_of_ble_eq_true rfl) dX5_takeItem_89 ⟨Nat.zero_le _, Nat.zero_le _⟩) (fun H locs hP hS => ?_)
  refine lv_goto (tgt := 97) hx hb dX5_takeItem_92 (by decide) ?_
  exact vj_X5_takeItem_97 X hr hlk _ _ _ _ _ _ ls hf hb_1_0 hP hS (lv_sub hl [0, 1, 2] rfl)
end
set_option maxHeartbeats 4000000 in
set_option maxRecDepth 100000 in
theorem m_X5_takeItem {l : Launch} {D : va_G} {cI cP cB cA : ClassId} {ad : Nat → Nat} {tL tC : Nat} {b1 : Nat} (hb_1_0 : b1 < 5) {S : Stt} {res : Stt} (hf : f_X5_takeItem b1 S = some res) : Ct l D cI cP cB cA 79 ad tL tC yX5_takeItem cX5_takeItem 5 none 5 [.ref (ad 7), .ref (ad (34 + b1))] (cfC ad cI cP cB cA S) (QV D 79 ad (cfC ad cI cP cB cA res)) := by
  refine ctOf (by decide) (Nat.le_of_ble_eq_true rfl) ?_
  intro p e s m args below meth c ls X hr hlk hP hl
  have hS : va_S (Ar 79 ad) s.heap s.heap [] := va_S.rf
  have hx := X.1.1
  have hb := X.1.2.1
  have hl : lv_has ls 5 [(0, .ref (ad 7)), (1, .ref (ad (34 + b1)))] := hl
  unfold f_X5_takeItem at hf
  refine lv_aload_n hx hb dX5_takeItem_0 rfl (lv_at hl 0 rfl) ?_
  obtain ⟨q1, e2, hf⟩ := bind_some hf
  refine aftI hS (cV (rest := []) X hP hS [] (m_X5_sign  e2) cw_X5_sign tw_149 tw_429 tw_689 (by decide) (cf_Scribe ) rfl (fits9 (by first | decide | omega) (by decide)) rfl rfl hl.1 (Nat.le_of_ble_eq_true rfl) dX5_takeItem_1 ⟨Nat.zero_le _, Nat.zero_le _⟩) (fun H locs hP hS => ?_)
  obtain ⟨q3, e4, hf⟩ := bind_some hf
  refine aftI hS (cS (rest := []) X hP hS [.int q1.1] (m_X5_kindByLetter  e4) cw_X5_kindByLetter tw_152 tw_431 (fits9 (by first | decide | omega) (by decide)) rfl rfl hl.1 (Nat.le_of_ble_eq_true rfl) dX5_takeItem_4 ⟨Nat.zero_le _, Nat.zero_le _⟩) (fun H locs hP hS => ?_)
  refine lv_istore_n (lv' := [(2, .int q3.1), (0, .ref (ad 7)), (1, .ref (ad (34 + b1)))]) hx hb dX5_takeItem_7 rfl hl (by decide) rfl (fun ls hl => ?_)
  refine lv_iload_n hx hb dX5_takeItem_8 rfl (lv_at hl 0 rfl) ?_
  refine lv_bipush (v := (-9 : Int32)) hx hb dX5_takeItem_9 (by decide) ?_
  refine lv_icmp_eq (tgt := 23) hx hb dX5_takeItem_11 (by decide) (fun c5 => ?_) (fun c5 => ?_)
  · rw [if_pos c5] at hf
    refine lv_aload_n hx hb dX5_takeItem_23 rfl (lv_at hl 1 rfl) ?_
    refine lv_iconst (v := (1 : Int32)) hx hb dX5_takeItem_24 (by decide) ?_
    refine p_Scribe_stuck X hP hS  (Or.inr rfl) tw_33 dX5_takeItem_25 (fun H locs hP hS => ?_)
    cases hf
    exact rtV X hr hlk hP hS dX5_takeItem_28
  · rw [if_neg c5] at hf
    refine lv_aload_n hx hb dX5_takeItem_14 rfl (lv_at hl 2 rfl) ?_
    refine gN_Book_count X hP hb_1_0 tw_26 dX5_takeItem_15 ?_
    refine lv_bipush (v := (6 : Int32)) hx hb dX5_takeItem_18 (by decide) ?_
    refine lv_icmp_ne (tgt := 29) hx hb dX5_takeItem_20 (by decide) (fun c6 => ?_) (fun c6 => ?_)
    · rw [if_neg c6] at hf
      refine lv_aload_n hx hb dX5_takeItem_29 rfl (lv_at hl 1 rfl) ?_
      refine lv_dup hx hb dX5_takeItem_30 rfl ?_
      refine g_Scribe_place X hP  tw_32 dX5_takeItem_31 ?_
      refine lv_iconst (v := (1 : Int32)) hx hb dX5_takeItem_34 (by decide) ?_
      refine lv_iadd hx hb dX5_takeItem_35 ?_
      refine p_Scribe_place X hP hS  tw_32 dX5_takeItem_36 (fun H locs hP hS => ?_)
      refine lv_iload_n hx hb dX5_takeItem_39 rfl (lv_at hl 0 rfl) ?_
      refine lv_iconst (v := (3 : Int32)) hx hb dX5_takeItem_40 (by decide) ?_
      refine lv_icmp_ne (tgt := 76) hx hb dX5_takeItem_41 (by decide) (fun c7 => ?_) (fun c7 => ?_)
      · rw [if_neg c7] at hf
        refine lv_iload_n hx hb dX5_takeItem_76 rfl (lv_at hl 0 rfl) ?_
        refine lv_iconst (v := (2 : Int32)) hx hb dX5_takeItem_77 (by decide) ?_
        refine lv_icmp_eq (tgt := 86) hx hb dX5_takeItem_78 (by decide) (fun c8 => ?_) (fun c8 => ?_)
        · rw [if_pos c8] at hf
          exact vj_X5_takeItem_86 X hr hlk _ _ _ _ _ ls hf hb_1_0 hP hS (lv_sub hl [1, 2, 0] rfl)
        · rw [if_neg c8] at hf
          refine lv_iload_n hx hb dX5_takeItem_81 rfl (lv_at hl 0 rfl) ?_
          refine lv_iconst (v := (5 : Int32)) hx hb dX5_takeItem_82 (by decide) ?_
          refine lv_icmp_ne (tgt := 95) hx hb dX5_takeItem_83 (by decide) (fun c17 => ?_) (fun c17 => ?_)
          · rw [if_neg c17] at hf
            refine lv_bipush (v := (-9 : Int32)) hx hb dX5_takeItem_95 (by decide) ?_
            exact vj_X5_takeItem_97 X hr hlk _ _ _ _ _ _ ls hf hb_1_0 hP hS (lv_sub hl [1, 2, 0] rfl)
          · rw [if_pos c17] at hf
            exact vj_X5_takeItem_86 X hr hlk _ _ _ _ _ ls hf hb_1_0 hP hS (lv_sub hl [1, 2, 0] rfl)
      · rw [if_pos c7] at hf
        refine lv_aload_n hx hb dX5_takeItem_44 rfl (lv_at hl 1 rfl) ?_
        refine lv_iconst (v := (5 : Int32)) hx hb dX5_takeItem_45 (by decide) ?_
        refine lv_bipush (v := (6 : Int32)) hx hb dX5_takeItem_46 (by decide) ?_
        obtain ⟨q18, e19, hf⟩ := bind_some hf
        refine aftI hS (cV (rest := []) X hP hS [.int (5 : Int32), .int (6 : Int32)] (m_X5_takeFigure  e19) cw_X5_takeFigure tw_153 tw_432 tw_691 (by decide) (cf_Scribe ) rfl (fits9 (by first | decide | omega) (by decide)) rfl rfl hl.1 (Nat.le_of_ble_eq_true rfl) dX5_takeItem_48 ⟨Nat.zero_le _, Nat.zero_le _⟩) (fun H locs hP hS => ?_)
        refine lv_istore_n (lv' := [(3, .int q18.1), (2, .int q3.1), (0, .ref (ad 7)), (1, .ref (ad (34 + b1)))]) hx hb dX5_takeItem_51 rfl hl (by decide) rfl (fun ls hl => ?_)
        refine lv_aload_n hx hb dX5_takeItem_52 rfl (lv_at hl 2 rfl) ?_
        refine lv_iconst (v := (0 : Int32)) hx hb dX5_takeItem_53 (by decide) ?_
        refine lv_iconst (v := (4 : Int32)) hx hb dX5_takeItem_54 (by decide) ?_
        obtain ⟨q20, e21, hf⟩ := bind_some hf
        refine aftI hS (cV (rest := []) X hP hS [.int (0 : Int32), .int (4 : Int32)] (m_X5_takeFigure  e21) cw_X5_takeFigure tw_153 tw_432 tw_691 (by decide) (cf_Scribe ) rfl (fits9 (by first | decide | omega) (by decide)) rfl rfl hl.1 (Nat.le_of_ble_eq_true rfl) dX5_takeItem_55 ⟨Nat.zero_le _, Nat.zero_le _⟩) (fun H locs hP hS => ?_)
        refine lv_istore (lv' := [(4, .int q20.1), (3, .int q18.1), (2, .int q3.1), (0, .ref (ad 7)), (1, .ref (ad (34 + b1)))]) hx hb dX5_takeItem_58 hl (by decide) rfl (fun ls hl => ?_)
        refine lv_aload_n hx hb dX5_takeItem_60 rfl (lv_at hl 4 rfl) ?_
        refine lv_iload_n hx hb dX5_takeItem_61 rfl (lv_at hl 2 rfl) ?_
        refine lv_bipush (v := (-9 : Int32)) hx hb dX5_takeItem_62 (by decide) ?_
        refine lv_iconst (v := (0 : Int32)) hx hb dX5_takeItem_64 (by decide) ?_
        refine lv_iconst (v := (1 : Int32)) hx hb dX5_takeItem_65 (by decide) ?_
        refine lv_iload_n hx hb dX5_takeItem_66 rfl (lv_at hl 1 rfl) ?_
        refine lv_ishl hx hb dX5_takeItem_67 ?_
        refine lv_iload hx hb dX5_takeItem_68 (lv_at hl 0 rfl) ?_
        obtain ⟨q22, e23, hf⟩ := bind_some hf
        refine aftV hS (cV (rest := []) X hP hS [.int q3.1, .int (-9 : Int32), .int (0 : Int32), .int ((1 : Int32) <<< (q18.1 &&& 31)), .int q20.1] (m_X0_append hb_1_0 e23) cw_X0_append tw_154 tw_433 tw_647 (bk_lt hb_1_0) (cf_Book hb_1_0) rfl (fits9 (by first | decide | omega) (by decide)) rfl rfl hl.1 (Nat.le_of_ble_eq_true rfl) dX5_takeItem_70 ⟨Nat.zero_le _, Nat.zero_le _⟩) (fun H locs hP hS => ?_)
        refine lv_goto (tgt := 120) hx hb dX5_takeItem_73 (by decide) ?_
        cases hf
        exact rtV X hr hlk hP hS dX5_takeItem_120
    · rw [if_pos c6] at hf
      refine lv_aload_n hx hb dX5_takeItem_23 rfl (lv_at hl 1 rfl) ?_
      refine lv_iconst (v := (1 : Int32)) hx hb dX5_takeItem_24 (by decide) ?_
      refine p_Scribe_stuck X hP hS  (Or.inr rfl) tw_33 dX5_takeItem_25 (fun H locs hP hS => ?_)
      cases hf
      exact rtV X hr hlk hP hS dX5_takeItem_28
