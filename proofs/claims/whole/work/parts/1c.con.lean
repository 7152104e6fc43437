/-! X3_weight -/
section
variable {p : Program} {l : Launch} {e : Env} {s : State} {m : MethodId} {args : Array Value} {below : List Frame} {meth : Method} {c : Code}
variable {D : va_G} {cI cP cB cA : ClassId} {ad : Nat → Nat} {tL tC : Nat}
end
set_option maxHeartbeats 4000000 in
set_option maxRecDepth 100000 in
theorem m_X3_weight {l : Launch} {D : va_G} {cI cP cB cA : ClassId} {ad : Nat → Nat} {tL tC : Nat} {b0 : Nat} {i0 : Nat} (hb_0_0 : b0 < 5) (hb_0_1 : i0 < 6) {S : Stt} {res : Int32 × Stt} (hf : f_X3_weight b0 i0 S = some res) : Ct l D cI cP cB cA 79 ad tL tC yX3_weight cX3_weight 1 (some .int) 2 [.ref (ad (49 + 6 * b0 + i0))] (cfC ad cI cP cB cA S) (QI D 79 ad res.1 (cfC ad cI cP cB cA res.2)) := by
  refine ctOf (by decide) (Nat.le_of_ble_eq_true rfl) ?_
  intro p e s m args below meth c ls X hr hlk hP hl
  have hS : va_S (Ar 79 ad) s.heap s.heap [] := va_S.rf
  have hx := X.1.1
  have hb := X.1.2.1
  have hl : lv_has ls 1 [(0, .ref (ad (49 + 6 * b0 + i0)))] := hl
  unfold f_X3_weight at hf
  refine lv_aload_n hx hb dX3_weight_0 rfl (lv_at hl 0 rfl) ?_
  refine g_Page_words X hP hb_0_0 hb_0_1 tw_10 dX3_weight_1 ?_
  obtain ⟨q1, e2, hf⟩ := bind_some hf
  refine aftI hS (cS (rest := []) X hP hS [.int (S.1 13 b0 i0)] (m_J6_bitCount_0f7a4  e2) cw_J6_bitCount_0f7a4 tw_159 tw_438 (fits9 (by first | decide | omega) (by decide)) rfl rfl hl.1 (Nat.le_of_ble_eq_true rfl) dX3_weight_4 ⟨Nat.zero_le _, Nat.zero_le _⟩) (fun H locs hP hS => ?_)
  refine lv_aload_n hx hb dX3_weight_7 rfl (lv_at hl 0 rfl) ?_
  refine lv_iconst (v := (1 : Int32)) hx hb dX3_weight_8 (by decide) ?_
  obtain ⟨q3, e4, hf⟩ := bind_some hf
  refine aftI hS (cV (rest := [.int q1.1]) X hP hS [.int (1 : Int32)] (m_X3_isOf hb_0_0 hb_0_1 e4) cw_X3_isOf tw_160 tw_442 tw_678 (pg_lt hb_0_0 hb_0_1) (cf_Page hb_0_0 hb_0_1) rfl (fits9 (by first | decide | omega) (by decide)) rfl rfl hl.1 (Nat.le_of_ble_eq_true rfl) dX3_weight_9 ⟨Nat.zero_le _, Nat.zero_le _⟩) (fun H locs hP hS => ?_)
  refine lv_if_eq (tgt := 20) hx hb dX3_weight_12 (by decide) (fun c5 => ?_) (fun c5 => ?_)
  · rw [if_pos c5] at hf
    refine lv_iconst (v := (0 : Int32)) hx hb dX3_weight_20 (by decide) ?_
    refine lv_iadd hx hb dX3_weight_21 ?_
    cases hf
    exact rtI X hr hlk hP hS dX3_weight_22
  · rw [if_neg c5] at hf
    refine lv_bipush (v := (10 : Int32)) hx hb dX3_weight_15 (by decide) ?_
    refine lv_goto (tgt := 21) hx hb dX3_weight_17 (by decide) ?_
    refine lv_iadd hx hb dX3_weight_21 ?_
    cases hf
    exact rtI X hr hlk hP hS dX3_weight_22
/-! X4_firstClear -/
section
variable {p : Program} {l : Launch} {e : Env} {s : State} {m : MethodId} {args : Array Value} {below : List Frame} {meth : Method} {c : Code}
variable {D : va_G} {cI cP cB cA : ClassId} {ad : Nat → Nat} {tL tC : Nat}
set_option maxHeartbeats 4000000 in
set_option maxRecDepth 100000 in
theorem vb_X4_firstClear_2 (X : Cx D cI cP cB cA 79 ad tL tC p s m c cX4_firstClear 4 args RX4) (hr : meth.sig.returnType = (some .int)) (hlk : meth.locks = false) {res : Int32 × Stt} (kb : Int32 → Int32 → Stt → Option (Int32 × Stt)) (ke : Stt → Option (Int32 × Stt)) (hkb : ∀ (x1 : Int32) (x3 : Int32) (S : Stt) (H : Heap) (locs : List Loc) (ls : Array Slot), kb x1 x3 S = some res → va_P D vwCl (wl 79 ad (cfC ad cI cP cB cA S)) H → va_S (Ar 79 ad) s.heap H locs → lv_has ls 4 [(0, .ref (ad 9)), (1, .int x1), (3, .int x3)] → W p l e (rmD 2) s m args below meth c H locs 0 0 (MQ below (QI D 79 ad res.1 (cfC ad cI cP cB cA res.2)) args s 0 0 (Ar 79 ad)) (F0 m 2 ls [])) (hke : ∀ (S : Stt) (H : Heap) (locs : List Loc) (ls : Array Slot), ke S = some res → va_P D vwCl (wl 79 ad (cfC ad cI cP cB cA S)) H → va_S (Ar 79 ad) s.heap H locs → lv_has ls 4 [] → W p l e (rmD 2) s m args below meth c H locs 0 0 (MQ below (QI D 79 ad res.1 (cfC ad cI cP cB cA res.2)) args s 0 0 (Ar 79 ad)) (F0 m 34 ls [])) : ∀ (x1 : Int32) (x3 : Int32) (S : Stt) (H : Heap) (locs : List Loc) (ls : Array Slot), fb_X4_firstClear_2 kb ke x1 x3 S = some res → va_P D vwCl (wl 79 ad (cfC ad cI cP cB cA S)) H → va_S (Ar 79 ad) s.heap H locs → lv_has ls 4 [(0, .ref (ad 9)), (1, .int x1), (3, .int x3)] → W p l e (rmD 2) s m args below meth c H locs 0 0 (MQ below (QI D 79 ad res.1 (cfC ad cI cP cB cA res.2)) args s 0 0 (Ar 79 ad)) (F0 m 2 ls []) := by
  intro x1 x3 S H locs ls hf hP hS hl
  have hx := X.1.1
  have hb := X.1.2.1
  unfold fb_X4_firstClear_2 at hf
  refine lv_iload_n hx hb dX4_firstClear_2 rfl (lv_at hl 2 rfl) ?_
  refine lv_bipush (v := (20 : Int32)) hx hb dX4_firstClear_3 (by decide) ?_
  refine lv_icmp_gt (tgt := 34) hx hb dX4_firstClear_5 (by decide) (fun c1 => ?_) (fun c1 => ?_)
  · rw [if_pos c1] at hf
    exact hke  _ _ _ ls hf  hP hS (lv_sub hl [] rfl)
  · rw [if_neg c1] at hf
    refine lv_aload_n hx hb dX4_firstClear_8 rfl (lv_at hl 0 rfl) ?_
    refine g_Planner_clearOn X hP  tw_47 dX4_firstClear_9 ?_
    refine lv_iload_n hx hb dX4_firstClear_12 rfl (lv_at hl 2 rfl) ?_
    obtain ⟨g2, hf⟩ := grd_some hf
    refine r_clearOn X hP  g2 dX4_firstClear_13 ?_
    refine lv_aload_n hx hb dX4_firstClear_14 rfl (lv_at hl 0 rfl) ?_
    refine g_Planner_deeds X hP  tw_48 dX4_firstClear_15 ?_
    refine lv_iload_n hx hb dX4_firstClear_18 rfl (lv_at hl 1 rfl) ?_
    obtain ⟨g3, hf⟩ := grd_some hf
    refine r_deeds X hP  g3 dX4_firstClear_19 ?_
    obtain ⟨q4, e5, hf⟩ := bind_some hf
    refine aftI hS (cSN (rest := []) X hP hS [.int (S.1 40 0 x3.toNatClampNeg), .int (S.1 41 0 x1.toNatClampNeg)] (m_X7_hasBit  e5) cw_X7_hasBit tw_235 tw_435 (fits9 (by first | decide | omega) (by decide)) rfl rfl hl.1 (Nat.le_of_ble_eq_true rfl) dX4_firstClear_20 ⟨Nat.zero_le _, Nat.zero_le _⟩) (fun H locs hP hS => ?_)
    refine lv_if_eq (tgt := 28) hx hb dX4_firstClear_23 (by decide) (fun c6 => ?_) (fun c6 => ?_)
    · rw [if_pos c6] at hf
      refine lv_iinc (v := (x3 + (1 : Int32))) (lv' := [(3, .int (x3 + (1 : Int32))), (0, .ref (ad 9)), (1, .int x1)]) hx hb dX4_firstClear_28 hl (k := 2) rfl rfl (by decide) rfl (fun ls hl => ?_)
      refine lv_goto (tgt := 2) hx hb dX4_firstClear_31 (by decide) ?_
      exact hkb _ _ _ _ _ ls hf  hP hS (lv_sub hl [1, 2, 0] rfl)
    · rw [if_neg c6] at hf
      refine lv_iload_n hx hb dX4_firstClear_26 rfl (lv_at hl 2 rfl) ?_
      cases hf
      exact rtI X hr hlk hP hS dX4_firstClear_27
set_option maxHeartbeats 4000000 in
set_option maxRecDepth 100000 in
theorem vl_X4_firstClear_2 (X : Cx D cI cP cB cA 79 ad tL tC p s m c cX4_firstClear 4 args RX4) (hr : meth.sig.returnType = (some .int)) (hlk : meth.locks = false) {res : Int32 × Stt} (ke : Stt → Option (Int32 × Stt)) (hke : ∀ (S : Stt) (H : Heap) (locs : List Loc) (ls : Array Slot), ke S = some res → va_P D vwCl (wl 79 ad (cfC ad cI cP cB cA S)) H → va_S (Ar 79 ad) s.heap H locs → lv_has ls 4 [] → W p l e (rmD 2) s m args below meth c H locs 0 0 (MQ below (QI D 79 ad res.1 (cfC ad cI cP cB cA res.2)) args s 0 0 (Ar 79 ad)) (F0 m 34 ls [])) : ∀ (n : Nat), ∀ (x1 : Int32) (x3 : Int32) (S : Stt) (H : Heap) (locs : List Loc) (ls : Array Slot), fl_X4_firstClear_2 ke n x1 x3 S = some res → va_P D vwCl (wl 79 ad (cfC ad cI cP cB cA S)) H → va_S (Ar 79 ad) s.heap H locs → lv_has ls 4 [(0, .ref (ad 9)), (1, .int x1), (3, .int x3)] → W p l e (rmD 2) s m args below meth c H locs 0 0 (MQ below (QI D 79 ad res.1 (cfC ad cI cP cB cA res.2)) args s 0 0 (Ar 79 ad)) (F0 m 2 ls []) := by
  intro n
  induction n with
  | zero =>
    intro x1 x3 S H locs ls hf hP hS hl
    cases hf
  | succ n ih =>
    intro x1 x3 S H locs ls hf hP hS hl
    exact vb_X4_firstClear_2 X hr hlk _ ke ih hke x1 x3 S H locs ls hf  hP hS hl
end
set_option maxHeartbeats 4000000 in
set_option maxRecDepth 100000 in
theorem m_X4_firstClear {l : Launch} {D : va_G} {cI cP cB cA : ClassId} {ad : Nat → Nat} {tL tC : Nat} {x1 : Int32} {x2 : Int32} {S : Stt} {res : Int32 × Stt} (hf : f_X4_firstClear x1 x2 S = some res) : Ct l D cI cP cB cA 79 ad tL tC yX4_firstClear cX4_firstClear 4 (some .int) 2 [.ref (ad 9), .int x1, .int x2] (cfC ad cI cP cB cA S) (QI D 79 ad res.1 (cfC ad cI cP cB cA res.2)) := by
  refine ctOf (by decide) (Nat.le_of_ble_eq_true rfl) ?_
  intro p e s m args below meth c ls X hr hlk hP hl
  have hS : va_S (Ar 79 ad) s.heap s.heap [] := va_S.rf
  have hx := X.1.1
  have hb := X.1.2.1
  have hl : lv_has ls 4 [(0, .ref (ad 9)), (1, .int x1), (2, .int x2)] := hl
  unfold f_X4_firstClear at hf
  refine lv_iload_n hx hb dX4_firstClear_0 rfl (lv_at hl 2 rfl) ?_
  refine lv_istore_n (lv' := [(3, .int x2), (0, .ref (ad 9)), (1, .int x1), (2, .int x2)]) hx hb dX4_firstClear_1 rfl hl (by decide) rfl (fun ls hl => ?_)
  refine vl_X4_firstClear_2 X hr hlk _ ?_ 300 _ _ _ _ _ ls hf  hP hS (lv_sub hl [1, 2, 0] rfl)
  intro S H locs ls hf hP hS hl
  refine lv_bipush (v := (-9 : Int32)) hx hb dX4_firstClear_34 (by decide) ?_
  cases hf
  exact rtI X hr hlk hP hS dX4_firstClear_36
/-! X4_tellDays -/
section
variable {p : Program} {l : Launch} {e : Env} {s : State} {m : MethodId} {args : Array Value} {below : List Frame} {meth : Method} {c : Code}
variable {D : va_G} {cI cP cB cA : ClassId} {ad : Nat → Nat} {tL tC : Nat}
set_option maxHeartbeats 4000000 in
set_option maxRecDepth 100000 in
theorem vb_X4_tellDays_12 (X : Cx D cI cP cB cA 79 ad tL tC p s m c cX4_tellDays 4 args RX4) (hr : meth.sig.returnType = none) (hlk : meth.locks = false) {res : Stt} (kb : Nat → Int32 → Int32 → Stt → Option (Stt)) (ke : Stt → Option (Stt)) (hkb : ∀ (z1 : Nat) (x2 : Int32) (x3 : Int32) (S : Stt) (H : Heap) (locs : List Loc) (ls : Array Slot), kb z1 x2 x3 S = some res → z1 < 2 → va_P D vwCl (wl 79 ad (cfC ad cI cP cB cA S)) H → va_S (Ar 79 ad) s.heap H locs → lv_has ls 4 [(0, .ref (ad 9)), (1, .ref (ad (1 + z1))), (2, .int x2), (3, .int x3)] → W p l e (rmD 2) s m args below meth c H locs 0 0 (MQ below (QV D 79 ad (cfC ad cI cP cB cA res)) args s 0 0 (Ar 79 ad)) (F0 m 12 ls [])) (hke : ∀ (S : Stt) (H : Heap) (locs : List Loc) (ls : Array Slot), ke S = some res → va_P D vwCl (wl 79 ad (cfC ad cI cP cB cA S)) H → va_S (Ar 79 ad) s.heap H locs → lv_has ls 4 [] → W p l e (rmD 2) s m args below meth c H locs 0 0 (MQ below (QV D 79 ad (cfC ad cI cP cB cA res)) args s 0 0 (Ar 79 ad)) (F0 m 38 ls [])) : ∀ (z1 : Nat) (x2 : Int32) (x3 : Int32) (S : Stt) (H : Heap) (locs : List Loc) (ls : Array Slot), fb_X4_tellDays_12 kb ke z1 x2 x3 S = some res → z1 < 2 → va_P D vwCl (wl 79 ad (cfC ad cI cP cB cA S)) H → va_S (Ar 79 ad) s.heap H locs → lv_has ls 4 [(0, .ref (ad 9)), (1, .ref (ad (1 + z1))), (2, .int x2), (3, .int x3)] → W p l e (rmD 2) s m args below meth c H locs 0 0 (MQ below (QV D 79 ad (cfC ad cI cP cB cA res)) args s 0 0 (Ar 79 ad)) (F0 m 12 ls []) := by
  intro z1 x2 x3 S H locs ls hf hb_1_0 hP hS hl
  have hx := X.1.1
  have hb := X.1.2.1
  unfold fb_X4_tellDays_12 at hf
  refine lv_iload_n hx hb dX4_tellDays_12 rfl (lv_at hl 3 rfl) ?_
  refine lv_aload_n hx hb dX4_tellDays_13 rfl (lv_at hl 0 rfl) ?_
  refine g_Planner_size X hP  tw_49 dX4_tellDays_14 ?_
  refine lv_icmp_ge (tgt := 38) hx hb dX4_tellDays_17 (by decide) (fun c3 => ?_) (fun c3 => ?_)
  · rw [if_pos c3] at hf
    exact hke  _ _ _ ls hf  hP hS (lv_sub hl [] rfl)
  · rw [if_neg c3] at hf
    refine lv_aload_n hx hb dX4_tellDays_20 rfl (lv_at hl 1 rfl) ?_
    refine lv_iload_n hx hb dX4_tellDays_21 rfl (lv_at hl 2 rfl) ?_
    refine lv_iload_n hx hb dX4_tellDays_22 rfl (lv_at hl 3 rfl) ?_
    refine lv_aload_n hx hb dX4_tellDays_23 rfl (lv_at hl 0 rfl) ?_
    refine g_Planner_days X hP  tw_50 dX4_tellDays_24 ?_
    refine lv_iload_n hx hb dX4_tellDays_27 rfl (lv_at hl 3 rfl) ?_
    obtain ⟨g4, hf⟩ := grd_some hf
    refine r_pdays X hP  g4 dX4_tellDays_28 ?_
    obtain ⟨q5, e6, hf⟩ := bind_some hf
    refine aftV hS (cV (rest := []) X hP hS [.int x2, .int x3, .int (S.1 43 0 x3.toNatClampNeg)] (m_X6_write hb_1_0 e6) cw_X6_write tw_238 tw_412 tw_700 (sh_lt hb_1_0) (cf_Shelf hb_1_0) rfl (fits9 (by first | decide | omega) (by decide)) rfl rfl hl.1 (Nat.le_of_ble_eq_true rfl) dX4_tellDays_29 ⟨Nat.zero_le _, Nat.zero_le _⟩) (fun H locs hP hS => ?_)
    refine lv_iinc (v := (x3 + (1 : Int32))) (lv' := [(3, .int (x3 + (1 : Int32))), (0, .ref (ad 9)), (1, .ref (ad (1 + z1))), (2, .int x2)]) hx hb dX4_tellDays_32 hl (k := 3) rfl rfl (by decide) rfl (fun ls hl => ?_)
    refine lv_goto (tgt := 12) hx hb dX4_tellDays_35 (by decide) ?_
    exact hkb _ _ _ _ _ _ ls hf hb_1_0 hP hS (lv_sub hl [1, 2, 3, 0] rfl)
set_option maxHeartbeats 4000000 in
set_option maxRecDepth 100000 in
theorem vl_X4_tellDays_12 (X : Cx D cI cP cB cA 79 ad tL tC p s m c cX4_tellDays 4 args RX4) (hr : meth.sig.returnType = none) (hlk : meth.locks = false) {res : Stt} (ke : Stt → Option (Stt)) (hke : ∀ (S : Stt) (H : Heap) (locs : List Loc) (ls : Array Slot), ke S = some res → va_P D vwCl (wl 79 ad (cfC ad cI cP cB cA S)) H → va_S (Ar 79 ad) s.heap H locs → lv_has ls 4 [] → W p l e (rmD 2) s m args below meth c H locs 0 0 (MQ below (QV D 79 ad (cfC ad cI cP cB cA res)) args s 0 0 (Ar 79 ad)) (F0 m 38 ls [])) : ∀ (n : Nat), ∀ (z1 : Nat) (x2 : Int32) (x3 : Int32) (S : Stt) (H : Heap) (locs : List Loc) (ls : Array Slot), fl_X4_tellDays_12 ke n z1 x2 x3 S = some res → z1 < 2 → va_P D vwCl (wl 79 ad (cfC ad cI cP cB cA S)) H → va_S (Ar 79 ad) s.heap H locs → lv_has ls 4 [(0, .ref (ad 9)), (1, .ref (ad (1 + z1))), (2, .int x2), (3, .int x3)] → W p l e (rmD 2) s m args below meth c H locs 0 0 (MQ below (QV D 79 ad (cfC ad cI cP cB cA res)) args s 0 0 (Ar 79 ad)) (F0 m 12 ls []) := by
  intro n
  induction n with
  | zero =>
    intro z1 x2 x3 S H locs ls hf hb_1_0 hP hS hl
    cases hf
  | succ n ih =>
    intro z1 x2 x3 S H locs ls hf hb_1_0 hP hS hl
    exact vb_X4_tellDays_12 X hr hlk _ ke ih hke z1 x2 x3 S H locs ls hf hb_1_0 hP hS hl
end
set_option maxHeartbeats 4000000 in
set_option maxRecDepth 100000 in
theorem m_X4_tellDays {l : Launch} {D : va_G} {cI cP cB cA : ClassId} {ad : Nat → Nat} {tL tC : Nat} {z1 : Nat} {x2 : Int32} (hb_1_0 : z1 < 2) {S : Stt} {res : Stt} (hf : f_X4_tellDays z1 x2 S = some res) : Ct l D cI cP cB cA 79 ad tL tC yX4_tellDays cX4_tellDays 4 none 2 [.ref (ad 9), .ref (ad (1 + z1)), .int x2] (cfC ad cI cP cB cA S) (QV D 79 ad (cfC ad cI cP cB cA res)) := by
  refine ctOf (by decide) (Nat.le_of_ble_eq_true rfl) ?_
  intro p e s m args below meth c ls X hr hlk hP hl
  have hS : va_S (Ar 79 ad) s.heap s.heap [] := va_S.rf
  have hx := X.1.1
  have hb := X.1.2.1
  have hl : lv_has ls 4 [(0, .ref (ad 9)), (1, .ref (ad (1 + z1))), (2, .int x2)] := hl
  unfold f_X4_tellDays at hf
  refine lv_aload_n hx hb dX4_tellDays_0 rfl (lv_at hl 1 rfl) ?_
  refine lv_iload_n hx hb dX4_tellDays_1 rfl (lv_at hl 2 rfl) ?_
  refine lv_aload_n hx hb dX4_tellDays_2 rfl (lv_at hl 0 rfl) ?_
  refine g_Planner_size X hP  tw_49 dX4_tellDays_3 ?_
  refine lv_iconst (v := (0 : Int32)) hx hb dX4_tellDays_6 (by decide) ?_
  obtain ⟨q1, e2, hf⟩ := bind_some hf
  refine aftV hS (cV (rest := []) X hP hS [.int x2, .int (S.1 42 0 0), .int (0 : Int32)] (m_X6_make hb_1_0 e2) cw_X6_make tw_237 tw_407 tw_701 (sh_lt hb_1_0) (cf_Shelf hb_1_0) rfl (fits9 (by first | decide | omega) (by decide)) rfl rfl hl.1 (Nat.le_of_ble_eq_true rfl) dX4_tellDays_7 ⟨Nat.zero_le _, Nat.zero_le _⟩) (fun H locs hP hS => ?_)
  refine lv_iconst (v := (0 : Int32)) hx hb dX4_tellDays_10 (by decide) ?_
  refine lv_istore_n (lv' := [(3, .int (0 : Int32)), (0, .ref (ad 9)), (1, .ref (ad (1 + z1))), (2, .int x2)]) hx hb dX4_tellDays_11 rfl hl (by decide) rfl (fun ls hl => ?_)
  refine vl_X4_tellDays_12 X hr hlk _ ?_ 300 _ _ _ _ _ _ ls hf hb_1_0 hP hS (lv_sub hl [1, 2, 3, 0] rfl)
  intro S H locs ls hf hP hS hl
  cases hf
  exact rtV X hr hlk hP hS dX4_tellDays_38
/-! X4_tellPlaces -/
section
variable {p : Program} {l : Launch} {e : Env} {s : State} {m : MethodId} {args : Array Value} {below : List Frame} {meth : Method} {c : Code}
variable {D : va_G} {cI cP cB cA : ClassId} {ad : Nat → Nat} {tL tC : Nat}
set_option maxHeartbeats 4000000 in
set_option maxRecDepth 100000 in
theorem vb_X4_tellPlaces_12 (X : Cx D cI cP cB cA 79 ad tL tC p s m c cX4_tellPlaces 4 args RX4) (hr : meth.sig.returnType = none) (hlk : meth.locks = false) {res : Stt} (kb : Nat → Int32 → Int32 → Stt → Option (Stt)) (ke : Stt → Option (Stt)) (hkb : ∀ (z1 : Nat) (x2 : Int32) (x3 : Int32) (S : Stt) (H : Heap) (locs : List Loc) (ls : Array Slot), kb z1 x2 x3 S = some res → z1 < 2 → va_P D vwCl (wl 79 ad (cfC ad cI cP cB cA S)) H → va_S (Ar 79 ad) s.heap H locs → lv_has ls 4 [(0, .ref (ad 9)), (1, .ref (ad (1 + z1))), (2, .int x2), (3, .int x3)] → W p l e (rmD 2) s m args below meth c H locs 0 0 (MQ below (QV D 79 ad (cfC ad cI cP cB cA res)) args s 0 0 (Ar 79 ad)) (F0 m 12 ls [])) (hke : ∀ (S : Stt) (H : Heap) (locs : List Loc) (ls : Array Slot), ke S = some res → va_P D vwCl (wl 79 ad (cfC ad cI cP cB cA S)) H → va_S (Ar 79 ad) s.heap H locs → lv_has ls 4 [] → W p l e (rmD 2) s m args below meth c H locs 0 0 (MQ below (QV D 79 ad (cfC ad cI cP cB cA res)) args s 0 0 (Ar 79 ad)) (F0 m 38 ls [])) : ∀ (z1 : Nat) (x2 : Int32) (x3 : Int32) (S : Stt) (H : Heap) (locs : List Loc) (ls : Array Slot), fb_X4_tellPlaces_12 kb ke z1 x2 x3 S = some res → z1 < 2 → va_P D vwCl (wl 79 ad (cfC ad cI cP cB cA S)) H → va_S (Ar 79 ad) s.heap H locs → lv_has ls 4 [(0, .ref (ad 9)), (1, .ref (ad (1 + z1))), (2, .int x2), (3, .int x3)] → W p l e (rmD 2) s m args below meth c H locs 0 0 (MQ below (QV D 79 ad (cfC ad cI cP cB cA res)) args s 0 0 (Ar 79 ad)) (F0 m 12 ls []) := by
  intro z1 x2 x3 S H locs ls hf hb_1_0 hP hS hl
  have hx := X.1.1
  have hb := X.1.2.1
  unfold fb_X4_tellPlaces_12 at hf
  refine lv_iload_n hx hb dX4_tellPlaces_12 rfl (lv_at hl 3 rfl) ?_
  refine lv_aload_n hx hb dX4_tellPlaces_13 rfl (lv_at hl 0 rfl) ?_
  refine g_Planner_size X hP  tw_49 dX4_tellPlaces_14 ?_
  refine lv_icmp_ge (tgt := 38) hx hb dX4_tellPlaces_17 (by decide) (fun c3 => ?_) (fun c3 => ?_)
  · rw [if_pos c3] at hf
    exact hke  _ _ _ ls hf  hP hS (lv_sub hl [] rfl)
  · rw [if_neg c3] at hf
    refine lv_aload_n hx hb dX4_tellPlaces_20 rfl (lv_at hl 1 rfl) ?_
    refine lv_iload_n hx hb dX4_tellPlaces_21 rfl (lv_at hl 2 rfl) ?_
    refine lv_iload_n hx hb dX4_tellPlaces_22 rfl (lv_at hl 3 rfl) ?_
    refine lv_aload_n hx hb dX4_tellPlaces_23 rfl (lv_at hl 0 rfl) ?_
    refine g_Planner_places X hP  tw_52 dX4_tellPlaces_24 ?_
    refine lv_iload_n hx hb dX4_tellPlaces_27 rfl (lv_at hl 3 rfl) ?_
    obtain ⟨g4, hf⟩ := grd_some hf
    refine r_pplaces X hP  g4 dX4_tellPlaces_28 ?_
    obtain ⟨q5, e6, hf⟩ := bind_some hf
    refine aftV hS (cV (rest := []) X hP hS [.int x2, .int x3, .int (S.1 45 0 x3.toNatClampNeg)] (m_X6_write hb_1_0 e6) cw_X6_write tw_238 tw_412 tw_700 (sh_lt hb_1_0) (cf_Shelf hb_1_0) rfl (fits9 (by first | decide | omega) (by decide)) rfl rfl hl.1 (Nat.le_of_ble_eq_true rfl) dX4_tellPlaces_29 ⟨Nat.zero_le _, Nat.zero_le _⟩) (fun H locs hP hS => ?_)
    refine lv_iinc (v := (x3 + (1 : Int32))) (lv' := [(3, .int (x3 + (1 : Int32))), (0, .ref (ad 9)), (1, .ref (ad (1 + z1))), (2, .int x2)]) hx hb dX4_tellPlaces_32 hl (k := 3) rfl rfl (by decide) rfl (fun ls hl => ?_)
    refine lv_goto (tgt := 12) hx hb dX4_tellPlaces_35 (by decide) ?_
    exact hkb _ _ _ _ _ _ ls hf hb_1_0 hP hS (lv_sub hl [1, 2, 3, 0] rfl)
set_option maxHeartbeats 4000000 in
set_option maxRecDepth 100000 in
theorem vl_X4_tellPlaces_12 (X : Cx D cI cP cB cA 79 ad tL tC p s m c cX4_tellPlaces 4 args RX4) (hr : meth.sig.returnType = none) (hlk : meth.locks = false) {res : Stt} (ke : Stt → Option (Stt)) (hke : ∀ (S : Stt) (H : Heap) (locs : List Loc) (ls : Array Slot), ke S = some res → va_P D vwCl (wl 79 ad (cfC ad cI cP cB cA S)) H → va_S (Ar 79 ad) s.heap H locs → lv_has ls 4 [] → W p l e (rmD 2) s m args below meth c H locs 0 0 (MQ below (QV D 79 ad (cfC ad cI cP cB cA res)) args s 0 0 (Ar 79 ad)) (F0 m 38 ls [])) : ∀ (n : Nat), ∀ (z1 : Nat) (x2 : Int32) (x3 : Int32) (S : Stt) (H : Heap) (locs : List Loc) (ls : Array Slot), fl_X4_tellPlaces_12 ke n z1 x2 x3 S = some res → z1 < 2 → va_P D vwCl (wl 79 ad (cfC ad cI cP cB cA S)) H → va_S (Ar 79 ad) s.heap H locs → lv_has ls 4 [(0, .ref (ad 9)), (1, .ref (ad (1 + z1))), (2, .int x2), (3, .int x3)] → W p l e (rmD 2) s m args below meth c H locs 0 0 (MQ below (QV D 79 ad (cfC ad cI cP cB cA res)) args s 0 0 (Ar 79 ad)) (F0 m 12 ls []) := by
  intro n
  induction n with
  | zero =>
    intro z1 x2 x3 S H locs ls hf hb_1_0 hP hS hl
    cases hf
  | succ n ih =>
    intro z1 x2 x3 S H locs ls hf hb_1_0 hP hS hl
    exact vb_X4_tellPlaces_12 X hr hlk _ ke ih hke z1 x2 x3 S H locs ls hf hb_1_0 hP hS hl
end
set_option maxHeartbeats 4000000 in
set_option maxRecDepth 100000 in
theorem m_X4_tellPlaces {l : Launch} {D : va_G} {cI cP cB cA : ClassId} {ad : Nat → Nat} {tL tC : Nat} {z1 : Nat} {x2 : Int32} (hb_1_0 : z1 < 2) {S : Stt} {res : Stt} (hf : f_X4_tellPlaces z1 x2 S = some res) : Ct l D cI cP cB cA 79 ad tL tC yX4_tellPlaces cX4_tellPlaces 4 none 2 [.ref (ad 9), .ref (ad (1 + z1)), .int x2] (cfC ad cI cP cB cA S) (QV D 79 ad (cfC ad cI cP cB cA res)) := by
  refine ctOf (by decide) (Nat.le_of_ble_eq_true rfl) ?_
  intro p e s m args below meth c ls X hr hlk hP hl
  have hS : va_S (Ar 79 ad) s.heap s.heap [] := va_S.rf
  have hx := X.1.1
  have hb := X.1.2.1
  have hl : lv_has ls 4 [(0, .ref (ad 9)), (1, .ref (ad (1 + z1))), (2, .int x2)] := hl
  unfold f_X4_tellPlaces at hf
  refine lv_aload_n hx hb dX4_tellPlaces_0 rfl (lv_at hl 1 rfl) ?_
  refine lv_iload_n hx hb dX4_tellPlaces_1 rfl (lv_at hl 2 rfl) ?_
  refine lv_aload_n hx hb dX4_tellPlaces_2 rfl (lv_at hl 0 rfl) ?_
  refine g_Planner_size X hP  tw_49 dX4_tellPlaces_3 ?_
  refine lv_iconst (v := (0 : Int32)) hx hb dX4_tellPlaces_6 (by decide) ?_
  obtain ⟨q1, e2, hf⟩ := bind_some hf
  refine aftV hS (cV (rest := []) X hP hS [.int x2, .int (S.1 42 0 0), .int (0 : Int32)] (m_X6_make hb_1_0 e2) cw_X6_make tw_237 tw_407 tw_701 (sh_lt hb_1_0) (cf_Shelf hb_1_0) rfl (fits9 (by first | decide | omega) (by decide)) rfl rfl hl.1 (Nat.le_of_ble_eq_true rfl) dX4_tellPlaces_7 ⟨Nat.zero_le _, Nat.zero_le _⟩) (fun H locs hP hS => ?_)
  refine lv_iconst (v := (0 : Int32)) hx hb dX4_tellPlaces_10 (by decide) ?_
  refine lv_istore_n (lv' := [(3, .int (0 : Int32)), (0, .ref (ad 9)), (1, .ref (ad (1 + z1))), (2, .int x2)]) hx hb dX4_tellPlaces_11 rfl hl (by decide) rfl (fun ls hl => ?_)
  refine vl_X4_tellPlaces_12 X hr hlk _ ?_ 300 _ _ _ _ _ _ ls hf hb_1_0 hP hS (lv_sub hl [1, 2, 3, 0] rfl)
  intro S H locs ls hf hP hS hl
  cases hf
  exact rtV X hr hlk hP hS dX4_tellPlaces_38
/-! X5_sign -/
section
variable {p : Program} {l : Launch} {e : Env} {s : State} {m : MethodId} {args : Array Value} {below : List Frame} {meth : Method} {c : Code}
variable {D : va_G} {cI cP cB cA : ClassId} {ad : Nat → Nat} {tL tC : Nat}
end
set_option maxHeartbeats 4000000 in
set_option maxRecDepth 100000 in
theorem m_X5_sign {l : Launch} {D : va_G} {cI cP cB cA : ClassId} {ad : Nat → Nat} {tL tC : Nat} {S : Stt} {res : Int32 × Stt} (hf : f_X5_sign  S = some res) : Ct l D cI cP cB cA 79 ad tL tC yX5_sign cX5_sign 1 (some .int) 2 [.ref (ad 7)] (cfC ad cI cP cB cA S) (QI D 79 ad res.1 (cfC ad cI cP cB cA res.2)) := by
  refine ctOf (by decide) (Nat.le_of_ble_eq_true rfl) ?_
  intro p e s m args below meth c ls X hr hlk hP hl
  have hS : va_S (Ar 79 ad) s.heap s.heap [] := va_S.rf
  have hx := X.1.1
  have hb := X.1.2.1
  have hl : lv_has ls 1 [(0, .ref (ad 7))] := hl
  unfold f_X5_sign at hf
  refine lv_aload_n hx hb dX5_sign_0 rfl (lv_at hl 0 rfl) ?_
  obtain ⟨g1, hf⟩ := grd_some hf
  refine g_Scribe_texts X hP  (of_decide_eq_true g1) tw_29 dX5_sign_1 ?_
  refine lv_aload_n hx hb dX5_sign_4 rfl (lv_at hl 0 rfl) ?_
  refine g_Scribe_t X hP  tw_30 dX5_sign_5 ?_
  refine lv_aload_n hx hb dX5_sign_8 rfl (lv_at hl 0 rfl) ?_
  refine g_Scribe_place X hP  tw_32 dX5_sign_9 ?_
  obtain ⟨q2, e3, hf⟩ := bind_some hf
  refine aftI hS (cV (rest := []) X hP hS [.int (S.1 23 0 0), .int (S.1 25 0 0)] (m_X6_placeOf (by decide) e3) cw_X6_placeOf tw_150 tw_411 tw_699 (sh_lt (by decide)) (cf_Shelf (by decide)) rfl (fits9 (by first | decide | omega) (by decide)) rfl rfl hl.1 (Nat.le_of_ble_eq_true rfl) dX5_sign_12 ⟨Nat.zero_le _, Nat.zero_le _⟩) (fun H locs hP hS => ?_)
  cases hf
  exact rtI X hr hlk hP hS dX5_sign_15
/-! X6_countThere -/
section
variable {p : Program} {l : Launch} {e : Env} {s : State} {m : MethodId} {args : Array Value} {below : List Frame} {meth : Method} {c : Code}
variable {D : va_G} {cI cP cB cA : ClassId} {ad : Nat → Nat} {tL tC : Nat}
set_option maxHeartbeats 4000000 in
set_option maxRecDepth 100000 in
theorem vb_X6_countThere_4 (X : Cx D cI cP cB cA 79 ad tL tC p s m c cX6_countThere 3 args RX6) (hr : meth.sig.returnType = (some .int)) (hlk : meth.locks = false) {res : Int32 × Stt} (kb : Nat → Int32 → Int32 → Stt → Option (Int32 × Stt)) (ke : Int32 → Stt → Option (Int32 × Stt)) (hkb : ∀ (z0 : Nat) (x1 : Int32) (x2 : Int32) (S : Stt) (H : Heap) (locs : List Loc) (ls : Array Slot), kb z0 x1 x2 S = some res → z0 < 2 → va_P D vwCl (wl 79 ad (cfC ad cI cP cB cA S)) H → va_S (Ar 79 ad) s.heap H locs → lv_has ls 3 [(0, .ref (ad (1 + z0))), (1, .int x1), (2, .int x2)] → W p l e (rmD 2) s m args below meth c H locs 0 0 (MQ below (QI D 79 ad res.1 (cfC ad cI cP cB cA res.2)) args s 0 0 (Ar 79 ad)) (F0 m 4 ls [])) (hke : ∀ (x1 : Int32) (S : Stt) (H : Heap) (locs : List Loc) (ls : Array Slot), ke x1 S = some res → va_P D vwCl (wl 79 ad (cfC ad cI cP cB cA S)) H → va_S (Ar 79 ad) s.heap H locs → lv_has ls 3 [(1, .int x1)] → W p l e (rmD 2) s m args below meth c H locs 0 0 (MQ below (QI D 79 ad res.1 (cfC ad cI cP cB cA res.2)) args s 0 0 (Ar 79 ad)) (F0 m 30 ls [])) : ∀ (z0 : Nat) (x1 : Int32) (x2 : Int32) (S : Stt) (H : Heap) (locs : List Loc) (ls : Array Slot), fb_X6_countThere_4 kb ke z0 x1 x2 S = some res → z0 < 2 → va_P D vwCl (wl 79 ad (cfC ad cI cP cB cA S)) H → va_S (Ar 79 ad) s.heap H locs → lv_has ls 3 [(0, .ref (ad (1 + z0))), (1, .int x1), (2, .int x2)] → W p l e (rmD 2) s m args below meth c H locs 0 0 (MQ below (QI D 79 ad res.1 (cfC ad cI cP cB cA res.2)) args s 0 0 (Ar 79 ad)) (F0 m 4 ls []) := by
  intro z0 x1 x2 S H locs ls hf hb_0_0 hP hS hl
  have hx := X.1.1
  have hb := X.1.2.1
  unfold fb_X6_countThere_4 at hf
  refine lv_iload_n hx hb dX6_countThere_4 rfl (lv_at hl 2 rfl) ?_
  refine lv_aload_n hx hb dX6_countThere_5 rfl (lv_at hl 0 rfl) ?_
  refine g_Shelf_sizes X hP hb_0_0 tw_1 dX6_countThere_6 ?_
  refine len_sizes X hP hb_0_0 dX6_countThere_9 ?_
  refine lv_icmp_ge (tgt := 30) hx hb dX6_countThere_10 (by decide) (fun c1 => ?_) (fun c1 => ?_)
  · rw [if_pos c1] at hf
    exact hke _ _ _ _ ls hf  hP hS (lv_sub hl [1] rfl)
  · rw [if_neg c1] at hf
    refine lv_aload_n hx hb dX6_countThere_13 rfl (lv_at hl 0 rfl) ?_
    refine lv_iload_n hx hb dX6_countThere_14 rfl (lv_at hl 2 rfl) ?_
    obtain ⟨q2, e3, hf⟩ := bind_some hf
    refine aftI hS (cV (rest := []) X hP hS [.int x2] (m_X6_isThere hb_0_0 e3) cw_X6_isThere tw_277 tw_409 tw_695 (sh_lt hb_0_0) (cf_Shelf hb_0_0) rfl (fits9 (by first | decide | omega) (by decide)) rfl rfl hl.1 (Nat.le_of_ble_eq_true rfl) dX6_countThere_15 ⟨Nat.zero_le _, Nat.zero_le _⟩) (fun H locs hP hS => ?_)
    refine lv_if_eq (tgt := 24) hx hb dX6_countThere_18 (by decide) (fun c4 => ?_) (fun c4 => ?_)
    · rw [if_pos c4] at hf
      refine lv_iinc (v := (x2 + (1 : Int32))) (lv' := [(2, .int (x2 + (1 : Int32))), (0, .ref (ad (1 + z0))), (1, .int x1)]) hx hb dX6_countThere_24 hl (k := 2) rfl rfl (by decide) rfl (fun ls hl => ?_)
      refine lv_goto (tgt := 4) hx hb dX6_countThere_27 (by decide) ?_
      exact hkb _ _ _ _ _ _ ls hf hb_0_0 hP hS (lv_sub hl [1, 2, 0] rfl)
    · rw [if_neg c4] at hf
      refine lv_iinc (v := (x1 + (1 : Int32))) (lv' := [(1, .int (x1 + (1 : Int32))), (0, .ref (ad (1 + z0))), (2, .int x2)]) hx hb dX6_countThere_21 hl (k := 1) rfl rfl (by decide) rfl (fun ls hl => ?_)
      refine lv_iinc (v := (x2 + (1 : Int32))) (lv' := [(2, .int (x2 + (1 : Int32))), (1, .int (x1 + (1 : Int32))), (0, .ref (ad (1 + z0)))]) hx hb dX6_countThere_24 hl (k := 2) rfl rfl (by decide) rfl (fun ls hl => ?_)
      refine lv_goto (tgt := 4) hx hb dX6_countThere_27 (by decide) ?_
      exact hkb _ _ _ _ _ _ ls hf hb_0_0 hP hS (lv_sub hl [2, 1, 0] rfl)
set_option maxHeartbeats 4000000 in
set_option maxRecDepth 100000 in
theorem vl_X6_countThere_4 (X : Cx D cI cP cB cA 79 ad tL tC p s m c cX6_countThere 3 args RX6) (hr : meth.sig.returnType = (some .int)) (hlk : meth.locks = false) {res : Int32 × Stt} (ke : Int32 → Stt → Option (Int32 × Stt)) (hke : ∀ (x1 : Int32) (S : Stt) (H : Heap) (locs : List Loc) (ls : Array Slot), ke x1 S = some res → va_P D vwCl (wl 79 ad (cfC ad cI cP cB cA S)) H → va_S (Ar 79 ad) s.heap H locs → lv_has ls 3 [(1, .int x1)] → W p l e (rmD 2) s m args below meth c H locs 0 0 (MQ below (QI D 79 ad res.1 (cfC ad cI cP cB cA res.2)) args s 0 0 (Ar 79 ad)) (F0 m 30 ls [])) : ∀ (n : Nat), ∀ (z0 : Nat) (x1 : Int32) (x2 : Int32) (S : Stt) (H : Heap) (locs : List Loc) (ls : Array Slot), fl_X6_countThere_4 ke n z0 x1 x2 S = some res → z0 < 2 → va_P D vwCl (wl 79 ad (cfC ad cI cP cB cA S)) H → va_S (Ar 79 ad) s.heap H locs → lv_has ls 3 [(0, .ref (ad (1 + z0))), (1, .int x1), (2, .int x2)] → W p l e (rmD 2) s m args below meth c H locs 0 0 (MQ below (QI D 79 ad res.1 (cfC ad cI cP cB cA res.2)) args s 0 0 (Ar 79 ad)) (F0 m 4 ls []) := by
  intro n
  induction n with
  | zero =>
    intro z0 x1 x2 S H locs ls hf hb_0_0 hP hS hl
    cases hf
  | succ n ih =>
    intro z0 x1 x2 S H locs ls hf hb_0_0 hP hS hl
    exact vb_X6_countThere_4 X hr hlk _ ke ih hke z0 x1 x2 S H locs ls hf hb_0_0 hP hS hl
end
set_option maxHeartbeats 4000000 in
set_option maxRecDepth 100000 in
theorem m_X6_countThere {l : Launch} {D : va_G} {cI cP cB cA : ClassId} {ad : Nat → Nat} {tL tC : Nat} {z0 : Nat} (hb_0_0 : z0 < 2) {S : Stt} {res : Int32 × Stt} (hf : f_X6_countThere z0 S = some res) : Ct l D cI cP cB cA 79 ad tL tC yX6_countThere cX6_countThere 3 (some .int) 2 [.ref (ad (1 + z0))] (cfC ad cI cP cB cA S) (QI D 79 ad res.1 (cfC ad cI cP cB cA res.2)) := by
  refine ctOf (by decide) (Nat.le_of_ble_eq_true rfl) ?_
  intro p e s m args below meth c ls X hr hlk hP hl
  have hS : va_S (Ar 79 ad) s.heap s.heap [] := va_S.rf
  have hx := X.1.1
  have hb := X.1.2.1
  have hl : lv_has ls 3 [(0, .ref (ad (1 + z0)))] := hl
  unfold f_X6_countThere at hf
  refine lv_iconst (v := (0 : Int32)) hx hb dX6_countThere_0 (by decide) ?_
  refine lv_istore_n (lv' := [(1, .int (0 : Int32)), (0, .ref (ad (1 + z0)))]) hx hb dX6_countThere_1 rfl hl (by decide) rfl (fun ls hl => ?_)
  refine lv_iconst (v := (0 : Int32)) hx hb dX6_countThere_2 (by decide) ?_
  refine lv_istore_n (lv' := [(2, .int (0 : Int32)), (1, .int (0 : Int32)), (0, .ref (ad (1 + z0)))]) hx hb dX6_countThere_3 rfl hl (by decide) rfl (fun ls hl => ?_)
  refine vl_X6_countThere_4 X hr hlk _ ?_ 300 _ _ _ _ _ _ ls hf hb_0_0 hP hS (lv_sub hl [2, 1, 0] rfl)
  intro x1 S H locs ls hf hP hS hl
  refine lv_iload_n hx hb dX6_countThere_30 rfl (lv_at hl 0 rfl) ?_
  cases hf
  exact rtI X hr hlk hP hS dX6_countThere_31
/-! X7_at -/
section
variable {p : Program} {l : Launch} {e : Env} {s : State} {m : MethodId} {args : Array Value} {below : List Frame} {meth : Method} {c : Code}
variable {D : va_G} {cI cP cB cA : ClassId} {ad : Nat → Nat} {tL tC : Nat}
end
set_option maxHeartbeats 4000000 in
set_option maxRecDepth 100000 in
theorem m_X7_at {l : Launch} {D : va_G} {cI cP cB cA : ClassId} {ad : Nat → Nat} {tL tC : Nat} {x1 : Int32} {x2 : Int32} {S : Stt} {res : Int32 × Stt} (hf : f_X7_at x1 x2 S = some res) : Ct l D cI cP cB cA 79 ad tL tC yX7_at cX7_at 3 (some .int) 2 [.ref (ad 0), .int x1, .int x2] (cfC ad cI cP cB cA S) (QI D 79 ad res.1 (cfC ad cI cP cB cA res.2)) := by
  refine ctOf (by decide) (Nat.le_of_ble_eq_true rfl) ?_
  intro p e s m args below meth c ls X hr hlk hP hl
  have hS : va_S (Ar 79 ad) s.heap s.heap [] := va_S.rf
  have hx := X.1.1
  have hb := X.1.2.1
  have hl : lv_has ls 3 [(0, .ref (ad 0)), (1, .int x1), (2, .int x2)] := hl
  unfold f_X7_at at hf
  refine lv_aload_n hx hb dX7_at_0 rfl (lv_at hl 0 rfl) ?_
  refine g_LP_rows X hP  tw_60 dX7_at_1 ?_
  refine lv_iload_n hx hb dX7_at_4 rfl (lv_at hl 1 rfl) ?_
  obtain ⟨q1, e2, hf⟩ := bind_some hf
  refine aftI hS (cV (rest := []) X hP hS [.int x1] (m_X6_isOne (by decide) e2) cw_X6_isOne tw_125 tw_405 tw_694 (sh_lt (by decide)) (cf_Shelf (by decide)) rfl (fits9 (by first | decide | omega) (by decide)) rfl rfl hl.1 (Nat.le_of_ble_eq_true rfl) dX7_at_5 ⟨Nat.zero_le _, Nat.zero_le _⟩) (fun H locs hP hS => ?_)
  refine lv_if_ne (tgt := 13) hx hb dX7_at_8 (by decide) (fun c3 => ?_) (fun c3 => ?_)
  · rw [if_neg c3] at hf
    refine lv_aload_n hx hb dX7_at_13 rfl (lv_at hl 0 rfl) ?_
    refine g_LP_rows X hP  tw_60 dX7_at_14 ?_
    refine lv_iload_n hx hb dX7_at_17 rfl (lv_at hl 1 rfl) ?_
    obtain ⟨q4, e5, hf⟩ := bind_some hf
    refine aftI hS (cV (rest := []) X hP hS [.int x1] (m_X6_isThere (by decide) e5) cw_X6_isThere tw_129 tw_409 tw_695 (sh_lt (by decide)) (cf_Shelf (by decide)) rfl (fits9 (by first | decide | omega) (by decide)) rfl rfl hl.1 (Nat.le_of_ble_eq_true rfl) dX7_at_18 ⟨Nat.zero_le _, Nat.zero_le _⟩) (fun H locs hP hS => ?_)
    refine lv_if_ne (tgt := 30) hx hb dX7_at_21 (by decide) (fun c6 => ?_) (fun c6 => ?_)
    · rw [if_neg c6] at hf
      refine lv_aload_n hx hb dX7_at_30 rfl (lv_at hl 0 rfl) ?_
      refine g_LP_rows X hP  tw_60 dX7_at_31 ?_
      refine lv_iload_n hx hb dX7_at_34 rfl (lv_at hl 1 rfl) ?_
      refine lv_iload_n hx hb dX7_at_35 rfl (lv_at hl 2 rfl) ?_
      obtain ⟨q7, e8, hf⟩ := bind_some hf
      refine aftI hS (cV (rest := []) X hP hS [.int x1, .int x2] (m_X6_isPlace (by decide) e8) cw_X6_isPlace tw_130 tw_410 tw_696 (sh_lt (by decide)) (cf_Shelf (by decide)) rfl (fits9 (by first | decide | omega) (by decide)) rfl rfl hl.1 (Nat.le_of_ble_eq_true rfl) dX7_at_36 ⟨Nat.zero_le _, Nat.zero_le _⟩) (fun H locs hP hS => ?_)
      refine lv_if_ne (tgt := 48) hx hb dX7_at_39 (by decide) (fun c9 => ?_) (fun c9 => ?_)
      · rw [if_neg c9] at hf
        refine lv_aload_n hx hb dX7_at_48 rfl (lv_at hl 0 rfl) ?_
        refine lv_aload_n hx hb dX7_at_49 rfl (lv_at hl 0 rfl) ?_
        refine g_LP_rows X hP  tw_60 dX7_at_50 ?_
        refine lv_iload_n hx hb dX7_at_53 rfl (lv_at hl 1 rfl) ?_
        refine lv_iload_n hx hb dX7_at_54 rfl (lv_at hl 2 rfl) ?_
        obtain ⟨q10, e11, hf⟩ := bind_some hf
        refine aftI hS (cV (rest := [.ref (ad 0)]) X hP hS [.int x1, .int x2] (m_X6_placeOf (by decide) e11) cw_X6_placeOf tw_131 tw_411 tw_699 (sh_lt (by decide)) (cf_Shelf (by decide)) rfl (fits9 (by first | decide | omega) (by decide)) rfl rfl hl.1 (Nat.le_of_ble_eq_true rfl) dX7_at_55 ⟨Nat.zero_le _, Nat.zero_le _⟩) (fun H locs hP hS => ?_)
        refine p_LP_lastAsked X hP hS  tw_71 dX7_at_58 (fun H locs hP hS => ?_)
        refine lv_iconst (v := (1 : Int32)) hx hb dX7_at_61 (by decide) ?_
        cases hf
        exact rtI X hr hlk hP hS dX7_at_62
      · rw [if_pos c9] at hf
        refine lv_aload_n hx hb dX7_at_42 rfl (lv_at hl 0 rfl) ?_
        refine lv_iconst (v := (2 : Int32)) hx hb dX7_at_43 (by decide) ?_
        obtain ⟨q12, e13, hf⟩ := bind_some hf
        refine aftI hS (cV (rest := []) X hP hS [.int (2 : Int32)] (m_X7_refuse  e13) cw_X7_refuse tw_126 tw_406 tw_754 (by decide) (cf_LP ) rfl (fits9 (by first | decide | omega) (by decide)) rfl rfl hl.1 (Nat.le_of_ble_eq_true rfl) dX7_at_44 ⟨Nat.zero_le _, Nat.zero_le _⟩) (fun H locs hP hS => ?_)
        cases hf
        exact rtI X hr hlk hP hS dX7_at_47
    · rw [if_pos c6] at hf
      refine lv_aload_n hx hb dX7_at_24 rfl (lv_at hl 0 rfl) ?_
      refine lv_iconst (v := (1 : Int32)) hx hb dX7_at_25 (by decide) ?_
      obtain ⟨q14, e15, hf⟩ := bind_some hf
      refine aftI hS (cV (rest := []) X hP hS [.int (1 : Int32)] (m_X7_refuse  e15) cw_X7_refuse tw_126 tw_406 tw_754 (by decide) (cf_LP ) rfl (fits9 (by first | decide | omega) (by decide)) rfl rfl hl.1 (Nat.le_of_ble_eq_true rfl) dX7_at_26 ⟨Nat.zero_le _, Nat.zero_le _⟩) (fun H locs hP hS => ?_)
      cases hf
      exact rtI X hr hlk hP hS dX7_at_29
  · rw [if_pos c3] at hf
    refine lv_iconst (v := (-1 : Int32)) hx hb dX7_at_11 (by decide) ?_
    cases hf
    exact rtI X hr hlk hP hS dX7_at_12
/-! X7_copy -/
section
variable {p : Program} {l : Launch} {e : Env} {s : State} {m : MethodId} {args : Array Value} {below : List Frame} {meth : Method} {c : Code}
variable {D : va_G} {cI cP cB cA : ClassId} {ad : Nat → Nat} {tL tC : Nat}
end
set_option maxHeartbeats 4000000 in
set_option maxRecDepth 100000 in
theorem m_X7_copy {l : Launch} {D : va_G} {cI cP cB cA : ClassId} {ad : Nat → Nat} {tL tC : Nat} {x1 : Int32} {x2 : Int32} {x3 : Int32} {x4 : Int32} {x5 : Int32} {S : Stt} {res : Int32 × Stt} (hf : f_X7_copy x1 x2 x3 x4 x5 S = some res) : Ct l D cI cP cB cA 79 ad tL tC yX7_copy cX7_copy 6 (some .int) 2 [.ref (ad 0), .int x1, .int x2, .int x3, .int x4, .int x5] (cfC ad cI cP cB cA S) (QI D 79 ad res.1 (cfC ad cI cP cB cA res.2)) := by
  refine ctOf (by decide) (Nat.le_of_ble_eq_true rfl) ?_
  intro p e s m args below meth c ls X hr hlk hP hl
  have hS : va_S (Ar 79 ad) s.heap s.heap [] := va_S.rf
  have hx := X.1.1
  have hb := X.1.2.1
  have hl : lv_has ls 6 [(0, .ref (ad 0)), (1, .int x1), (2, .int x2), (3, .int x3), (4, .int x4), (5, .int x5)] := hl
  unfold f_X7_copy at hf
  refine lv_aload_n hx hb dX7_copy_0 rfl (lv_at hl 0 rfl) ?_
  refine g_LP_rows X hP  tw_60 dX7_copy_1 ?_
  refine lv_iload_n hx hb dX7_copy_4 rfl (lv_at hl 1 rfl) ?_
  obtain ⟨q1, e2, hf⟩ := bind_some hf
  refine aftI hS (cV (rest := []) X hP hS [.int x1] (m_X6_isOne (by decide) e2) cw_X6_isOne tw_125 tw_405 tw_694 (sh_lt (by decide)) (cf_Shelf (by decide)) rfl (fits9 (by first | decide | omega) (by decide)) rfl rfl hl.1 (Nat.le_of_ble_eq_true rfl) dX7_copy_5 ⟨Nat.zero_le _, Nat.zero_le _⟩) (fun H locs hP hS => ?_)
  refine lv_if_eq (tgt := 22) hx hb dX7_copy_8 (by decide) (fun c3 => ?_) (fun c3 => ?_)
  · rw [if_pos c3] at hf
    refine lv_iconst (v := (-1 : Int32)) hx hb dX7_copy_22 (by decide) ?_
    cases hf
    exact rtI X hr hlk hP hS dX7_copy_23
  · rw [if_neg c3] at hf
    refine lv_aload_n hx hb dX7_copy_11 rfl (lv_at hl 0 rfl) ?_
    refine g_LP_rows X hP  tw_60 dX7_copy_12 ?_
    refine lv_iload_n hx hb dX7_copy_15 rfl (lv_at hl 3 rfl) ?_
    obtain ⟨q4, e5, hf⟩ := bind_some hf
    refine aftI hS (cV (rest := []) X hP hS [.int x3] (m_X6_isOne (by decide) e5) cw_X6_isOne tw_125 tw_405 tw_694 (sh_lt (by decide)) (cf_Shelf (by decide)) rfl (fits9 (by first | decide | omega) (by decide)) rfl rfl hl.1 (Nat.le_of_ble_eq_true rfl) dX7_copy_16 ⟨Nat.zero_le _, Nat.zero_le _⟩) (fun H locs hP hS => ?_)
    refine lv_if_ne (tgt := 24) hx hb dX7_copy_19 (by decide) (fun c6 => ?_) (fun c6 => ?_)
    · rw [if_neg c6] at hf
      refine lv_iload hx hb dX7_copy_24 (lv_at hl 5 rfl) ?_
      refine lv_if_ge (tgt := 35) hx hb dX7_copy_26 (by decide) (fun c7 => ?_) (fun c7 => ?_)
      · rw [if_pos c7] at hf
        refine lv_aload_n hx hb dX7_copy_35 rfl (lv_at hl 0 rfl) ?_
        refine g_LP_rows X hP  tw_60 dX7_copy_36 ?_
        refine lv_iload_n hx hb dX7_copy_39 rfl (lv_at hl 1 rfl) ?_
        obtain ⟨q8, e9, hf⟩ := bind_some hf
        refine aftI hS (cV (rest := []) X hP hS [.int x1] (m_X6_isThere (by decide) e9) cw_X6_isThere tw_129 tw_409 tw_695 (sh_lt (by decide)) (cf_Shelf (by decide)) rfl (fits9 (by first | decide | omega) (by decide)) rfl rfl hl.1 (Nat.le_of_ble_eq_true rfl) dX7_copy_40 ⟨Nat.zero_le _, Nat.zero_le _⟩) (fun H locs hP hS => ?_)
        refine lv_if_eq (tgt := 57) hx hb dX7_copy_43 (by decide) (fun c10 => ?_) (fun c10 => ?_)
        · rw [if_pos c10] at hf
          refine lv_aload_n hx hb dX7_copy_57 rfl (lv_at hl 0 rfl) ?_
          refine lv_iconst (v := (1 : Int32)) hx hb dX7_copy_58 (by decide) ?_
          obtain ⟨q11, e12, hf⟩ := bind_some hf
          refine aftI hS (cV (rest := []) X hP hS [.int (1 : Int32)] (m_X7_refuse  e12) cw_X7_refuse tw_126 tw_406 tw_754 (by decide) (cf_LP ) rfl (fits9 (by first | decide | omega) (by decide)) rfl rfl hl.1 (Nat.le_of_ble_eq_true rfl) dX7_copy_59 ⟨Nat.zero_le _, Nat.zero_le _⟩) (fun H locs hP hS => ?_)
          cases hf
          exact rtI X hr hlk hP hS dX7_copy_62
        · rw [if_neg c10] at hf
          refine lv_aload_n hx hb dX7_copy_46 rfl (lv_at hl 0 rfl) ?_
          refine g_LP_rows X hP  tw_60 dX7_copy_47 ?_
          refine lv_iload_n hx hb dX7_copy_50 rfl (lv_at hl 3 rfl) ?_
          obtain ⟨q13, e14, hf⟩ := bind_some hf
          refine aftI hS (cV (rest := []) X hP hS [.int x3] (m_X6_isThere (by decide) e14) cw_X6_isThere tw_129 tw_409 tw_695 (sh_lt (by decide)) (cf_Shelf (by decide)) rfl (fits9 (by first | decide | omega) (by decide)) rfl rfl hl.1 (Nat.le_of_ble_eq_true rfl) dX7_copy_51 ⟨Nat.zero_le _, Nat.zero_le _⟩) (fun H locs hP hS => ?_)
          refine lv_if_ne (tgt := 63) hx hb dX7_copy_54 (by decide) (fun c15 => ?_) (fun c15 => ?_)
          · rw [if_neg c15] at hf
            refine lv_aload_n hx hb dX7_copy_63 rfl (lv_at hl 0 rfl) ?_
            refine g_LP_rows X hP  tw_60 dX7_copy_64 ?_
            refine lv_iload_n hx hb dX7_copy_67 rfl (lv_at hl 1 rfl) ?_
            refine lv_iload_n hx hb dX7_copy_68 rfl (lv_at hl 2 rfl) ?_
            refine lv_iload hx hb dX7_copy_69 (lv_at hl 5 rfl) ?_
            obtain ⟨q16, e17, hf⟩ := bind_some hf
            refine aftI hS (cV (rest := []) X hP hS [.int x1, .int x2, .int x5] (m_X6_arePlaces (by decide) e17) cw_X6_arePlaces tw_137 tw_417 tw_697 (sh_lt (by decide)) (cf_Shelf (by decide)) rfl (fits9 (by first | decide | omega) (by decide)) rfl rfl hl.1 (Nat.le_of_ble_eq_true rfl) dX7_copy_71 ⟨Nat.zero_le _, Nat.zero_le _⟩) (fun H locs hP hS => ?_)
            refine lv_if_eq (tgt := 92) hx hb dX7_copy_74 (by decide) (fun c18 => ?_) (fun c18 => ?_)
            · rw [if_pos c18] at hf
              refine lv_aload_n hx hb dX7_copy_92 rfl (lv_at hl 0 rfl) ?_
              refine lv_iconst (v := (2 : Int32)) hx hb dX7_copy_93 (by decide) ?_
              obtain ⟨q19, e20, hf⟩ := bind_some hf
              refine aftI hS (cV (rest := []) X hP hS [.int (2 : Int32)] (m_X7_refuse  e20) cw_X7_refuse tw_126 tw_406 tw_754 (by decide) (cf_LP ) rfl (fits9 (by first | decide | omega) (by decide)) rfl rfl hl.1 (Nat.le_of_ble_eq_true rfl) dX7_copy_94 ⟨Nat.zero_le _, Nat.zero_le _⟩) (fun H locs hP hS => ?_)
              cases hf
              exact rtI X hr hlk hP hS dX7_copy_97
            · rw [if_neg c18] at hf
              refine lv_aload_n hx hb dX7_copy_77 rfl (lv_at hl 0 rfl) ?_
              refine g_LP_rows X hP  tw_60 dX7_copy_78 ?_
              refine lv_iload_n hx hb dX7_copy_81 rfl (lv_at hl 3 rfl) ?_
              refine lv_iload hx hb dX7_copy_82 (lv_at hl 4 rfl) ?_
              refine lv_iload hx hb dX7_copy_84 (lv_at hl 5 rfl) ?_
              obtain ⟨q21, e22, hf⟩ := bind_some hf
              refine aftI hS (cV (rest := []) X hP hS [.int x3, .int x4, .int x5] (m_X6_arePlaces (by decide) e22) cw_X6_arePlaces tw_137 tw_417 tw_697 (sh_lt (by decide)) (cf_Shelf (by decide)) rfl (fits9 (by first | decide | omega) (by decide)) rfl rfl hl.1 (Nat.le_of_ble_eq_true rfl) dX7_copy_86 ⟨Nat.zero_le _, Nat.zero_le _⟩) (fun H locs hP hS => ?_)
              refine lv_if_ne (tgt := 98) hx hb dX7_copy_89 (by decide) (fun c23 => ?_) (fun c23 => ?_)
              · rw [if_neg c23] at hf
                refine lv_aload_n hx hb dX7_copy_98 rfl (lv_at hl 0 rfl) ?_
                refine g_LP_rows X hP  tw_60 dX7_copy_99 ?_
                refine lv_iload_n hx hb dX7_copy_102 rfl (lv_at hl 1 rfl) ?_
                refine lv_iload_n hx hb dX7_copy_103 rfl (lv_at hl 2 rfl) ?_
                refine lv_iload_n hx hb dX7_copy_104 rfl (lv_at hl 3 rfl) ?_
                refine lv_iload hx hb dX7_copy_105 (lv_at hl 4 rfl) ?_
                refine lv_iload hx hb dX7_copy_107 (lv_at hl 5 rfl) ?_
                obtain ⟨q24, e25, hf⟩ := bind_some hf
                refine aftV hS (cV (rest := []) X hP hS [.int x1, .int x2, .int x3, .int x4, .int x5] (m_X6_carry (by decide) e25) cw_X6_carry tw_138 tw_418 tw_703 (sh_lt (by decide)) (cf_Shelf (by decide)) rfl (fits9 (by first | decide | omega) (by decide)) rfl rfl hl.1 (Nat.le_of_ble_eq_true rfl) dX7_copy_109 ⟨Nat.zero_le _, Nat.zero_le _⟩) (fun H locs hP hS => ?_)
                refine lv_iconst (v := (1 : Int32)) hx hb dX7_copy_112 (by decide) ?_
                cases hf
                exact rtI X hr hlk hP hS dX7_copy_113
              · rw [if_pos c23] at hf
                refine lv_aload_n hx hb dX7_copy_92 rfl (lv_at hl 0 rfl) ?_
                refine lv_iconst (v := (2 : Int32)) hx hb dX7_copy_93 (by decide) ?_
                obtain ⟨q26, e27, hf⟩ := bind_some hf
                refine aftI hS (cV (rest := []) X hP hS [.int (2 : Int32)] (m_X7_refuse  e27) cw_X7_refuse tw_126 tw_406 tw_754 (by decide) (cf_LP ) rfl (fits9 (by first | decide | omega) (by decide)) rfl rfl hl.1 (Nat.le_of_ble_eq_true rfl) dX7_copy_94 ⟨Nat.zero_le _, Nat.zero_le _⟩) (fun H locs hP hS => ?_)
                cases hf
                exact rtI X hr hlk hP hS dX7_copy_97
          · rw [if_pos c15] at hf
            refine lv_aload_n hx hb dX7_copy_57 rfl (lv_at hl 0 rfl) ?_
            refine lv_iconst (v := (1 : Int32)) hx hb dX7_copy_58 (by decide) ?_
            obtain ⟨q28, e29, hf⟩ := bind_some hf
            refine aftI hS (cV (rest := []) X hP hS [.int (1 : Int32)] (m_X7_refuse  e29) cw_X7_refuse tw_126 tw_406 tw_754 (by decide) (cf_LP ) rfl (fits9 (by first | decide | omega) (by decide)) rfl rfl hl.1 (Nat.le_of_ble_eq_true rfl) dX7_copy_59 ⟨Nat.zero_le _, Nat.zero_le _⟩) (fun H locs hP hS => ?_)
            cases hf
            exact rtI X hr hlk hP hS dX7_copy_62
      · rw [if_neg c7] at hf
        refine lv_aload_n hx hb dX7_copy_29 rfl (lv_at hl 0 rfl) ?_
        refine lv_iconst (v := (5 : Int32)) hx hb dX7_copy_30 (by decide) ?_
        obtain ⟨q30, e31, hf⟩ := bind_some hf
        refine aftI hS (cV (rest := []) X hP hS [.int (5 : Int32)] (m_X7_refuse  e31) cw_X7_refuse tw_126 tw_406 tw_754 (by decide) (cf_LP ) rfl (fits9 (by first | decide | omega) (by decide)) rfl rfl hl.1 (Nat.le_of_ble_eq_true rfl) dX7_copy_31 ⟨Nat.zero_le _, Nat.zero_le _⟩) (fun H locs hP hS => ?_)
        cases hf
        exact rtI X hr hlk hP hS dX7_copy_34
    · rw [if_pos c6] at hf
      refine lv_iconst (v := (-1 : Int32)) hx hb dX7_copy_22 (by decide) ?_
      cases hf
      exact rtI X hr hlk hP hS dX7_copy_23
/-! X7_lay -/
section
variable {p : Program} {l : Launch} {e : Env} {s : State} {m : MethodId} {args : Array Value} {below : List Frame} {meth : Method} {c : Code}
variable {D : va_G} {cI cP cB cA : ClassId} {ad : Nat → Nat} {tL tC : Nat}
end
set_option maxHeartbeats 4000000 in
set_option maxRecDepth 100000 in
theorem m_X7_lay {l : Launch} {D : va_G} {cI cP cB cA : ClassId} {ad : Nat → Nat} {tL tC : Nat} {x1 : Int32} {x2 : Int32} {x3 : Int32} {S : Stt} {res : Int32 × Stt} (hf : f_X7_lay x1 x2 x3 S = some res) : Ct l D cI cP cB cA 79 ad tL tC yX7_lay cX7_lay 4 (some .int) 2 [.ref (ad 0), .int x1, .int x2, .int x3] (cfC ad cI cP cB cA S) (QI D 79 ad res.1 (cfC ad cI cP cB cA res.2)) := by
  refine ctOf (by decide) (Nat.le_of_ble_eq_true rfl) ?_
  intro p e s m args below meth c ls X hr hlk hP hl
  have hS : va_S (Ar 79 ad) s.heap s.heap [] := va_S.rf
  have hx := X.1.1
  have hb := X.1.2.1
  have hl : lv_has ls 4 [(0, .ref (ad 0)), (1, .int x1), (2, .int x2), (3, .int x3)] := hl
  unfold f_X7_lay at hf
  refine lv_aload_n hx hb dX7_lay_0 rfl (lv_at hl 0 rfl) ?_
  refine g_LP_rows X hP  tw_60 dX7_lay_1 ?_
  refine lv_iload_n hx hb dX7_lay_4 rfl (lv_at hl 1 rfl) ?_
  obtain ⟨q1, e2, hf⟩ := bind_some hf
  refine aftI hS (cV (rest := []) X hP hS [.int x1] (m_X6_isOne (by decide) e2) cw_X6_isOne tw_125 tw_405 tw_694 (sh_lt (by decide)) (cf_Shelf (by decide)) rfl (fits9 (by first | decide | omega) (by decide)) rfl rfl hl.1 (Nat.le_of_ble_eq_true rfl) dX7_lay_5 ⟨Nat.zero_le _, Nat.zero_le _⟩) (fun H locs hP hS => ?_)
  refine lv_if_ne (tgt := 13) hx hb dX7_lay_8 (by decide) (fun c3 => ?_) (fun c3 => ?_)
  · rw [if_neg c3] at hf
    refine lv_aload_n hx hb dX7_lay_13 rfl (lv_at hl 0 rfl) ?_
    refine g_LP_rows X hP  tw_60 dX7_lay_14 ?_
    refine lv_iload_n hx hb dX7_lay_17 rfl (lv_at hl 1 rfl) ?_
    obtain ⟨q4, e5, hf⟩ := bind_some hf
    refine aftI hS (cV (rest := []) X hP hS [.int x1] (m_X6_isThere (by decide) e5) cw_X6_isThere tw_129 tw_409 tw_695 (sh_lt (by decide)) (cf_Shelf (by decide)) rfl (fits9 (by first | decide | omega) (by decide)) rfl rfl hl.1 (Nat.le_of_ble_eq_true rfl) dX7_lay_18 ⟨Nat.zero_le _, Nat.zero_le _⟩) (fun H locs hP hS => ?_)
    refine lv_if_ne (tgt := 30) hx hb dX7_lay_21 (by decide) (fun c6 => ?_) (fun c6 => ?_)
    · rw [if_neg c6] at hf
      refine lv_aload_n hx hb dX7_lay_30 rfl (lv_at hl 0 rfl) ?_
      refine g_LP_rows X hP  tw_60 dX7_lay_31 ?_
      refine lv_iload_n hx hb dX7_lay_34 rfl (lv_at hl 1 rfl) ?_
      refine lv_iload_n hx hb dX7_lay_35 rfl (lv_at hl 2 rfl) ?_
      obtain ⟨q7, e8, hf⟩ := bind_some hf
      refine aftI hS (cV (rest := []) X hP hS [.int x1, .int x2] (m_X6_isPlace (by decide) e8) cw_X6_isPlace tw_130 tw_410 tw_696 (sh_lt (by decide)) (cf_Shelf (by decide)) rfl (fits9 (by first | decide | omega) (by decide)) rfl rfl hl.1 (Nat.le_of_ble_eq_true rfl) dX7_lay_36 ⟨Nat.zero_le _, Nat.zero_le _⟩) (fun H locs hP hS => ?_)
      refine lv_if_ne (tgt := 48) hx hb dX7_lay_39 (by decide) (fun c9 => ?_) (fun c9 => ?_)
      · rw [if_neg c9] at hf
        refine lv_aload_n hx hb dX7_lay_48 rfl (lv_at hl 0 rfl) ?_
        refine lv_aload_n hx hb dX7_lay_49 rfl (lv_at hl 0 rfl) ?_
        refine g_LP_rows X hP  tw_60 dX7_lay_50 ?_
        refine lv_iload_n hx hb dX7_lay_53 rfl (lv_at hl 1 rfl) ?_
        refine lv_iload_n hx hb dX7_lay_54 rfl (lv_at hl 2 rfl) ?_
        obtain ⟨q10, e11, hf⟩ := bind_some hf
        refine aftI hS (cV (rest := [.ref (ad 0)]) X hP hS [.int x1, .int x2] (m_X6_placeOf (by decide) e11) cw_X6_placeOf tw_131 tw_411 tw_699 (sh_lt (by decide)) (cf_Shelf (by decide)) rfl (fits9 (by first | decide | omega) (by decide)) rfl rfl hl.1 (Nat.le_of_ble_eq_true rfl) dX7_lay_55 ⟨Nat.zero_le _, Nat.zero_le _⟩) (fun H locs hP hS => ?_)
        refine p_LP_lastAsked X hP hS  tw_71 dX7_lay_58 (fun H locs hP hS => ?_)
        refine lv_aload_n hx hb dX7_lay_61 rfl (lv_at hl 0 rfl) ?_
        refine g_LP_rows X hP  tw_60 dX7_lay_62 ?_
        refine lv_iload_n hx hb dX7_lay_65 rfl (lv_at hl 1 rfl) ?_
        refine lv_iload_n hx hb dX7_lay_66 rfl (lv_at hl 2 rfl) ?_
        refine lv_iload_n hx hb dX7_lay_67 rfl (lv_at hl 3 rfl) ?_
        obtain ⟨q12, e13, hf⟩ := bind_some hf
        refine aftV hS (cV (rest := []) X hP hS [.int x1, .int x2, .int x3] (m_X6_write (by decide) e13) cw_X6_write tw_132 tw_412 tw_700 (sh_lt (by decide)) (cf_Shelf (by decide)) rfl (fits9 (by first | decide | omega) (by decide)) rfl rfl hl.1 (Nat.le_of_ble_eq_true rfl) dX7_lay_68 ⟨Nat.zero_le _, Nat.zero_le _⟩) (fun H locs hP hS => ?_)
        refine lv_iconst (v := (1 : Int32)) hx hb dX7_lay_71 (by decide) ?_
        cases hf
        exact rtI X hr hlk hP hS dX7_lay_72
      · rw [if_pos c9] at hf
        refine lv_aload_n hx hb dX7_lay_42 rfl (lv_at hl 0 rfl) ?_
        refine lv_iconst (v := (2 : Int32)) hx hb dX7_lay_43 (by decide) ?_
        obtain ⟨q14, e15, hf⟩ := bind_some hf
        refine aftI hS (cV (rest := []) X hP hS [.int (2 : Int32)] (m_X7_refuse  e15) cw_X7_refuse tw_126 tw_406 tw_754 (by decide) (cf_LP ) rfl (fits9 (by first | decide | omega) (by decide)) rfl rfl hl.1 (Nat.le_of_ble_eq_true rfl) dX7_lay_44 ⟨Nat.zero_le _, Nat.zero_le _⟩) (fun H locs hP hS => ?_)
        cases hf
        exact rtI X hr hlk hP hS dX7_lay_47
    · rw [if_pos c6] at hf
      refine lv_aload_n hx hb dX7_lay_24 rfl (lv_at hl 0 rfl) ?_
      refine lv_iconst (v := (1 : Int32)) hx hb dX7_lay_25 (by decide) ?_
      obtain ⟨q16, e17, hf⟩ := bind_some hf
      refine aftI hS (cV (rest := []) X hP hS [.int (1 : Int32)] (m_X7_refuse  e17) cw_X7_refuse tw_126 tw_406 tw_754 (by decide) (cf_LP ) rfl (fits9 (by first | decide | omega) (by decide)) rfl rfl hl.1 (Nat.le_of_ble_eq_true rfl) dX7_lay_26 ⟨Nat.zero_le _, Nat.zero_le _⟩) (fun H locs hP hS => ?_)
      cases hf
      exact rtI X hr hlk hP hS dX7_lay_29
  · rw [if_pos c3] at hf
    refine lv_iconst (v := (-1 : Int32)) hx hb dX7_lay_11 (by decide) ?_
    cases hf
    exact rtI X hr hlk hP hS dX7_lay_12
/-! X7_mean -/
section
variable {p : Program} {l : Launch} {e : Env} {s : State} {m : MethodId} {args : Array Value} {below : List Frame} {meth : Method} {c : Code}
variable {D : va_G} {cI cP cB cA : ClassId} {ad : Nat → Nat} {tL tC : Nat}
end
set_option maxHeartbeats 4000000 in
set_option maxRecDepth 100000 in
theorem m_X7_mean {l : Launch} {D : va_G} {cI cP cB cA : ClassId} {ad : Nat → Nat} {tL tC : Nat} {x1 : Int32} {S : Stt} {res : Int32 × Stt} (hf : f_X7_mean x1 S = some res) : Ct l D cI cP cB cA 79 ad tL tC yX7_mean cX7_mean 3 (some .int) 2 [.ref (ad 0), .int x1] (cfC ad cI cP cB cA S) (QI D 79 ad res.1 (cfC ad cI cP cB cA res.2)) := by
  refine ctOf (by decide) (Nat.le_of_ble_eq_true rfl) ?_
  intro p e s m args below meth c ls X hr hlk hP hl
  have hS : va_S (Ar 79 ad) s.heap s.heap [] := va_S.rf
  have hx := X.1.1
  have hb := X.1.2.1
  have hl : lv_has ls 3 [(0, .ref (ad 0)), (1, .int x1)] := hl
  unfold f_X7_mean at hf
  refine lv_aload_n hx hb dX7_mean_0 rfl (lv_at hl 0 rfl) ?_
  refine g_LP_rows X hP  tw_60 dX7_mean_1 ?_
  refine lv_iload_n hx hb dX7_mean_4 rfl (lv_at hl 1 rfl) ?_
  obtain ⟨q1, e2, hf⟩ := bind_some hf
  refine aftI hS (cV (rest := []) X hP hS [.int x1] (m_X6_isOne (by decide) e2) cw_X6_isOne tw_125 tw_405 tw_694 (sh_lt (by decide)) (cf_Shelf (by decide)) rfl (fits9 (by first | decide | omega) (by decide)) rfl rfl hl.1 (Nat.le_of_ble_eq_true rfl) dX7_mean_5 ⟨Nat.zero_le _, Nat.zero_le _⟩) (fun H locs hP hS => ?_)
  refine lv_if_ne (tgt := 13) hx hb dX7_mean_8 (by decide) (fun c3 => ?_) (fun c3 => ?_)
  · rw [if_neg c3] at hf
    refine lv_aload_n hx hb dX7_mean_13 rfl (lv_at hl 0 rfl) ?_
    refine g_LP_rows X hP  tw_60 dX7_mean_14 ?_
    refine lv_iload_n hx hb dX7_mean_17 rfl (lv_at hl 1 rfl) ?_
    obtain ⟨q4, e5, hf⟩ := bind_some hf
    refine aftI hS (cV (rest := []) X hP hS [.int x1] (m_X6_isThere (by decide) e5) cw_X6_isThere tw_129 tw_409 tw_695 (sh_lt (by decide)) (cf_Shelf (by decide)) rfl (fits9 (by first | decide | omega) (by decide)) rfl rfl hl.1 (Nat.le_of_ble_eq_true rfl) dX7_mean_18 ⟨Nat.zero_le _, Nat.zero_le _⟩) (fun H locs hP hS => ?_)
    refine lv_if_ne (tgt := 30) hx hb dX7_mean_21 (by decide) (fun c6 => ?_) (fun c6 => ?_)
    · rw [if_neg c6] at hf
      refine lv_aload_n hx hb dX7_mean_30 rfl (lv_at hl 0 rfl) ?_
      refine g_LP_rows X hP  tw_60 dX7_mean_31 ?_
      refine lv_iload_n hx hb dX7_mean_34 rfl (lv_at hl 1 rfl) ?_
      obtain ⟨q7, e8, hf⟩ := bind_some hf
      refine aftI hS (cV (rest := []) X hP hS [.int x1] (m_X6_sizeOf (by decide) e8) cw_X6_sizeOf tw_141 tw_422 tw_698 (sh_lt (by decide)) (cf_Shelf (by decide)) rfl (fits9 (by first | decide | omega) (by decide)) rfl rfl hl.1 (Nat.le_of_ble_eq_true rfl) dX7_mean_35 ⟨Nat.zero_le _, Nat.zero_le _⟩) (fun H locs hP hS => ?_)
      refine lv_istore_n (lv' := [(2, .int q7.1), (0, .ref (ad 0)), (1, .int x1)]) hx hb dX7_mean_38 rfl hl (by decide) rfl (fun ls hl => ?_)
      refine lv_iload_n hx hb dX7_mean_39 rfl (lv_at hl 0 rfl) ?_
      refine lv_if_ne (tgt := 49) hx hb dX7_mean_40 (by decide) (fun c9 => ?_) (fun c9 => ?_)
      · rw [if_neg c9] at hf
        refine lv_aload_n hx hb dX7_mean_49 rfl (lv_at hl 1 rfl) ?_
        refine lv_aload_n hx hb dX7_mean_50 rfl (lv_at hl 1 rfl) ?_
        refine g_LP_rows X hP  tw_60 dX7_mean_51 ?_
        refine lv_iload_n hx hb dX7_mean_54 rfl (lv_at hl 2 rfl) ?_
        obtain ⟨q10, e11, hf⟩ := bind_some hf
        refine aftL hS (cV (rest := [.ref (ad 0)]) X hP hS [.int x1] (m_X6_sumOf (by decide) e11) cw_X6_sumOf tw_142 tw_423 tw_704 (sh_lt (by decide)) (cf_Shelf (by decide)) rfl (fits9 (by first | decide | omega) (by decide)) rfl rfl hl.1 (Nat.le_of_ble_eq_true rfl) dX7_mean_55 ⟨Nat.zero_le _, Nat.zero_le _⟩) (fun H locs hP hS => ?_)
        refine lv_iload_n hx hb dX7_mean_58 rfl (lv_at hl 0 rfl) ?_
        refine lv_i2l hx hb dX7_mean_59 rfl ?_
        obtain ⟨g12, hf⟩ := grd_some hf
        refine lv_ldiv hx hb dX7_mean_60 (of_decide_eq_true g12) ?_
        refine lv_l2i hx hb dX7_mean_61 rfl ?_
        refine p_LP_lastAsked X hP hS  tw_71 dX7_mean_62 (fun H locs hP hS => ?_)
        refine lv_iconst (v := (1 : Int32)) hx hb dX7_mean_65 (by decide) ?_
        cases hf
        exact rtI X hr hlk hP hS dX7_mean_66
      · rw [if_pos c9] at hf
        refine lv_aload_n hx hb dX7_mean_43 rfl (lv_at hl 1 rfl) ?_
        refine lv_iconst (v := (4 : Int32)) hx hb dX7_mean_44 (by decide) ?_
        obtain ⟨q13, e14, hf⟩ := bind_some hf
        refine aftI hS (cV (rest := []) X hP hS [.int (4 : Int32)] (m_X7_refuse  e14) cw_X7_refuse tw_126 tw_406 tw_754 (by decide) (cf_LP ) rfl (fits9 (by first | decide | omega) (by decide)) rfl rfl hl.1 (Nat.le_of_ble_eq_true rfl) dX7_mean_45 ⟨Nat.zero_le _, Nat.zero_le _⟩) (fun H locs hP hS => ?_)
        cases hf
        exact rtI X hr hlk hP hS dX7_mean_48
    · rw [if_pos c6] at hf
      refine lv_aload_n hx hb dX7_mean_24 rfl (lv_at hl 0 rfl) ?_
      refine lv_iconst (v := (1 : Int32)) hx hb dX7_mean_25 (by decide) ?_
      obtain ⟨q15, e16, hf⟩ := bind_some hf
      refine aftI hS (cV (rest := []) X hP hS [.int (1 : Int32)] (m_X7_refuse  e16) cw_X7_refuse tw_126 tw_406 tw_754 (by decide) (cf_LP ) rfl (fits9 (by first | decide | omega) (by decide)) rfl rfl hl.1 (Nat.le_of_ble_eq_true rfl) dX7_mean_26 ⟨Nat.zero_le _, Nat.zero_le _⟩) (fun H locs hP hS => ?_)
      cases hf
      exact rtI X hr hlk hP hS dX7_mean_29
  · rw [if_pos c3] at hf
    refine lv_iconst (v := (-1 : Int32)) hx hb dX7_mean_11 (by decide) ?_
    cases hf
    exact rtI X hr hlk hP hS dX7_mean_12
/-! X7_namesEachPageOnce -/
section
variable {p : Program} {l : Launch} {e : Env} {s : State} {m : MethodId} {args : Array Value} {below : List Frame} {meth : Method} {c : Code}
variable {D : va_G} {cI cP cB cA : ClassId} {ad : Nat → Nat} {tL tC : Nat}
set_option maxHeartbeats 4000000 in
set_option maxRecDepth 100000 in
theorem vb_X7_namesEachPageOnce_4 (X : Cx D cI cP cB cA 79 ad tL tC p s m c cX7_namesEachPageOnce 5 args RX7) (hr : meth.sig.returnType = (some .boolean)) (hlk : meth.locks = false) {res : Int32 × Stt} (kb : Int32 → Int32 → Int32 → Stt → Option (Int32 × Stt)) (ke : Stt → Option (Int32 × Stt)) (hkb : ∀ (x1 : Int32) (x2 : Int32) (x3 : Int32) (S : Stt) (H : Heap) (locs : List Loc) (ls : Array Slot), kb x1 x2 x3 S = some res → va_P D vwCl (wl 79 ad (cfC ad cI cP cB cA S)) H → va_S (Ar 79 ad) s.heap H locs → lv_has ls 5 [(0, .ref (ad 0)), (1, .int x1), (2, .int x2), (3, .int x3)] → W p l e (rmD 2) s m args below meth c H locs 0 0 (MQ below (QI D 79 ad res.1 (cfC ad cI cP cB cA res.2)) args s 0 0 (Ar 79 ad)) (F0 m 4 ls [])) (hke : ∀ (S : Stt) (H : Heap) (locs : List Loc) (ls : Array Slot), ke S = some res → va_P D vwCl (wl 79 ad (cfC ad cI cP cB cA S)) H → va_S (Ar 79 ad) s.heap H locs → lv_has ls 5 [] → W p l e (rmD 2) s m args below meth c H locs 0 0 (MQ below (QI D 79 ad res.1 (cfC ad cI cP cB cA res.2)) args s 0 0 (Ar 79 ad)) (F0 m 63 ls [])) : ∀ (x1 : Int32) (x2 : Int32) (x3 : Int32) (S : Stt) (H : Heap) (locs : List Loc) (ls : Array Slot), fb_X7_namesEachPageOnce_4 kb ke x1 x2 x3 S = some res → va_P D vwCl (wl 79 ad (cfC ad cI cP cB cA S)) H → va_S (Ar 79 ad) s.heap H locs → lv_has ls 5 [(0, .ref (ad 0)), (1, .int x1), (2, .int x2), (3, .int x3)] → W p l e (rmD 2) s m args below meth c H locs 0 0 (MQ below (QI D 79 ad res.1 (cfC ad cI cP cB cA res.2)) args s 0 0 (Ar 79 ad)) (F0 m 4 ls []) := by
  intro x1 x2 x3 S H locs ls hf hP hS hl
  have hx := X.1.1
  have hb := X.1.2.1
  unfold fb_X7_namesEachPageOnce_4 at hf
  refine lv_iload_n hx hb dX7_namesEachPageOnce_4 rfl (lv_at hl 3 rfl) ?_
  refine lv_aload_n hx hb dX7_namesEachPageOnce_5 rfl (lv_at hl 0 rfl) ?_
  refine g_LP_rows X hP  tw_60 dX7_namesEachPageOnce_6 ?_
  refine lv_iload_n hx hb dX7_namesEachPageOnce_9 rfl (lv_at hl 1 rfl) ?_
  obtain ⟨q1, e2, hf⟩ := bind_some hf
  refine aftI hS (cV (rest := [.int x3]) X hP hS [.int x1] (m_X6_sizeOf (by decide) e2) cw_X6_sizeOf tw_141 tw_422 tw_698 (sh_lt (by decide)) (cf_Shelf (by decide)) rfl (fits9 (by first | decide | omega) (by decide)) rfl rfl hl.1 (Nat.le_of_ble_eq_true rfl) dX7_namesEachPageOnce_10 ⟨Nat.zero_le _, Nat.zero_le _⟩) (fun H locs hP hS => ?_)
  refine lv_icmp_ge (tgt := 63) hx hb dX7_namesEachPageOnce_13 (by decide) (fun c3 => ?_) (fun c3 => ?_)
  · rw [if_pos c3] at hf
    exact hke  _ _ _ ls hf  hP hS (lv_sub hl [] rfl)
  · rw [if_neg c3] at hf
    refine lv_aload_n hx hb dX7_namesEachPageOnce_16 rfl (lv_at hl 0 rfl) ?_
    refine g_LP_rows X hP  tw_60 dX7_namesEachPageOnce_17 ?_
    refine lv_iload_n hx hb dX7_namesEachPageOnce_20 rfl (lv_at hl 1 rfl) ?_
    refine lv_iload_n hx hb dX7_namesEachPageOnce_21 rfl (lv_at hl 3 rfl) ?_
    obtain ⟨q4, e5, hf⟩ := bind_some hf
    refine aftI hS (cV (rest := []) X hP hS [.int x1, .int x3] (m_X6_placeOf (by decide) e5) cw_X6_placeOf tw_131 tw_411 tw_699 (sh_lt (by decide)) (cf_Shelf (by decide)) rfl (fits9 (by first | decide | omega) (by decide)) rfl rfl hl.1 (Nat.le_of_ble_eq_true rfl) dX7_namesEachPageOnce_22 ⟨Nat.zero_le _, Nat.zero_le _⟩) (fun H locs hP hS => ?_)
    refine lv_istore (lv' := [(4, .int q4.1), (0, .ref (ad 0)), (1, .int x1), (2, .int x2), (3, .int x3)]) hx hb dX7_namesEachPageOnce_25 hl (by decide) rfl (fun ls hl => ?_)
    refine lv_aload_n hx hb dX7_namesEachPageOnce_27 rfl (lv_at hl 1 rfl) ?_
    refine g_LP_book X hP  tw_62 dX7_namesEachPageOnce_28 ?_
    refine lv_iload hx hb dX7_namesEachPageOnce_31 (lv_at hl 0 rfl) ?_
    obtain ⟨q6, e7, hf⟩ := bind_some hf
    refine aftI hS (cV (rest := []) X hP hS [.int q4.1] (m_X0_isOne (by decide) e7) cw_X0_isOne tw_169 tw_450 tw_644 (bk_lt (by decide)) (cf_Book (by decide)) rfl (fits9 (by first | decide | omega) (by decide)) rfl rfl hl.1 (Nat.le_of_ble_eq_true rfl) dX7_namesEachPageOnce_33 ⟨Nat.zero_le _, Nat.zero_le _⟩) (fun H locs hP hS => ?_)
    refine lv_if_eq (tgt := 48) hx hb dX7_namesEachPageOnce_36 (by decide) (fun c8 => ?_) (fun c8 => ?_)
    · rw [if_pos c8] at hf
      refine lv_iconst (v := (0 : Int32)) hx hb dX7_namesEachPageOnce_48 (by decide) ?_
      cases hf
      exact rtZ X hr hlk hP hS (Or.inl rfl) dX7_namesEachPageOnce_49
    · rw [if_neg c8] at hf
      refine lv_iload_n hx hb dX7_namesEachPageOnce_39 rfl (lv_at hl 3 rfl) ?_
      refine lv_iload hx hb dX7_namesEachPageOnce_40 (lv_at hl 0 rfl) ?_
      obtain ⟨q9, e10, hf⟩ := bind_some hf
      refine aftI hS (cS (rest := []) X hP hS [.int x2, .int q4.1] (m_X7_hasBit  e10) cw_X7_hasBit tw_185 tw_435 (fits9 (by first | decide | omega) (by decide)) rfl rfl hl.1 (Nat.le_of_ble_eq_true rfl) dX7_namesEachPageOnce_42 ⟨Nat.zero_le _, Nat.zero_le _⟩) (fun H locs hP hS => ?_)
      refine lv_if_eq (tgt := 50) hx hb dX7_namesEachPageOnce_45 (by decide) (fun c11 => ?_) (fun c11 => ?_)
      · rw [if_pos c11] at hf
        refine lv_iload_n hx hb dX7_namesEachPageOnce_50 rfl (lv_at hl 3 rfl) ?_
        refine lv_iconst (v := (1 : Int32)) hx hb dX7_namesEachPageOnce_51 (by decide) ?_
        refine lv_iload hx hb dX7_namesEachPageOnce_52 (lv_at hl 0 rfl) ?_
        refine lv_ishl hx hb dX7_namesEachPageOnce_54 ?_
        refine lv_ior hx hb dX7_namesEachPageOnce_55 ?_
        refine lv_istore_n (lv' := [(2, .int (x2 ||| ((1 : Int32) <<< (q4.1 &&& 31)))), (4, .int q4.1), (0, .ref (ad 0)), (1, .int x1), (3, .int x3)]) hx hb dX7_namesEachPageOnce_56 rfl hl (by decide) rfl (fun ls hl => ?_)
        refine lv_iinc (v := (x3 + (1 : Int32))) (lv' := [(3, .int (x3 + (1 : Int32))), (2, .int (x2 ||| ((1 : Int32) <<< (q4.1 &&& 31)))), (4, .int q4.1), (0, .ref (ad 0)), (1, .int x1)]) hx hb dX7_namesEachPageOnce_57 hl (k := 4) rfl rfl (by decide) rfl (fun ls hl => ?_)
        refine lv_goto (tgt := 4) hx hb dX7_namesEachPageOnce_60 (by decide) ?_
        exact hkb _ _ _ _ _ _ ls hf  hP hS (lv_sub hl [3, 4, 1, 0] rfl)
      · rw [if_neg c11] at hf
        refine lv_iconst (v := (0 : Int32)) hx hb dX7_namesEachPageOnce_48 (by decide) ?_
        cases hf
        exact rtZ X hr hlk hP hS (Or.inl rfl) dX7_namesEachPageOnce_49
set_option maxHeartbeats 4000000 in
set_option maxRecDepth 100000 in
theorem vl_X7_namesEachPageOnce_4 (X : Cx D cI cP cB cA 79 ad tL tC p s m c cX7_namesEachPageOnce 5 args RX7) (hr : meth.sig.returnType = (some .boolean)) (hlk : meth.locks = false) {res : Int32 × Stt} (ke : Stt → Option (Int32 × Stt)) (hke : ∀ (S : Stt) (H : Heap) (locs : List Loc) (ls : Array Slot), ke S = some res → va_P D vwCl (wl 79 ad (cfC ad cI cP cB cA S)) H → va_S (Ar 79 ad) s.heap H locs → lv_has ls 5 [] → W p l e (rmD 2) s m args below meth c H locs 0 0 (MQ below (QI D 79 ad res.1 (cfC ad cI cP cB cA res.2)) args s 0 0 (Ar 79 ad)) (F0 m 63 ls [])) : ∀ (n : Nat), ∀ (x1 : Int32) (x2 : Int32) (x3 : Int32) (S : Stt) (H : Heap) (locs : List Loc) (ls : Array Slot), fl_X7_namesEachPageOnce_4 ke n x1 x2 x3 S = some res → va_P D vwCl (wl 79 ad (cfC ad cI cP cB cA S)) H → va_S (Ar 79 ad) s.heap H locs → lv_has ls 5 [(0, .ref (ad 0)), (1, .int x1), (2, .int x2), (3, .int x3)] → W p l e (rmD 2) s m args below meth c H locs 0 0 (MQ below (QI D 79 ad res.1 (cfC ad cI cP cB cA res.2)) args s 0 0 (Ar 79 ad)) (F0 m 4 ls []) := by
  intro n
  induction n with
  | zero =>
    intro x1 x2 x3 S H locs ls hf hP hS hl
    cases hf
  | succ n ih =>
    intro x1 x2 x3 S H locs ls hf hP hS hl
    exact vb_X7_namesEachPageOnce_4 X hr hlk _ ke ih hke x1 x2 x3 S H locs ls hf  hP hS hl
end
set_option maxHeartbeats 4000000 in
set_option maxRecDepth 100000 in
theorem m_X7_namesEachPageOnce {l : Launch} {D : va_G} {cI cP cB cA : ClassId} {ad : Nat → Nat} {tL tC : Nat} {x1 : Int32} {S : Stt} {res : Int32 × Stt} (hf : f_X7_namesEachPageOnce x1 S = some res) : Ct l D cI cP cB cA 79 ad tL tC yX7_namesEachPageOnce cX7_namesEachPageOnce 5 (some .boolean) 2 [.ref (ad 0), .int x1] (cfC ad cI cP cB cA S) (QI D 79 ad res.1 (cfC ad cI cP cB cA res.2)) := by
  refine ctOf (by decide) (Nat.le_of_ble_eq_true rfl) ?_
  intro p e s m args below meth c ls X hr hlk hP hl
  have hS : va_S (Ar 79 ad) s.heap s.heap [] := va_S.rf
  have hx := X.1.1
  have hb := X.1.2.1
  have hl : lv_has ls 5 [(0, .ref (ad 0)), (1, .int x1)] := hl
  unfold f_X7_namesEachPageOnce at hf
  refine lv_iconst (v := (0 : Int32)) hx hb dX7_namesEachPageOnce_0 (by decide) ?_
  refine lv_istore_n (lv' := [(2, .int (0 : Int32)), (0, .ref (ad 0)), (1, .int x1)]) hx hb dX7_namesEachPageOnce_1 rfl hl (by decide) rfl (fun ls hl => ?_)
  refine lv_iconst (v := (0 : Int32)) hx hb dX7_namesEachPageOnce_2 (by decide) ?_
  refine lv_istore_n (lv' := [(3, .int (0 : Int32)), (2, .int (0 : Int32)), (0, .ref (ad 0)), (1, .int x1)]) hx hb dX7_namesEachPageOnce_3 rfl hl (by decide) rfl (fun ls hl => ?_)
  refine vl_X7_namesEachPageOnce_4 X hr hlk _ ?_ 300 _ _ _ _ _ _ ls hf  hP hS (lv_sub hl [2, 3, 1, 0] rfl)
  intro S H locs ls hf hP hS hl
  refine lv_iconst (v := (1 : Int32)) hx hb dX7_namesEachPageOnce_63 (by decide) ?_
  cases hf
  exact rtZ X hr hlk hP hS (Or.inr rfl) dX7_namesEachPageOnce_64
/-! X7_put -/
section
variable {p : Program} {l : Launch} {e : Env} {s : State} {m : MethodId} {args : Array Value} {below : List Frame} {meth : Method} {c : Code}
variable {D : va_G} {cI cP cB cA : ClassId} {ad : Nat → Nat} {tL tC : Nat}
end
set_option maxHeartbeats 4000000 in
set_option maxRecDepth 100000 in
theorem m_X7_put {l : Launch} {D : va_G} {cI cP cB cA : ClassId} {ad : Nat → Nat} {tL tC : Nat} {x1 : Int32} {x2 : Int32} {x3 : Int32} {S : Stt} {res : Int32 × Stt} (hf : f_X7_put x1 x2 x3 S = some res) : Ct l D cI cP cB cA 79 ad tL tC yX7_put cX7_put 5 (some .int) 2 [.ref (ad 0), .int x1, .int x2, .int x3] (cfC ad cI cP cB cA S) (QI D 79 ad res.1 (cfC ad cI cP cB cA res.2)) := by
  refine ctOf (by decide) (Nat.le_of_ble_eq_true rfl) ?_
  intro p e s m args below meth c ls X hr hlk hP hl
  have hS : va_S (Ar 79 ad) s.heap s.heap [] := va_S.rf
  have hx := X.1.1
  have hb := X.1.2.1
  have hl : lv_has ls 5 [(0, .ref (ad 0)), (1, .int x1), (2, .int x2), (3, .int x3)] := hl
  unfold f_X7_put at hf
  refine lv_aload_n hx hb dX7_put_0 rfl (lv_at hl 0 rfl) ?_
  refine g_LP_texts X hP  tw_61 dX7_put_1 ?_
  refine lv_iload_n hx hb dX7_put_4 rfl (lv_at hl 1 rfl) ?_
  obtain ⟨q1, e2, hf⟩ := bind_some hf
  refine aftI hS (cV (rest := []) X hP hS [.int x1] (m_X6_isOne (by decide) e2) cw_X6_isOne tw_125 tw_405 tw_694 (sh_lt (by decide)) (cf_Shelf (by decide)) rfl (fits9 (by first | decide | omega) (by decide)) rfl rfl hl.1 (Nat.le_of_ble_eq_true rfl) dX7_put_5 ⟨Nat.zero_le _, Nat.zero_le _⟩) (fun H locs hP hS => ?_)
  refine lv_if_ne (tgt := 13) hx hb dX7_put_8 (by decide) (fun c3 => ?_) (fun c3 => ?_)
  · rw [if_neg c3] at hf
    refine lv_aload_n hx hb dX7_put_13 rfl (lv_at hl 0 rfl) ?_
    refine g_LP_texts X hP  tw_61 dX7_put_14 ?_
    refine lv_iload_n hx hb dX7_put_17 rfl (lv_at hl 1 rfl) ?_
    obtain ⟨q4, e5, hf⟩ := bind_some hf
    refine aftI hS (cV (rest := []) X hP hS [.int x1] (m_X6_isThere (by decide) e5) cw_X6_isThere tw_129 tw_409 tw_695 (sh_lt (by decide)) (cf_Shelf (by decide)) rfl (fits9 (by first | decide | omega) (by decide)) rfl rfl hl.1 (Nat.le_of_ble_eq_true rfl) dX7_put_18 ⟨Nat.zero_le _, Nat.zero_le _⟩) (fun H locs hP hS => ?_)
    refine lv_if_ne (tgt := 30) hx hb dX7_put_21 (by decide) (fun c6 => ?_) (fun c6 => ?_)
    · rw [if_neg c6] at hf
      refine lv_aload_n hx hb dX7_put_30 rfl (lv_at hl 0 rfl) ?_
      refine g_LP_texts X hP  tw_61 dX7_put_31 ?_
      refine lv_iload_n hx hb dX7_put_34 rfl (lv_at hl 1 rfl) ?_
      refine lv_iload_n hx hb dX7_put_35 rfl (lv_at hl 2 rfl) ?_
      obtain ⟨q7, e8, hf⟩ := bind_some hf
      refine aftI hS (cV (rest := []) X hP hS [.int x1, .int x2] (m_X6_isPlace (by decide) e8) cw_X6_isPlace tw_130 tw_410 tw_696 (sh_lt (by decide)) (cf_Shelf (by decide)) rfl (fits9 (by first | decide | omega) (by decide)) rfl rfl hl.1 (Nat.le_of_ble_eq_true rfl) dX7_put_36 ⟨Nat.zero_le _, Nat.zero_le _⟩) (fun H locs hP hS => ?_)
      refine lv_if_ne (tgt := 48) hx hb dX7_put_39 (by decide) (fun c9 => ?_) (fun c9 => ?_)
      · rw [if_neg c9] at hf
        refine lv_aload_n hx hb dX7_put_48 rfl (lv_at hl 0 rfl) ?_
        refine g_LP_texts X hP  tw_61 dX7_put_49 ?_
        refine lv_iload_n hx hb dX7_put_52 rfl (lv_at hl 1 rfl) ?_
        refine lv_iload_n hx hb dX7_put_53 rfl (lv_at hl 2 rfl) ?_
        obtain ⟨q10, e11, hf⟩ := bind_some hf
        refine aftI hS (cV (rest := []) X hP hS [.int x1, .int x2] (m_X6_placeOf (by decide) e11) cw_X6_placeOf tw_131 tw_411 tw_699 (sh_lt (by decide)) (cf_Shelf (by decide)) rfl (fits9 (by first | decide | omega) (by decide)) rfl rfl hl.1 (Nat.le_of_ble_eq_true rfl) dX7_put_54 ⟨Nat.zero_le _, Nat.zero_le _⟩) (fun H locs hP hS => ?_)
        refine lv_istore (lv' := [(4, .int q10.1), (0, .ref (ad 0)), (1, .int x1), (2, .int x2), (3, .int x3)]) hx hb dX7_put_57 hl (by decide) rfl (fun ls hl => ?_)
        refine lv_aload_n hx hb dX7_put_59 rfl (lv_at hl 1 rfl) ?_
        refine g_LP_texts X hP  tw_61 dX7_put_60 ?_
        refine lv_iload_n hx hb dX7_put_63 rfl (lv_at hl 2 rfl) ?_
        refine lv_iload_n hx hb dX7_put_64 rfl (lv_at hl 3 rfl) ?_
        refine lv_iload_n hx hb dX7_put_65 rfl (lv_at hl 4 rfl) ?_
        refine lv_i2b hx hb dX7_put_66 rfl ?_
        obtain ⟨q12, e13, hf⟩ := bind_some hf
        refine aftV hS (cV (rest := []) X hP hS [.int x1, .int x2, .int x3.toInt8.toInt32] (m_X6_write (by decide) e13) cw_X6_write tw_132 tw_412 tw_700 (sh_lt (by decide)) (cf_Shelf (by decide)) rfl (fits9 (by first | decide | omega) (by decide)) rfl rfl hl.1 (Nat.le_of_ble_eq_true rfl) dX7_put_67 ⟨Nat.zero_le _, Nat.zero_le _⟩) (fun H locs hP hS => ?_)
        refine lv_iload hx hb dX7_put_70 (lv_at hl 0 rfl) ?_
        refine lv_sipush (v := (1000 : Int32)) hx hb dX7_put_72 (by decide) ?_
        refine lv_iadd hx hb dX7_put_75 ?_
        cases hf
        exact rtI X hr hlk hP hS dX7_put_76
      · rw [if_pos c9] at hf
        refine lv_aload_n hx hb dX7_put_42 rfl (lv_at hl 0 rfl) ?_
        refine lv_iconst (v := (2 : Int32)) hx hb dX7_put_43 (by decide) ?_
        obtain ⟨q14, e15, hf⟩ := bind_some hf
        refine aftI hS (cV (rest := []) X hP hS [.int (2 : Int32)] (m_X7_refuse  e15) cw_X7_refuse tw_126 tw_406 tw_754 (by decide) (cf_LP ) rfl (fits9 (by first | decide | omega) (by decide)) rfl rfl hl.1 (Nat.le_of_ble_eq_true rfl) dX7_put_44 ⟨Nat.zero_le _, Nat.zero_le _⟩) (fun H locs hP hS => ?_)
        cases hf
        exact rtI X hr hlk hP hS dX7_put_47
    · rw [if_pos c6] at hf
      refine lv_aload_n hx hb dX7_put_24 rfl (lv_at hl 0 rfl) ?_
      refine lv_iconst (v := (1 : Int32)) hx hb dX7_put_25 (by decide) ?_
      obtain ⟨q16, e17, hf⟩ := bind_some hf
      refine aftI hS (cV (rest := []) X hP hS [.int (1 : Int32)] (m_X7_refuse  e17) cw_X7_refuse tw_126 tw_406 tw_754 (by decide) (cf_LP ) rfl (fits9 (by first | decide | omega) (by decide)) rfl rfl hl.1 (Nat.le_of_ble_eq_true rfl) dX7_put_26 ⟨Nat.zero_le _, Nat.zero_le _⟩) (fun H locs hP hS => ?_)
      cases hf
      exact rtI X hr hlk hP hS dX7_put_29
  · rw [if_pos c3] at hf
    refine lv_iconst (v := (-1 : Int32)) hx hb dX7_put_11 (by decide) ?_
    cases hf
    exact rtI X hr hlk hP hS dX7_put_12
/-! X7_refusalOfDeeds -/
section
variable {p : Program} {l : Launch} {e : Env} {s : State} {m : MethodId} {args : Array Value} {below : List Frame} {meth : Method} {c : Code}
variable {D : va_G} {cI cP cB cA : ClassId} {ad : Nat → Nat} {tL tC : Nat}
set_option maxHeartbeats 4000000 in
set_option maxRecDepth 100000 in
theorem vb_X7_refusalOfDeeds_62 (X : Cx D cI cP cB cA 79 ad tL tC p s m c cX7_refusalOfDeeds 5 args RX7) (hr : meth.sig.returnType = (some .int)) (hlk : meth.locks = false) {res : Int32 × Stt} (kb : Int32 → Int32 → Stt → Option (Int32 × Stt)) (ke : Stt → Option (Int32 × Stt)) (hkb : ∀ (x1 : Int32) (x4 : Int32) (S : Stt) (H : Heap) (locs : List Loc) (ls : Array Slot), kb x1 x4 S = some res → va_P D vwCl (wl 79 ad (cfC ad cI cP cB cA S)) H → va_S (Ar 79 ad) s.heap H locs → lv_has ls 5 [(0, .ref (ad 0)), (1, .int x1), (4, .int x4)] → W p l e (rmD 2) s m args below meth c H locs 0 0 (MQ below (QI D 79 ad res.1 (cfC ad cI cP cB cA res.2)) args s 0 0 (Ar 79 ad)) (F0 m 62 ls [])) (hke : ∀ (S : Stt) (H : Heap) (locs : List Loc) (ls : Array Slot), ke S = some res → va_P D vwCl (wl 79 ad (cfC ad cI cP cB cA S)) H → va_S (Ar 79 ad) s.heap H locs → lv_has ls 5 [] → W p l e (rmD 2) s m args below meth c H locs 0 0 (MQ below (QI D 79 ad res.1 (cfC ad cI cP cB cA res.2)) args s 0 0 (Ar 79 ad)) (F0 m 103 ls [])) : ∀ (x1 : Int32) (x4 : Int32) (S : Stt) (H : Heap) (locs : List Loc) (ls : Array Slot), fb_X7_refusalOfDeeds_62 kb ke x1 x4 S = some res → va_P D vwCl (wl 79 ad (cfC ad cI cP cB cA S)) H → va_S (Ar 79 ad) s.heap H locs → lv_has ls 5 [(0, .ref (ad 0)), (1, .int x1), (4, .int x4)] → W p l e (rmD 2) s m args below meth c H locs 0 0 (MQ below (QI D 79 ad res.1 (cfC ad cI cP cB cA res.2)) args s 0 0 (Ar 79 ad)) (F0 m 62 ls []) := by
  intro x1 x4 S H locs ls hf hP hS hl
  have hx := X.1.1
  have hb := X.1.2.1
  unfold fb_X7_refusalOfDeeds_62 at hf
  refine lv_iload hx hb dX7_refusalOfDeeds_62 (lv_at hl 2 rfl) ?_
  refine lv_aload_n hx hb dX7_refusalOfDeeds_64 rfl (lv_at hl 0 rfl) ?_
  refine g_LP_rows X hP  tw_60 dX7_refusalOfDeeds_65 ?_
  refine lv_iload_n hx hb dX7_refusalOfDeeds_68 rfl (lv_at hl 1 rfl) ?_
  obtain ⟨q13, e14, hf⟩ := bind_some hf
  refine aftI hS (cV (rest := [.int x4]) X hP hS [.int x1] (m_X6_sizeOf (by decide) e14) cw_X6_sizeOf tw_141 tw_422 tw_698 (sh_lt (by decide)) (cf_Shelf (by decide)) rfl (fits9 (by first | decide | omega) (by decide)) rfl rfl hl.1 (Nat.le_of_ble_eq_true rfl) dX7_refusalOfDeeds_69 ⟨Nat.zero_le _, Nat.zero_le _⟩) (fun H locs hP hS => ?_)
  refine lv_icmp_ge (tgt := 103) hx hb dX7_refusalOfDeeds_72 (by decide) (fun c15 => ?_) (fun c15 => ?_)
  · rw [if_pos c15] at hf
    exact hke  _ _ _ ls hf  hP hS (lv_sub hl [] rfl)
  · rw [if_neg c15] at hf
    refine lv_aload_n hx hb dX7_refusalOfDeeds_75 rfl (lv_at hl 0 rfl) ?_
    refine g_LP_rows X hP  tw_60 dX7_refusalOfDeeds_76 ?_
    refine lv_iload_n hx hb dX7_refusalOfDeeds_79 rfl (lv_at hl 1 rfl) ?_
    refine lv_iload hx hb dX7_refusalOfDeeds_80 (lv_at hl 2 rfl) ?_
    obtain ⟨q16, e17, hf⟩ := bind_some hf
    refine aftI hS (cV (rest := []) X hP hS [.int x1, .int x4] (m_X6_placeOf (by decide) e17) cw_X6_placeOf tw_131 tw_411 tw_699 (sh_lt (by decide)) (cf_Shelf (by decide)) rfl (fits9 (by first | decide | omega) (by decide)) rfl rfl hl.1 (Nat.le_of_ble_eq_true rfl) dX7_refusalOfDeeds_82 ⟨Nat.zero_le _, Nat.zero_le _⟩) (fun H locs hP hS => ?_)
    obtain ⟨q18, e19, hf⟩ := bind_some hf
    refine aftI hS (cS (rest := []) X hP hS [.int q16.1] (m_X7_isCase  e19) cw_X7_isCase tw_204 tw_476 (fits9 (by first | decide | omega) (by decide)) rfl rfl hl.1 (Nat.le_of_ble_eq_true rfl) dX7_refusalOfDeeds_85 ⟨Nat.zero_le _, Nat.zero_le _⟩) (fun H locs hP hS => ?_)
    refine lv_if_ne (tgt := 97) hx hb dX7_refusalOfDeeds_88 (by decide) (fun c20 => ?_) (fun c20 => ?_)
    · rw [if_neg c20] at hf
      refine lv_iinc (v := (x4 + (1 : Int32))) (lv' := [(4, .int (x4 + (1 : Int32))), (0, .ref (ad 0)), (1, .int x1)]) hx hb dX7_refusalOfDeeds_97 hl (k := 2) rfl rfl (by decide) rfl (fun ls hl => ?_)
      refine lv_goto (tgt := 62) hx hb dX7_refusalOfDeeds_100 (by decide) ?_
      exact hkb _ _ _ _ _ ls hf  hP hS (lv_sub hl [1, 2, 0] rfl)
    · rw [if_pos c20] at hf
      refine lv_aload_n hx hb dX7_refusalOfDeeds_91 rfl (lv_at hl 0 rfl) ?_
      refine lv_iconst (v := (3 : Int32)) hx hb dX7_refusalOfDeeds_92 (by decide) ?_
      obtain ⟨q21, e22, hf⟩ := bind_some hf
      refine aftI hS (cV (rest := []) X hP hS [.int (3 : Int32)] (m_X7_refuse  e22) cw_X7_refuse tw_126 tw_406 tw_754 (by decide) (cf_LP ) rfl (fits9 (by first | decide | omega) (by decide)) rfl rfl hl.1 (Nat.le_of_ble_eq_true rfl) dX7_refusalOfDeeds_93 ⟨Nat.zero_le _, Nat.zero_le _⟩) (fun H locs hP hS => ?_)
      cases hf
      exact rtI X hr hlk hP hS dX7_refusalOfDeeds_96
set_option maxHeartbeats 4000000 in
set_option maxRecDepth 100000 in
theorem vl_X7_refusalOfDeeds_62 (X : Cx D cI cP cB cA 79 ad tL tC p s m c cX7_refusalOfDeeds 5 args RX7) (hr : meth.sig.returnType = (some .int)) (hlk : meth.locks = false) {res : Int32 × Stt} (ke : Stt → Option (Int32 × Stt)) (hke : ∀ (S : Stt) (H : Heap) (locs : List Loc) (ls : Array Slot), ke S = some res → va_P D vwCl (wl 79 ad (cfC ad cI cP cB cA S)) H → va_S (Ar 79 ad) s.heap H locs → lv_has ls 5 [] → W p l e (rmD 2) s m args below meth c H locs 0 0 (MQ below (QI D 79 ad res.1 (cfC ad cI cP cB cA res.2)) args s 0 0 (Ar 79 ad)) (F0 m 103 ls [])) : ∀ (n : Nat), ∀ (x1 : Int32) (x4 : Int32) (S : Stt) (H : Heap) (locs : List Loc) (ls : Array Slot), fl_X7_refusalOfDeeds_62 ke n x1 x4 S = some res → va_P D vwCl (wl 79 ad (cfC ad cI cP cB cA S)) H → va_S (Ar 79 ad) s.heap H locs → lv_has ls 5 [(0, .ref (ad 0)), (1, .int x1), (4, .int x4)] → W p l e (rmD 2) s m args below meth c H locs 0 0 (MQ below (QI D 79 ad res.1 (cfC ad cI cP cB cA res.2)) args s 0 0 (Ar 79 ad)) (F0 m 62 ls []) := by
  intro n
  induction n with
  | zero =>
    intro x1 x4 S H locs ls hf hP hS hl
    cases hf
  | succ n ih =>
    intro x1 x4 S H locs ls hf hP hS hl
    exact vb_X7_refusalOfDeeds_62 X hr hlk _ ke ih hke x1 x4 S H locs ls hf  hP hS hl
end
set_option maxHeartbeats 4000000 in
set_option maxRecDepth 100000 in
theorem m_X7_refusalOfDeeds {l : Launch} {D : va_G} {cI cP cB cA : ClassId} {ad : Nat → Nat} {tL tC : Nat} {x1 : Int32} {x2 : Int32} {x3 : Int32} {S : Stt} {res : Int32 × Stt} (hf : f_X7_refusalOfDeeds x1 x2 x3 S = some res) : Ct l D cI cP cB cA 79 ad tL tC yX7_refusalOfDeeds cX7_refusalOfDeeds 5 (some .int) 2 [.ref (ad 0), .int x1, .int x2, .int x3] (cfC ad cI cP cB cA S) (QI D 79 ad res.1 (cfC ad cI cP cB cA res.2)) := by
  refine ctOf (by decide) (Nat.le_of_ble_eq_true rfl) ?_
  intro p e s m args below meth c ls X hr hlk hP hl
  have hS : va_S (Ar 79 ad) s.heap s.heap [] := va_S.rf
  have hx := X.1.1
  have hb := X.1.2.1
  have hl : lv_has ls 5 [(0, .ref (ad 0)), (1, .int x1), (2, .int x2), (3, .int x3)] := hl
  unfold f_X7_refusalOfDeeds at hf
  refine lv_aload_n hx hb dX7_refusalOfDeeds_0 rfl (lv_at hl 0 rfl) ?_
  refine g_LP_rows X hP  tw_60 dX7_refusalOfDeeds_1 ?_
  refine lv_iload_n hx hb dX7_refusalOfDeeds_4 rfl (lv_at hl 1 rfl) ?_
  obtain ⟨q1, e2, hf⟩ := bind_some hf
  refine aftI hS (cV (rest := []) X hP hS [.int x1] (m_X6_isOne (by decide) e2) cw_X6_isOne tw_125 tw_405 tw_694 (sh_lt (by decide)) (cf_Shelf (by decide)) rfl (fits9 (by first | decide | omega) (by decide)) rfl rfl hl.1 (Nat.le_of_ble_eq_true rfl) dX7_refusalOfDeeds_5 ⟨Nat.zero_le _, Nat.zero_le _⟩) (fun H locs hP hS => ?_)
  refine lv_if_eq (tgt := 22) hx hb dX7_refusalOfDeeds_8 (by decide) (fun c3 => ?_) (fun c3 => ?_)
  · rw [if_pos c3] at hf
    refine lv_iconst (v := (-1 : Int32)) hx hb dX7_refusalOfDeeds_22 (by decide) ?_
    cases hf
    exact rtI X hr hlk hP hS dX7_refusalOfDeeds_23
  · rw [if_neg c3] at hf
    refine lv_aload_n hx hb dX7_refusalOfDeeds_11 rfl (lv_at hl 0 rfl) ?_
    refine g_LP_rows X hP  tw_60 dX7_refusalOfDeeds_12 ?_
    refine lv_iload_n hx hb dX7_refusalOfDeeds_15 rfl (lv_at hl 2 rfl) ?_
    obtain ⟨q4, e5, hf⟩ := bind_some hf
    refine aftI hS (cV (rest := []) X hP hS [.int x2] (m_X6_isOne (by decide) e5) cw_X6_isOne tw_125 tw_405 tw_694 (sh_lt (by decide)) (cf_Shelf (by decide)) rfl (fits9 (by first | decide | omega) (by decide)) rfl rfl hl.1 (Nat.le_of_ble_eq_true rfl) dX7_refusalOfDeeds_16 ⟨Nat.zero_le _, Nat.zero_le _⟩) (fun H locs hP hS => ?_)
    refine lv_if_ne (tgt := 24) hx hb dX7_refusalOfDeeds_19 (by decide) (fun c6 => ?_) (fun c6 => ?_)
    · rw [if_neg c6] at hf
      refine lv_aload_n hx hb dX7_refusalOfDeeds_24 rfl (lv_at hl 0 rfl) ?_
      refine g_LP_rows X hP  tw_60 dX7_refusalOfDeeds_25 ?_
      refine lv_iload_n hx hb dX7_refusalOfDeeds_28 rfl (lv_at hl 1 rfl) ?_
      obtain ⟨q7, e8, hf⟩ := bind_some hf
      refine aftI hS (cV (rest := []) X hP hS [.int x1] (m_X6_isThere (by decide) e8) cw_X6_isThere tw_129 tw_409 tw_695 (sh_lt (by decide)) (cf_Shelf (by decide)) rfl (fits9 (by first | decide | omega) (by decide)) rfl rfl hl.1 (Nat.le_of_ble_eq_true rfl) dX7_refusalOfDeeds_29 ⟨Nat.zero_le _, Nat.zero_le _⟩) (fun H locs hP hS => ?_)
      refine lv_if_ne (tgt := 41) hx hb dX7_refusalOfDeeds_32 (by decide) (fun c9 => ?_) (fun c9 => ?_)
      · rw [if_neg c9] at hf
        refine lv_aload_n hx hb dX7_refusalOfDeeds_41 rfl (lv_at hl 0 rfl) ?_
        refine g_LP_rows X hP  tw_60 dX7_refusalOfDeeds_42 ?_
        refine lv_iload_n hx hb dX7_refusalOfDeeds_45 rfl (lv_at hl 1 rfl) ?_
        obtain ⟨q10, e11, hf⟩ := bind_some hf
        refine aftI hS (cV (rest := []) X hP hS [.int x1] (m_X6_sizeOf (by decide) e11) cw_X6_sizeOf tw_141 tw_422 tw_698 (sh_lt (by decide)) (cf_Shelf (by decide)) rfl (fits9 (by first | decide | omega) (by decide)) rfl rfl hl.1 (Nat.le_of_ble_eq_true rfl) dX7_refusalOfDeeds_46 ⟨Nat.zero_le _, Nat.zero_le _⟩) (fun H locs hP hS => ?_)
        refine lv_iload_n hx hb dX7_refusalOfDeeds_49 rfl (lv_at hl 3 rfl) ?_
        refine lv_icmp_le (tgt := 59) hx hb dX7_refusalOfDeeds_50 (by decide) (fun c12 => ?_) (fun c12 => ?_)
        · rw [if_pos c12] at hf
          refine lv_iconst (v := (0 : Int32)) hx hb dX7_refusalOfDeeds_59 (by decide) ?_
          refine lv_istore (lv' := [(4, .int (0 : Int32)), (0, .ref (ad 0)), (1, .int x1), (2, .int x2), (3, .int x3)]) hx hb dX7_refusalOfDeeds_60 hl (by decide) rfl (fun ls hl => ?_)
          refine vl_X7_refusalOfDeeds_62 X hr hlk _ ?_ 300 _ _ _ _ _ ls hf  hP hS (lv_sub hl [1, 2, 0] rfl)
          intro S H locs ls hf hP hS hl
          refine lv_iconst (v := (0 : Int32)) hx hb dX7_refusalOfDeeds_103 (by decide) ?_
          cases hf
          exact rtI X hr hlk hP hS dX7_refusalOfDeeds_104
        · rw [if_neg c12] at hf
          refine lv_aload_n hx hb dX7_refusalOfDeeds_53 rfl (lv_at hl 0 rfl) ?_
          refine lv_iconst (v := (5 : Int32)) hx hb dX7_refusalOfDeeds_54 (by decide) ?_
          obtain ⟨q23, e24, hf⟩ := bind_some hf
          refine aftI hS (cV (rest := []) X hP hS [.int (5 : Int32)] (m_X7_refuse  e24) cw_X7_refuse tw_126 tw_406 tw_754 (by decide) (cf_LP ) rfl (fits9 (by first | decide | omega) (by decide)) rfl rfl hl.1 (Nat.le_of_ble_eq_true rfl) dX7_refusalOfDeeds_55 ⟨Nat.zero_le _, Nat.zero_le _⟩) (fun H locs hP hS => ?_)
          cases hf
          exact rtI X hr hlk hP hS dX7_refusalOfDeeds_58
      · rw [if_pos c9] at hf
        refine lv_aload_n hx hb dX7_refusalOfDeeds_35 rfl (lv_at hl 0 rfl) ?_
        refine lv_iconst (v := (1 : Int32)) hx hb dX7_refusalOfDeeds_36 (by decide) ?_
        obtain ⟨q25, e26, hf⟩ := bind_some hf
        refine aftI hS (cV (rest := []) X hP hS [.int (1 : Int32)] (m_X7_refuse  e26) cw_X7_refuse tw_126 tw_406 tw_754 (by decide) (cf_LP ) rfl (fits9 (by first | decide | omega) (by decide)) rfl rfl hl.1 (Nat.le_of_ble_eq_true rfl) dX7_refusalOfDeeds_37 ⟨Nat.zero_le _, Nat.zero_le _⟩) (fun H locs hP hS => ?_)
        cases hf
        exact rtI X hr hlk hP hS dX7_refusalOfDeeds_40
    · rw [if_pos c6] at hf
      refine lv_iconst (v := (-1 : Int32)) hx hb dX7_refusalOfDeeds_22 (by decide) ?_
      cases hf
      exact rtI X hr hlk hP hS dX7_refusalOfDeeds_23
/-! X7_reverse -/
section
variable {p : Program} {l : Launch} {e : Env} {s : State} {m : MethodId} {args : Array Value} {below : List Frame} {meth : Method} {c : Code}
variable {D : va_G} {cI cP cB cA : ClassId} {ad : Nat → Nat} {tL tC : Nat}
end
set_option maxHeartbeats 4000000 in
set_option maxRecDepth 100000 in
theorem m_X7_reverse {l : Launch} {D : va_G} {cI cP cB cA : ClassId} {ad : Nat → Nat} {tL tC : Nat} {x1 : Int32} {x2 : Int32} {S : Stt} {res : Int32 × Stt} (hf : f_X7_reverse x1 x2 S = some res) : Ct l D cI cP cB cA 79 ad tL tC yX7_reverse cX7_reverse 5 (some .int) 2 [.ref (ad 0), .int x1, .int x2] (cfC ad cI cP cB cA S) (QI D 79 ad res.1 (cfC ad cI cP cB cA res.2)) := by
  refine ctOf (by decide) (Nat.le_of_ble_eq_true rfl) ?_
  intro p e s m args below meth c ls X hr hlk hP hl
  have hS : va_S (Ar 79 ad) s.heap s.heap [] := va_S.rf
  have hx := X.1.1
  have hb := X.1.2.1
  have hl : lv_has ls 5 [(0, .ref (ad 0)), (1, .int x1), (2, .int x2)] := hl
  unfold f_X7_reverse at hf
  refine lv_aload_n hx hb dX7_reverse_0 rfl (lv_at hl 0 rfl) ?_
  refine g_LP_book X hP  tw_62 dX7_reverse_1 ?_
  refine lv_iload_n hx hb dX7_reverse_4 rfl (lv_at hl 1 rfl) ?_
  obtain ⟨q1, e2, hf⟩ := bind_some hf
  refine aftI hS (cV (rest := []) X hP hS [.int x1] (m_X0_isOne (by decide) e2) cw_X0_isOne tw_169 tw_450 tw_644 (bk_lt (by decide)) (cf_Book (by decide)) rfl (fits9 (by first | decide | omega) (by decide)) rfl rfl hl.1 (Nat.le_of_ble_eq_true rfl) dX7_reverse_5 ⟨Nat.zero_le _, Nat.zero_le _⟩) (fun H locs hP hS => ?_)
  refine lv_if_eq (tgt := 18) hx hb dX7_reverse_8 (by decide) (fun c3 => ?_) (fun c3 => ?_)
  · rw [if_pos c3] at hf
    refine lv_iconst (v := (-1 : Int32)) hx hb dX7_reverse_18 (by decide) ?_
    cases hf
    exact rtI X hr hlk hP hS dX7_reverse_19
  · rw [if_neg c3] at hf
    refine lv_iload_n hx hb dX7_reverse_11 rfl (lv_at hl 2 rfl) ?_
    obtain ⟨q4, e5, hf⟩ := bind_some hf
    refine aftI hS (cS (rest := []) X hP hS [.int x2] (m_X7_isVerdict  e5) cw_X7_isVerdict tw_181 tw_457 (fits9 (by first | decide | omega) (by decide)) rfl rfl hl.1 (Nat.le_of_ble_eq_true rfl) dX7_reverse_12 ⟨Nat.zero_le _, Nat.zero_le _⟩) (fun H locs hP hS => ?_)
    refine lv_if_ne (tgt := 20) hx hb dX7_reverse_15 (by decide) (fun c6 => ?_) (fun c6 => ?_)
    · rw [if_neg c6] at hf
      refine lv_aload_n hx hb dX7_reverse_20 rfl (lv_at hl 0 rfl) ?_
      refine g_LP_book X hP  tw_62 dX7_reverse_21 ?_
      refine gN_Book_pages X hP (by decide) tw_22 dX7_reverse_24 ?_
      refine lv_iload_n hx hb dX7_reverse_27 rfl (lv_at hl 1 rfl) ?_
      obtain ⟨g7, hf⟩ := grd_some hf
      refine q_pages X hP (by decide) g7 dX7_reverse_28 ?_
      refine lv_astore_n (lv' := [(3, .ref (ad (49 + 6 * 0 + x1.toNatClampNeg))), (0, .ref (ad 0)), (1, .int x1), (2, .int x2)]) hx hb dX7_reverse_29 rfl hl (by decide) rfl (fun ls hl => ?_)
      refine lv_aload_n hx hb dX7_reverse_30 rfl (lv_at hl 0 rfl) ?_
      refine gN_Page_kind X hP (by decide) (ixb_lt g7) tw_4 dX7_reverse_31 ?_
      refine lv_iconst (v := (3 : Int32)) hx hb dX7_reverse_34 (by decide) ?_
      refine lv_icmp_ne (tgt := 44) hx hb dX7_reverse_35 (by decide) (fun c8 => ?_) (fun c8 => ?_)
      · rw [if_neg c8] at hf
        refine lv_aload_n hx hb dX7_reverse_44 rfl (lv_at hl 0 rfl) ?_
        refine gN_Page_verdict X hP (by decide) (ixb_lt g7) tw_9 dX7_reverse_45 ?_
        refine lv_istore (lv' := [(4, .int (q4.2.1 12 0 x1.toNatClampNeg)), (3, .ref (ad (49 + 6 * 0 + x1.toNatClampNeg))), (0, .ref (ad 0)), (1, .int x1), (2, .int x2)]) hx hb dX7_reverse_48 hl (by decide) rfl (fun ls hl => ?_)
        refine lv_aload_n hx hb dX7_reverse_50 rfl (lv_at hl 1 rfl) ?_
        refine lv_iload_n hx hb dX7_reverse_51 rfl (lv_at hl 4 rfl) ?_
        refine pN_Page_verdict X hP hS (by decide) (ixb_lt g7) tw_9 dX7_reverse_52 (fun H locs hP hS => ?_)
        refine lv_iload hx hb dX7_reverse_55 (lv_at hl 0 rfl) ?_
        cases hf
        exact rtI X hr hlk hP hS dX7_reverse_57
      · rw [if_pos c8] at hf
        refine lv_aload_n hx hb dX7_reverse_38 rfl (lv_at hl 1 rfl) ?_
        refine lv_iconst (v := (3 : Int32)) hx hb dX7_reverse_39 (by decide) ?_
        obtain ⟨q9, e10, hf⟩ := bind_some hf
        refine aftI hS (cV (rest := []) X hP hS [.int (3 : Int32)] (m_X7_refuse  e10) cw_X7_refuse tw_126 tw_406 tw_754 (by decide) (cf_LP ) rfl (fits9 (by first | decide | omega) (by decide)) rfl rfl hl.1 (Nat.le_of_ble_eq_true rfl) dX7_reverse_40 ⟨Nat.zero_le _, Nat.zero_le _⟩) (fun H locs hP hS => ?_)
        cases hf
        exact rtI X hr hlk hP hS dX7_reverse_43
    · rw [if_pos c6] at hf
      refine lv_iconst (v := (-1 : Int32)) hx hb dX7_reverse_18 (by decide) ?_
      cases hf
      exact rtI X hr hlk hP hS dX7_reverse_19
/-! X7_row -/
section
variable {p : Program} {l : Launch} {e : Env} {s : State} {m : MethodId} {args : Array Value} {below : List Frame} {meth : Method} {c : Code}
variable {D : va_G} {cI cP cB cA : ClassId} {ad : Nat → Nat} {tL tC : Nat}
end
set_option maxHeartbeats 4000000 in
set_option maxRecDepth 100000 in
theorem m_X7_row {l : Launch} {D : va_G} {cI cP cB cA : ClassId} {ad : Nat → Nat} {tL tC : Nat} {x1 : Int32} {x2 : Int32} {S : Stt} {res : Int32 × Stt} (hf : f_X7_row x1 x2 S = some res) : Ct l D cI cP cB cA 79 ad tL tC yX7_row cX7_row 3 (some .int) 2 [.ref (ad 0), .int x1, .int x2] (cfC ad cI cP cB cA S) (QI D 79 ad res.1 (cfC ad cI cP cB cA res.2)) := by
  refine ctOf (by decide) (Nat.le_of_ble_eq_true rfl) ?_
  intro p e s m args below meth c ls X hr hlk hP hl
  have hS : va_S (Ar 79 ad) s.heap s.heap [] := va_S.rf
  have hx := X.1.1
  have hb := X.1.2.1
  have hl : lv_has ls 3 [(0, .ref (ad 0)), (1, .int x1), (2, .int x2)] := hl
  unfold f_X7_row at hf
  refine lv_aload_n hx hb dX7_row_0 rfl (lv_at hl 0 rfl) ?_
  refine g_LP_rows X hP  tw_60 dX7_row_1 ?_
  refine lv_iload_n hx hb dX7_row_4 rfl (lv_at hl 1 rfl) ?_
  obtain ⟨q1, e2, hf⟩ := bind_some hf
  refine aftI hS (cV (rest := []) X hP hS [.int x1] (m_X6_isOne (by decide) e2) cw_X6_isOne tw_125 tw_405 tw_694 (sh_lt (by decide)) (cf_Shelf (by decide)) rfl (fits9 (by first | decide | omega) (by decide)) rfl rfl hl.1 (Nat.le_of_ble_eq_true rfl) dX7_row_5 ⟨Nat.zero_le _, Nat.zero_le _⟩) (fun H locs hP hS => ?_)
  refine lv_if_eq (tgt := 17) hx hb dX7_row_8 (by decide) (fun c3 => ?_) (fun c3 => ?_)
  · rw [if_pos c3] at hf
    refine lv_iconst (v := (-1 : Int32)) hx hb dX7_row_17 (by decide) ?_
    cases hf
    exact rtI X hr hlk hP hS dX7_row_18
  · rw [if_neg c3] at hf
    refine lv_iload_n hx hb dX7_row_11 rfl (lv_at hl 2 rfl) ?_
    refine lv_bipush (v := (40 : Int32)) hx hb dX7_row_12 (by decide) ?_
    refine lv_icmp_le (tgt := 19) hx hb dX7_row_14 (by decide) (fun c4 => ?_) (fun c4 => ?_)
    · rw [if_pos c4] at hf
      refine lv_iload_n hx hb dX7_row_19 rfl (lv_at hl 2 rfl) ?_
      refine lv_if_ge (tgt := 29) hx hb dX7_row_20 (by decide) (fun c5 => ?_) (fun c5 => ?_)
      · rw [if_pos c5] at hf
        refine lv_aload_n hx hb dX7_row_29 rfl (lv_at hl 0 rfl) ?_
        refine g_LP_rows X hP  tw_60 dX7_row_30 ?_
        refine lv_iload_n hx hb dX7_row_33 rfl (lv_at hl 1 rfl) ?_
        refine lv_iload_n hx hb dX7_row_34 rfl (lv_at hl 2 rfl) ?_
        refine lv_iconst (v := (0 : Int32)) hx hb dX7_row_35 (by decide) ?_
        obtain ⟨q6, e7, hf⟩ := bind_some hf
        refine aftV hS (cV (rest := []) X hP hS [.int x1, .int x2, .int (0 : Int32)] (m_X6_make (by decide) e7) cw_X6_make tw_127 tw_407 tw_701 (sh_lt (by decide)) (cf_Shelf (by decide)) rfl (fits9 (by first | decide | omega) (by decide)) rfl rfl hl.1 (Nat.le_of_ble_eq_true rfl) dX7_row_36 ⟨Nat.zero_le _, Nat.zero_le _⟩) (fun H locs hP hS => ?_)
        refine lv_iload_n hx hb dX7_row_39 rfl (lv_at hl 2 rfl) ?_
        cases hf
        exact rtI X hr hlk hP hS dX7_row_40
      · rw [if_neg c5] at hf
        refine lv_aload_n hx hb dX7_row_23 rfl (lv_at hl 0 rfl) ?_
        refine lv_iconst (v := (5 : Int32)) hx hb dX7_row_24 (by decide) ?_
        obtain ⟨q8, e9, hf⟩ := bind_some hf
        refine aftI hS (cV (rest := []) X hP hS [.int (5 : Int32)] (m_X7_refuse  e9) cw_X7_refuse tw_126 tw_406 tw_754 (by decide) (cf_LP ) rfl (fits9 (by first | decide | omega) (by decide)) rfl rfl hl.1 (Nat.le_of_ble_eq_true rfl) dX7_row_25 ⟨Nat.zero_le _, Nat.zero_le _⟩) (fun H locs hP hS => ?_)
        cases hf
        exact rtI X hr hlk hP hS dX7_row_28
    · rw [if_neg c4] at hf
      refine lv_iconst (v := (-1 : Int32)) hx hb dX7_row_17 (by decide) ?_
      cases hf
      exact rtI X hr hlk hP hS dX7_row_18
/-! X7_swap -/
section
variable {p : Program} {l : Launch} {e : Env} {s : State} {m : MethodId} {args : Array Value} {below : List Frame} {meth : Method} {c : Code}
variable {D : va_G} {cI cP cB cA : ClassId} {ad : Nat → Nat} {tL tC : Nat}
end
set_option maxHeartbeats 4000000 in
set_option maxRecDepth 100000 in
theorem m_X7_swap {l : Launch} {D : va_G} {cI cP cB cA : ClassId} {ad : Nat → Nat} {tL tC : Nat} {x1 : Int32} {x2 : Int32} {S : Stt} {res : Int32 × Stt} (hf : f_X7_swap x1 x2 S = some res) : Ct l D cI cP cB cA 79 ad tL tC yX7_swap cX7_swap 4 (some .int) 2 [.ref (ad 0), .int x1, .int x2] (cfC ad cI cP cB cA S) (QI D 79 ad res.1 (cfC ad cI cP cB cA res.2)) := by
  refine ctOf (by decide) (Nat.le_of_ble_eq_true rfl) ?_
  intro p e s m args below meth c ls X hr hlk hP hl
  have hS : va_S (Ar 79 ad) s.heap s.heap [] := va_S.rf
  have hx := X.1.1
  have hb := X.1.2.1
  have hl : lv_has ls 4 [(0, .ref (ad 0)), (1, .int x1), (2, .int x2)] := hl
  unfold f_X7_swap at hf
  refine lv_aload_n hx hb dX7_swap_0 rfl (lv_at hl 0 rfl) ?_
  refine g_LP_book X hP  tw_62 dX7_swap_1 ?_
  refine lv_iload_n hx hb dX7_swap_4 rfl (lv_at hl 1 rfl) ?_
  obtain ⟨q1, e2, hf⟩ := bind_some hf
  refine aftI hS (cV (rest := []) X hP hS [.int x1] (m_X0_isOne (by decide) e2) cw_X0_isOne tw_169 tw_450 tw_644 (bk_lt (by decide)) (cf_Book (by decide)) rfl (fits9 (by first | decide | omega) (by decide)) rfl rfl hl.1 (Nat.le_of_ble_eq_true rfl) dX7_swap_5 ⟨Nat.zero_le _, Nat.zero_le _⟩) (fun H locs hP hS => ?_)
  refine lv_if_eq (tgt := 22) hx hb dX7_swap_8 (by decide) (fun c3 => ?_) (fun c3 => ?_)
  · rw [if_pos c3] at hf
    refine lv_iconst (v := (-1 : Int32)) hx hb dX7_swap_22 (by decide) ?_
    cases hf
    exact rtI X hr hlk hP hS dX7_swap_23
  · rw [if_neg c3] at hf
    refine lv_aload_n hx hb dX7_swap_11 rfl (lv_at hl 0 rfl) ?_
    refine g_LP_book X hP  tw_62 dX7_swap_12 ?_
    refine lv_iload_n hx hb dX7_swap_15 rfl (lv_at hl 2 rfl) ?_
    obtain ⟨q4, e5, hf⟩ := bind_some hf
    refine aftI hS (cV (rest := []) X hP hS [.int x2] (m_X0_isOne (by decide) e5) cw_X0_isOne tw_169 tw_450 tw_644 (bk_lt (by decide)) (cf_Book (by decide)) rfl (fits9 (by first | decide | omega) (by decide)) rfl rfl hl.1 (Nat.le_of_ble_eq_true rfl) dX7_swap_16 ⟨Nat.zero_le _, Nat.zero_le _⟩) (fun H locs hP hS => ?_)
    refine lv_if_ne (tgt := 24) hx hb dX7_swap_19 (by decide) (fun c6 => ?_) (fun c6 => ?_)
    · rw [if_neg c6] at hf
      refine lv_aload_n hx hb dX7_swap_24 rfl (lv_at hl 0 rfl) ?_
      refine g_LP_book X hP  tw_62 dX7_swap_25 ?_
      refine gN_Book_pages X hP (by decide) tw_22 dX7_swap_28 ?_
      refine lv_iload_n hx hb dX7_swap_31 rfl (lv_at hl 1 rfl) ?_
      obtain ⟨g7, hf⟩ := grd_some hf
      refine q_pages X hP (by decide) g7 dX7_swap_32 ?_
      refine gN_Page_day X hP (by decide) (ixb_lt g7) tw_18 dX7_swap_33 ?_
      refine lv_istore_n (lv' := [(3, .int (q4.2.1 15 0 x1.toNatClampNeg)), (0, .ref (ad 0)), (1, .int x1), (2, .int x2)]) hx hb dX7_swap_36 rfl hl (by decide) rfl (fun ls hl => ?_)
      refine lv_aload_n hx hb dX7_swap_37 rfl (lv_at hl 1 rfl) ?_
      refine g_LP_book X hP  tw_62 dX7_swap_38 ?_
      refine gN_Book_pages X hP (by decide) tw_22 dX7_swap_41 ?_
      refine lv_iload_n hx hb dX7_swap_44 rfl (lv_at hl 2 rfl) ?_
      obtain ⟨g8, hf⟩ := grd_some hf
      refine q_pages X hP (by decide) g8 dX7_swap_45 ?_
      refine lv_aload_n hx hb dX7_swap_46 rfl (lv_at hl 1 rfl) ?_
      refine g_LP_book X hP  tw_62 dX7_swap_47 ?_
      refine gN_Book_pages X hP (by decide) tw_22 dX7_swap_50 ?_
      refine lv_iload_n hx hb dX7_swap_53 rfl (lv_at hl 3 rfl) ?_
      obtain ⟨g9, hf⟩ := grd_some hf
      refine q_pages X hP (by decide) g9 dX7_swap_54 ?_
      refine gN_Page_day X hP (by decide) (ixb_lt g9) tw_18 dX7_swap_55 ?_
      refine pN_Page_day X hP hS (by decide) (ixb_lt g8) tw_18 dX7_swap_58 (fun H locs hP hS => ?_)
      refine lv_aload_n hx hb dX7_swap_61 rfl (lv_at hl 1 rfl) ?_
      refine g_LP_book X hP  tw_62 dX7_swap_62 ?_
      refine gN_Book_pages X hP (by decide) tw_22 dX7_swap_65 ?_
      refine lv_iload_n hx hb dX7_swap_68 rfl (lv_at hl 3 rfl) ?_
      obtain ⟨g10, hf⟩ := grd_some hf
      refine q_pages X hP (by decide) g10 dX7_swap_69 ?_
      refine lv_iload_n hx hb dX7_swap_70 rfl (lv_at hl 0 rfl) ?_
      refine pN_Page_day X hP hS (by decide) (ixb_lt g10) tw_18 dX7_swap_71 (fun H locs hP hS => ?_)
      refine lv_aload_n hx hb dX7_swap_74 rfl (lv_at hl 1 rfl) ?_
      refine g_LP_book X hP  tw_62 dX7_swap_75 ?_
      refine gN_Book_pages X hP (by decide) tw_22 dX7_swap_78 ?_
      refine lv_iload_n hx hb dX7_swap_81 rfl (lv_at hl 2 rfl) ?_
      obtain ⟨g11, hf⟩ := grd_some hf
      refine q_pages X hP (by decide) g11 dX7_swap_82 ?_
      refine gN_Page_day X hP (by decide) (ixb_lt g11) tw_18 dX7_swap_83 ?_
      cases hf
      exact rtI X hr hlk hP hS dX7_swap_86
    · rw [if_pos c6] at hf
      refine lv_iconst (v := (-1 : Int32)) hx hb dX7_swap_22 (by decide) ?_
      cases hf
      exact rtI X hr hlk hP hS dX7_swap_23
/-! X7_tear -/
section
variable {p : Program} {l : Launch} {e : Env} {s : State} {m : MethodId} {args : Array Value} {below : List Frame} {meth : Method} {c : Code}
variable {D : va_G} {cI cP cB cA : ClassId} {ad : Nat → Nat} {tL tC : Nat}
end
set_option maxHeartbeats 4000000 in
set_option maxRecDepth 100000 in
theorem m_X7_tear {l : Launch} {D : va_G} {cI cP cB cA : ClassId} {ad : Nat → Nat} {tL tC : Nat} {x1 : Int32} {S : Stt} {res : Int32 × Stt} (hf : f_X7_tear x1 S = some res) : Ct l D cI cP cB cA 79 ad tL tC yX7_tear cX7_tear 2 (some .int) 2 [.ref (ad 0), .int x1] (cfC ad cI cP cB cA S) (QI D 79 ad res.1 (cfC ad cI cP cB cA res.2)) := by
  refine ctOf (by decide) (Nat.le_of_ble_eq_true rfl) ?_
  intro p e s m args below meth c ls X hr hlk hP hl
  have hS : va_S (Ar 79 ad) s.heap s.heap [] := va_S.rf
  have hx := X.1.1
  have hb := X.1.2.1
  have hl : lv_has ls 2 [(0, .ref (ad 0)), (1, .int x1)] := hl
  unfold f_X7_tear at hf
  refine lv_aload_n hx hb dX7_tear_0 rfl (lv_at hl 0 rfl) ?_
  refine g_LP_rows X hP  tw_60 dX7_tear_1 ?_
  refine lv_iload_n hx hb dX7_tear_4 rfl (lv_at hl 1 rfl) ?_
  obtain ⟨q1, e2, hf⟩ := bind_some hf
  refine aftI hS (cV (rest := []) X hP hS [.int x1] (m_X6_isOne (by decide) e2) cw_X6_isOne tw_125 tw_405 tw_694 (sh_lt (by decide)) (cf_Shelf (by decide)) rfl (fits9 (by first | decide | omega) (by decide)) rfl rfl hl.1 (Nat.le_of_ble_eq_true rfl) dX7_tear_5 ⟨Nat.zero_le _, Nat.zero_le _⟩) (fun H locs hP hS => ?_)
  refine lv_if_ne (tgt := 13) hx hb dX7_tear_8 (by decide) (fun c3 => ?_) (fun c3 => ?_)
  · rw [if_neg c3] at hf
    refine lv_aload_n hx hb dX7_tear_13 rfl (lv_at hl 0 rfl) ?_
    refine g_LP_rows X hP  tw_60 dX7_tear_14 ?_
    refine lv_iload_n hx hb dX7_tear_17 rfl (lv_at hl 1 rfl) ?_
    obtain ⟨q4, e5, hf⟩ := bind_some hf
    refine aftI hS (cV (rest := []) X hP hS [.int x1] (m_X6_isThere (by decide) e5) cw_X6_isThere tw_129 tw_409 tw_695 (sh_lt (by decide)) (cf_Shelf (by decide)) rfl (fits9 (by first | decide | omega) (by decide)) rfl rfl hl.1 (Nat.le_of_ble_eq_true rfl) dX7_tear_18 ⟨Nat.zero_le _, Nat.zero_le _⟩) (fun H locs hP hS => ?_)
    refine lv_if_ne (tgt := 30) hx hb dX7_tear_21 (by decide) (fun c6 => ?_) (fun c6 => ?_)
    · rw [if_neg c6] at hf
      refine lv_aload_n hx hb dX7_tear_30 rfl (lv_at hl 0 rfl) ?_
      refine g_LP_rows X hP  tw_60 dX7_tear_31 ?_
      refine lv_iload_n hx hb dX7_tear_34 rfl (lv_at hl 1 rfl) ?_
      obtain ⟨q7, e8, hf⟩ := bind_some hf
      refine aftV hS (cV (rest := []) X hP hS [.int x1] (m_X6_drop (by decide) e8) cw_X6_drop tw_135 tw_415 tw_702 (sh_lt (by decide)) (cf_Shelf (by decide)) rfl (fits9 (by first | decide | omega) (by decide)) rfl rfl hl.1 (Nat.le_of_ble_eq_true rfl) dX7_tear_35 ⟨Nat.zero_le _, Nat.zero_le _⟩) (fun H locs hP hS => ?_)
      refine lv_iconst (v := (1 : Int32)) hx hb dX7_tear_38 (by decide) ?_
      cases hf
      exact rtI X hr hlk hP hS dX7_tear_39
    · rw [if_pos c6] at hf
      refine lv_aload_n hx hb dX7_tear_24 rfl (lv_at hl 0 rfl) ?_
      refine lv_iconst (v := (1 : Int32)) hx hb dX7_tear_25 (by decide) ?_
      obtain ⟨q9, e10, hf⟩ := bind_some hf
      refine aftI hS (cV (rest := []) X hP hS [.int (1 : Int32)] (m_X7_refuse  e10) cw_X7_refuse tw_126 tw_406 tw_754 (by decide) (cf_LP ) rfl (fits9 (by first | decide | omega) (by decide)) rfl rfl hl.1 (Nat.le_of_ble_eq_true rfl) dX7_tear_26 ⟨Nat.zero_le _, Nat.zero_le _⟩) (fun H locs hP hS => ?_)
      cases hf
      exact rtI X hr hlk hP hS dX7_tear_29
  · rw [if_pos c3] at hf
    refine lv_iconst (v := (-1 : Int32)) hx hb dX7_tear_11 (by decide) ?_
    cases hf
    exact rtI X hr hlk hP hS dX7_tear_12
/-! X7_tellsJudgements -/
section
variable {p : Program} {l : Launch} {e : Env} {s : State} {m : MethodId} {args : Array Value} {below : List Frame} {meth : Method} {c : Code}
variable {D : va_G} {cI cP cB cA : ClassId} {ad : Nat → Nat} {tL tC : Nat}
set_option maxHeartbeats 4000000 in
set_option maxRecDepth 100000 in
theorem vb_X7_tellsJudgements_2 (X : Cx D cI cP cB cA 79 ad tL tC p s m c cX7_tellsJudgements 3 args RX7) (hr : meth.sig.returnType = (some .boolean)) (hlk : meth.locks = false) {res : Int32 × Stt} (kb : Int32 → Int32 → Stt → Option (Int32 × Stt)) (ke : Stt → Option (Int32 × Stt)) (hkb : ∀ (x1 : Int32) (x2 : Int32) (S : Stt) (H : Heap) (locs : List Loc) (ls : Array Slot), kb x1 x2 S = some res → va_P D vwCl (wl 79 ad (cfC ad cI cP cB cA S)) H → va_S (Ar 79 ad) s.heap H locs → lv_has ls 3 [(0, .ref (ad 0)), (1, .int x1), (2, .int x2)] → W p l e (rmD 2) s m args below meth c H locs 0 0 (MQ below (QI D 79 ad res.1 (cfC ad cI cP cB cA res.2)) args s 0 0 (Ar 79 ad)) (F0 m 2 ls [])) (hke : ∀ (S : Stt) (H : Heap) (locs : List Loc) (ls : Array Slot), ke S = some res → va_P D vwCl (wl 79 ad (cfC ad cI cP cB cA S)) H → va_S (Ar 79 ad) s.heap H locs → lv_has ls 3 [] → W p l e (rmD 2) s m args below meth c H locs 0 0 (MQ below (QI D 79 ad res.1 (cfC ad cI cP cB cA res.2)) args s 0 0 (Ar 79 ad)) (F0 m 77 ls [])) : ∀ (x1 : Int32) (x2 : Int32) (S : Stt) (H : Heap) (locs : List Loc) (ls : Array Slot), fb_X7_tellsJudgements_2 kb ke x1 x2 S = some res → va_P D vwCl (wl 79 ad (cfC ad cI cP cB cA S)) H → va_S (Ar 79 ad) s.heap H locs → lv_has ls 3 [(0, .ref (ad 0)), (1, .int x1), (2, .int x2)] → W p l e (rmD 2) s m args below meth c H locs 0 0 (MQ below (QI D 79 ad res.1 (cfC ad cI cP cB cA res.2)) args s 0 0 (Ar 79 ad)) (F0 m 2 ls []) := by
  intro x1 x2 S H locs ls hf hP hS hl
  have hx := X.1.1
  have hb := X.1.2.1
  unfold fb_X7_tellsJudgements_2 at hf
  refine lv_iload_n hx hb dX7_tellsJudgements_2 rfl (lv_at hl 2 rfl) ?_
  refine lv_iconst (v := (2 : Int32)) hx hb dX7_tellsJudgements_3 (by decide) ?_
  refine lv_iadd hx hb dX7_tellsJudgements_4 ?_
  refine lv_aload_n hx hb dX7_tellsJudgements_5 rfl (lv_at hl 0 rfl) ?_
  refine g_LP_rows X hP  tw_60 dX7_tellsJudgements_6 ?_
  refine lv_iload_n hx hb dX7_tellsJudgements_9 rfl (lv_at hl 1 rfl) ?_
  obtain ⟨q1, e2, hf⟩ := bind_some hf
  refine aftI hS (cV (rest := [.int (x2 + (2 : Int32))]) X hP hS [.int x1] (m_X6_sizeOf (by decide) e2) cw_X6_sizeOf tw_141 tw_422 tw_698 (sh_lt (by decide)) (cf_Shelf (by decide)) rfl (fits9 (by first | decide | omega) (by decide)) rfl rfl hl.1 (Nat.le_of_ble_eq_true rfl) dX7_tellsJudgements_10 ⟨Nat.zero_le _, Nat.zero_le _⟩) (fun H locs hP hS => ?_)
  refine lv_icmp_ge (tgt := 77) hx hb dX7_tellsJudgements_13 (by decide) (fun c3 => ?_) (fun c3 => ?_)
  · rw [if_pos c3] at hf
    exact hke  _ _ _ ls hf  hP hS (lv_sub hl [] rfl)
  · rw [if_neg c3] at hf
    refine lv_aload_n hx hb dX7_tellsJudgements_16 rfl (lv_at hl 0 rfl) ?_
    refine g_LP_rows X hP  tw_60 dX7_tellsJudgements_17 ?_
    refine lv_iload_n hx hb dX7_tellsJudgements_20 rfl (lv_at hl 1 rfl) ?_
    refine lv_iload_n hx hb dX7_tellsJudgements_21 rfl (lv_at hl 2 rfl) ?_
    obtain ⟨q4, e5, hf⟩ := bind_some hf
    refine aftI hS (cV (rest := []) X hP hS [.int x1, .int x2] (m_X6_placeOf (by decide) e5) cw_X6_placeOf tw_131 tw_411 tw_699 (sh_lt (by decide)) (cf_Shelf (by decide)) rfl (fits9 (by first | decide | omega) (by decide)) rfl rfl hl.1 (Nat.le_of_ble_eq_true rfl) dX7_tellsJudgements_22 ⟨Nat.zero_le _, Nat.zero_le _⟩) (fun H locs hP hS => ?_)
    obtain ⟨q6, e7, hf⟩ := bind_some hf
    refine aftI hS (cS (rest := []) X hP hS [.int q4.1] (m_X7_isCase  e7) cw_X7_isCase tw_204 tw_476 (fits9 (by first | decide | omega) (by decide)) rfl rfl hl.1 (Nat.le_of_ble_eq_true rfl) dX7_tellsJudgements_25 ⟨Nat.zero_le _, Nat.zero_le _⟩) (fun H locs hP hS => ?_)
    refine lv_if_ne (tgt := 33) hx hb dX7_tellsJudgements_28 (by decide) (fun c8 => ?_) (fun c8 => ?_)
    · rw [if_neg c8] at hf
      refine lv_aload_n hx hb dX7_tellsJudgements_33 rfl (lv_at hl 0 rfl) ?_
      refine g_LP_rows X hP  tw_60 dX7_tellsJudgements_34 ?_
      refine lv_iload_n hx hb dX7_tellsJudgements_37 rfl (lv_at hl 1 rfl) ?_
      refine lv_iload_n hx hb dX7_tellsJudgements_38 rfl (lv_at hl 2 rfl) ?_
      refine lv_iconst (v := (1 : Int32)) hx hb dX7_tellsJudgements_39 (by decide) ?_
      refine lv_iadd hx hb dX7_tellsJudgements_40 ?_
      obtain ⟨q9, e10, hf⟩ := bind_some hf
      refine aftI hS (cV (rest := []) X hP hS [.int x1, .int (x2 + (1 : Int32))] (m_X6_placeOf (by decide) e10) cw_X6_placeOf tw_131 tw_411 tw_699 (sh_lt (by decide)) (cf_Shelf (by decide)) rfl (fits9 (by first | decide | omega) (by decide)) rfl rfl hl.1 (Nat.le_of_ble_eq_true rfl) dX7_tellsJudgements_41 ⟨Nat.zero_le _, Nat.zero_le _⟩) (fun H locs hP hS => ?_)
      obtain ⟨q11, e12, hf⟩ := bind_some hf
      refine aftI hS (cS (rest := []) X hP hS [.int q9.1] (m_X7_isDay  e12) cw_X7_isDay tw_194 tw_468 (fits9 (by first | decide | omega) (by decide)) rfl rfl hl.1 (Nat.le_of_ble_eq_true rfl) dX7_tellsJudgements_44 ⟨Nat.zero_le _, Nat.zero_le _⟩) (fun H locs hP hS => ?_)
      refine lv_if_ne (tgt := 52) hx hb dX7_tellsJudgements_47 (by decide) (fun c13 => ?_) (fun c13 => ?_)
      · rw [if_neg c13] at hf
        refine lv_aload_n hx hb dX7_tellsJudgements_52 rfl (lv_at hl 0 rfl) ?_
        refine g_LP_rows X hP  tw_60 dX7_tellsJudgements_53 ?_
        refine lv_iload_n hx hb dX7_tellsJudgements_56 rfl (lv_at hl 1 rfl) ?_
        refine lv_iload_n hx hb dX7_tellsJudgements_57 rfl (lv_at hl 2 rfl) ?_
        refine lv_iconst (v := (2 : Int32)) hx hb dX7_tellsJudgements_58 (by decide) ?_
        refine lv_iadd hx hb dX7_tellsJudgements_59 ?_
        obtain ⟨q14, e15, hf⟩ := bind_some hf
        refine aftI hS (cV (rest := []) X hP hS [.int x1, .int (x2 + (2 : Int32))] (m_X6_placeOf (by decide) e15) cw_X6_placeOf tw_131 tw_411 tw_699 (sh_lt (by decide)) (cf_Shelf (by decide)) rfl (fits9 (by first | decide | omega) (by decide)) rfl rfl hl.1 (Nat.le_of_ble_eq_true rfl) dX7_tellsJudgements_60 ⟨Nat.zero_le _, Nat.zero_le _⟩) (fun H locs hP hS => ?_)
        obtain ⟨q16, e17, hf⟩ := bind_some hf
        refine aftI hS (cS (rest := []) X hP hS [.int q14.1] (m_X7_isVerdict  e17) cw_X7_isVerdict tw_181 tw_457 (fits9 (by first | decide | omega) (by decide)) rfl rfl hl.1 (Nat.le_of_ble_eq_true rfl) dX7_tellsJudgements_63 ⟨Nat.zero_le _, Nat.zero_le _⟩) (fun H locs hP hS => ?_)
        refine lv_if_ne (tgt := 71) hx hb dX7_tellsJudgements_66 (by decide) (fun c18 => ?_) (fun c18 => ?_)
        · rw [if_neg c18] at hf
          refine lv_iinc (v := (x2 + (3 : Int32))) (lv' := [(2, .int (x2 + (3 : Int32))), (0, .ref (ad 0)), (1, .int x1)]) hx hb dX7_tellsJudgements_71 hl (k := 2) rfl rfl (by decide) rfl (fun ls hl => ?_)
          refine lv_goto (tgt := 2) hx hb dX7_tellsJudgements_74 (by decide) ?_
          exact hkb _ _ _ _ _ ls hf  hP hS (lv_sub hl [1, 2, 0] rfl)
        · rw [if_pos c18] at hf
          refine lv_iconst (v := (0 : Int32)) hx hb dX7_tellsJudgements_69 (by decide) ?_
          cases hf
          exact rtZ X hr hlk hP hS (Or.inl rfl) dX7_tellsJudgements_70
      · rw [if_pos c13] at hf
        refine lv_iconst (v := (0 : Int32)) hx hb dX7_tellsJudgements_50 (by decide) ?_
        cases hf
        exact rtZ X hr hlk hP hS (Or.inl rfl) dX7_tellsJudgements_51
    · rw [if_pos c8] at hf
      refine lv_iconst (v := (0 : Int32)) hx hb dX7_tellsJudgements_31 (by decide) ?_
      cases hf
      exact rtZ X hr hlk hP hS (Or.inl rfl) dX7_tellsJudgements_32
set_option maxHeartbeats 4000000 in
set_option maxRecDepth 100000 in
theorem vl_X7_tellsJudgements_2 (X : Cx D cI cP cB cA 79 ad tL tC p s m c cX7_tellsJudgements 3 args RX7) (hr : meth.sig.returnType = (some .boolean)) (hlk : meth.locks = false) {res : Int32 × Stt} (ke : Stt → Option (Int32 × Stt)) (hke : ∀ (S : Stt) (H : Heap) (locs : List Loc) (ls : Array Slot), ke S = some res → va_P D vwCl (wl 79 ad (cfC ad cI cP cB cA S)) H → va_S (Ar 79 ad) s.heap H locs → lv_has ls 3 [] → W p l e (rmD 2) s m args below meth c H locs 0 0 (MQ below (QI D 79 ad res.1 (cfC ad cI cP cB cA res.2)) args s 0 0 (Ar 79 ad)) (F0 m 77 ls [])) : ∀ (n : Nat), ∀ (x1 : Int32) (x2 : Int32) (S : Stt) (H : Heap) (locs : List Loc) (ls : Array Slot), fl_X7_tellsJudgements_2 ke n x1 x2 S = some res → va_P D vwCl (wl 79 ad (cfC ad cI cP cB cA S)) H → va_S (Ar 79 ad) s.heap H locs → lv_has ls 3 [(0, .ref (ad 0)), (1, .int x1), (2, .int x2)] → W p l e (rmD 2) s m args below meth c H locs 0 0 (MQ below (QI D 79 ad res.1 (cfC ad cI cP cB cA res.2)) args s 0 0 (Ar 79 ad)) (F0 m 2 ls []) := by
  intro n
  induction n with
  | zero =>
    intro x1 x2 S H locs ls hf hP hS hl
    cases hf
  | succ n ih =>
    intro x1 x2 S H locs ls hf hP hS hl
    exact vb_X7_tellsJudgements_2 X hr hlk _ ke ih hke x1 x2 S H locs ls hf  hP hS hl
end
set_option maxHeartbeats 4000000 in
set_option maxRecDepth 100000 in
theorem m_X7_tellsJudgements {l : Launch} {D : va_G} {cI cP cB cA : ClassId} {ad : Nat → Nat} {tL tC : Nat} {x1 : Int32} {S : Stt} {res : Int32 × Stt} (hf : f_X7_tellsJudgements x1 S = some res) : Ct l D cI cP cB cA 79 ad tL tC yX7_tellsJudgements cX7_tellsJudgements 3 (some .boolean) 2 [.ref (ad 0), .int x1] (cfC ad cI cP cB cA S) (QI D 79 ad res.1 (cfC ad cI cP cB cA res.2)) := by
  refine ctOf (by decide) (Nat.le_of_ble_eq_true rfl) ?_
  intro p e s m args below meth c ls X hr hlk hP hl
  have hS : va_S (Ar 79 ad) s.heap s.heap [] := va_S.rf
  have hx := X.1.1
  have hb := X.1.2.1
  have hl : lv_has ls 3 [(0, .ref (ad 0)), (1, .int x1)] := hl
  unfold f_X7_tellsJudgements at hf
  refine lv_iconst (v := (0 : Int32)) hx hb dX7_tellsJudgements_0 (by decide) ?_
  refine lv_istore_n (lv' := [(2, .int (0 : Int32)), (0, .ref (ad 0)), (1, .int x1)]) hx hb dX7_tellsJudgements_1 rfl hl (by decide) rfl (fun ls hl => ?_)
  refine vl_X7_tellsJudgements_2 X hr hlk _ ?_ 300 _ _ _ _ _ ls hf  hP hS (lv_sub hl [1, 2, 0] rfl)
  intro S H locs ls hf hP hS hl
  refine lv_iconst (v := (1 : Int32)) hx hb dX7_tellsJudgements_77 (by decide) ?_
  cases hf
  exact rtZ X hr hlk hP hS (Or.inr rfl) dX7_tellsJudgements_78
/-! X7_text -/
section
variable {p : Program} {l : Launch} {e : Env} {s : State} {m : MethodId} {args : Array Value} {below : List Frame} {meth : Method} {c : Code}
variable {D : va_G} {cI cP cB cA : ClassId} {ad : Nat → Nat} {tL tC : Nat}
end
set_option maxHeartbeats 4000000 in
set_option maxRecDepth 100000 in
theorem m_X7_text {l : Launch} {D : va_G} {cI cP cB cA : ClassId} {ad : Nat → Nat} {tL tC : Nat} {x1 : Int32} {x2 : Int32} {S : Stt} {res : Int32 × Stt} (hf : f_X7_text x1 x2 S = some res) : Ct l D cI cP cB cA 79 ad tL tC yX7_text cX7_text 3 (some .int) 2 [.ref (ad 0), .int x1, .int x2] (cfC ad cI cP cB cA S) (QI D 79 ad res.1 (cfC ad cI cP cB cA res.2)) := by
  refine ctOf (by decide) (Nat.le_of_ble_eq_true rfl) ?_
  intro p e s m args below meth c ls X hr hlk hP hl
  have hS : va_S (Ar 79 ad) s.heap s.heap [] := va_S.rf
  have hx := X.1.1
  have hb := X.1.2.1
  have hl : lv_has ls 3 [(0, .ref (ad 0)), (1, .int x1), (2, .int x2)] := hl
  unfold f_X7_text at hf
  refine lv_aload_n hx hb dX7_text_0 rfl (lv_at hl 0 rfl) ?_
  refine g_LP_texts X hP  tw_61 dX7_text_1 ?_
  refine lv_iload_n hx hb dX7_text_4 rfl (lv_at hl 1 rfl) ?_
  obtain ⟨q1, e2, hf⟩ := bind_some hf
  refine aftI hS (cV (rest := []) X hP hS [.int x1] (m_X6_isOne (by decide) e2) cw_X6_isOne tw_125 tw_405 tw_694 (sh_lt (by decide)) (cf_Shelf (by decide)) rfl (fits9 (by first | decide | omega) (by decide)) rfl rfl hl.1 (Nat.le_of_ble_eq_true rfl) dX7_text_5 ⟨Nat.zero_le _, Nat.zero_le _⟩) (fun H locs hP hS => ?_)
  refine lv_if_eq (tgt := 17) hx hb dX7_text_8 (by decide) (fun c3 => ?_) (fun c3 => ?_)
  · rw [if_pos c3] at hf
    refine lv_iconst (v := (-1 : Int32)) hx hb dX7_text_17 (by decide) ?_
    cases hf
    exact rtI X hr hlk hP hS dX7_text_18
  · rw [if_neg c3] at hf
    refine lv_iload_n hx hb dX7_text_11 rfl (lv_at hl 2 rfl) ?_
    refine lv_bipush (v := (80 : Int32)) hx hb dX7_text_12 (by decide) ?_
    refine lv_icmp_le (tgt := 19) hx hb dX7_text_14 (by decide) (fun c4 => ?_) (fun c4 => ?_)
    · rw [if_pos c4] at hf
      refine lv_iload_n hx hb dX7_text_19 rfl (lv_at hl 2 rfl) ?_
      refine lv_if_ge (tgt := 29) hx hb dX7_text_20 (by decide) (fun c5 => ?_) (fun c5 => ?_)
      · rw [if_pos c5] at hf
        refine lv_aload_n hx hb dX7_text_29 rfl (lv_at hl 0 rfl) ?_
        refine g_LP_texts X hP  tw_61 dX7_text_30 ?_
        refine lv_iload_n hx hb dX7_text_33 rfl (lv_at hl 1 rfl) ?_
        refine lv_iload_n hx hb dX7_text_34 rfl (lv_at hl 2 rfl) ?_
        refine lv_bipush (v := (32 : Int32)) hx hb dX7_text_35 (by decide) ?_
        obtain ⟨q6, e7, hf⟩ := bind_some hf
        refine aftV hS (cV (rest := []) X hP hS [.int x1, .int x2, .int (32 : Int32)] (m_X6_make (by decide) e7) cw_X6_make tw_127 tw_407 tw_701 (sh_lt (by decide)) (cf_Shelf (by decide)) rfl (fits9 (by first | decide | omega) (by decide)) rfl rfl hl.1 (Nat.le_of_ble_eq_true rfl) dX7_text_37 ⟨Nat.zero_le _, Nat.zero_le _⟩) (fun H locs hP hS => ?_)
        refine lv_iload_n hx hb dX7_text_40 rfl (lv_at hl 2 rfl) ?_
        cases hf
        exact rtI X hr hlk hP hS dX7_text_41
      · rw [if_neg c5] at hf
        refine lv_aload_n hx hb dX7_text_23 rfl (lv_at hl 0 rfl) ?_
        refine lv_iconst (v := (5 : Int32)) hx hb dX7_text_24 (by decide) ?_
        obtain ⟨q8, e9, hf⟩ := bind_some hf
        refine aftI hS (cV (rest := []) X hP hS [.int (5 : Int32)] (m_X7_refuse  e9) cw_X7_refuse tw_126 tw_406 tw_754 (by decide) (cf_LP ) rfl (fits9 (by first | decide | omega) (by decide)) rfl rfl hl.1 (Nat.le_of_ble_eq_true rfl) dX7_text_25 ⟨Nat.zero_le _, Nat.zero_le _⟩) (fun H locs hP hS => ?_)
        cases hf
        exact rtI X hr hlk hP hS dX7_text_28
    · rw [if_neg c4] at hf
      refine lv_iconst (v := (-1 : Int32)) hx hb dX7_text_17 (by decide) ?_
      cases hf
      exact rtI X hr hlk hP hS dX7_text_18
/-! X8_add -/
section
variable {p : Program} {l : Launch} {e : Env} {s : State} {m : MethodId} {args : Array Value} {below : List Frame} {meth : Method} {c : Code}
variable {D : va_G} {cI cP cB cA : ClassId} {ad : Nat → Nat} {tL tC : Nat}
end
set_option maxHeartbeats 4000000 in
set_option maxRecDepth 100000 in
theorem m_X8_add {l : Launch} {D : va_G} {cI cP cB cA : ClassId} {ad : Nat → Nat} {tL tC : Nat} {x1 : Int32} {x2 : Int32} {S : Stt} {res : Int32 × Stt} (hf : f_X8_add x1 x2 S = some res) : Ct l D cI cP cB cA 19 ad tL tC yX8_add cX8_add 3 (some .int) 2 [.ref (ad 0), .int x1, .int x2] (cfM ad cI S) (QI D 19 ad res.1 (cfM ad cI res.2)) := by
  refine ctOf (by decide) (Nat.le_of_ble_eq_true rfl) ?_
  intro p e s m args below meth c ls X hr hlk hP hl
  have hS : va_S (Ar 19 ad) s.heap s.heap [] := va_S.rf
  have hx := X.1.1
  have hb := X.1.2.1
  have hl : lv_has ls 3 [(0, .ref (ad 0)), (1, .int x1), (2, .int x2)] := hl
  unfold f_X8_add at hf
  refine lv_iload_n hx hb dX8_add_0 rfl (lv_at hl 1 rfl) ?_
  refine lv_iconst (v := (0 : Int32)) hx hb dX8_add_1 (by decide) ?_
  refine lv_iconst (v := (1 : Int32)) hx hb dX8_add_2 (by decide) ?_
  obtain ⟨q1, e2, hf⟩ := bind_some hf
  refine aftI hS (cS (rest := []) X hP hS [.int x1, .int (0 : Int32), .int (1 : Int32)] (m_X8_in  e2) cw_X8_in tw_288 tw_546 (fits9 (by first | decide | omega) (by decide)) rfl rfl hl.1 (Nat.le_of_ble_eq_true rfl) dX8_add_3 ⟨Nat.zero_le _, Nat.zero_le _⟩) (fun H locs hP hS => ?_)
  refine lv_if_eq (tgt := 19) hx hb dX8_add_6 (by decide) (fun c3 => ?_) (fun c3 => ?_)
  · rw [if_pos c3] at hf
    refine lv_iconst (v := (-1 : Int32)) hx hb dX8_add_19 (by decide) ?_
    cases hf
    exact rtI X hr hlk hP hS dX8_add_20
  · rw [if_neg c3] at hf
    refine lv_iload_n hx hb dX8_add_9 rfl (lv_at hl 2 rfl) ?_
    refine lv_iconst (v := (0 : Int32)) hx hb dX8_add_10 (by decide) ?_
    refine lv_bipush (v := (127 : Int32)) hx hb dX8_add_11 (by decide) ?_
    obtain ⟨q4, e5, hf⟩ := bind_some hf
    refine aftI hS (cS (rest := []) X hP hS [.int x2, .int (0 : Int32), .int (127 : Int32)] (m_X8_in  e5) cw_X8_in tw_288 tw_546 (fits9 (by first | decide | omega) (by decide)) rfl rfl hl.1 (Nat.le_of_ble_eq_true rfl) dX8_add_13 ⟨Nat.zero_le _, Nat.zero_le _⟩) (fun H locs hP hS => ?_)
    refine lv_if_ne (tgt := 21) hx hb dX8_add_16 (by decide) (fun c6 => ?_) (fun c6 => ?_)
    · rw [if_neg c6] at hf
      refine lv_aload_n hx hb dX8_add_21 rfl (lv_at hl 0 rfl) ?_
      refine g_M_many X hP  tw_86 dX8_add_22 ?_
      refine lv_bipush (v := (6 : Int32)) hx hb dX8_add_25 (by decide) ?_
      refine lv_icmp_ne (tgt := 33) hx hb dX8_add_27 (by decide) (fun c7 => ?_) (fun c7 => ?_)
      · rw [if_neg c7] at hf
        refine lv_aload_n hx hb dX8_add_33 rfl (lv_at hl 0 rfl) ?_
        refine g_M_kinds X hP  tw_87 dX8_add_34 ?_
        refine lv_aload_n hx hb dX8_add_37 rfl (lv_at hl 0 rfl) ?_
        refine g_M_many X hP  tw_86 dX8_add_38 ?_
        refine lv_iconst (v := (0 : Int32)) hx hb dX8_add_41 (by decide) ?_
        obtain ⟨g8, hf⟩ := grd_some hf
        refine w_m_kinds X hP hS  g8 dX8_add_42 (fun H locs hP hS => ?_)
        refine lv_aload_n hx hb dX8_add_43 rfl (lv_at hl 0 rfl) ?_
        refine g_M_verdicts X hP  tw_88 dX8_add_44 ?_
        refine lv_aload_n hx hb dX8_add_47 rfl (lv_at hl 0 rfl) ?_
        refine g_M_many X hP  tw_86 dX8_add_48 ?_
        refine lv_iload_n hx hb dX8_add_51 rfl (lv_at hl 1 rfl) ?_
        obtain ⟨g9, hf⟩ := grd_some hf
        refine w_m_verdicts X hP hS  g9 dX8_add_52 (fun H locs hP hS => ?_)
        refine lv_aload_n hx hb dX8_add_53 rfl (lv_at hl 0 rfl) ?_
        refine g_M_words X hP  tw_89 dX8_add_54 ?_
        refine lv_aload_n hx hb dX8_add_57 rfl (lv_at hl 0 rfl) ?_
        refine g_M_many X hP  tw_86 dX8_add_58 ?_
        refine lv_iload_n hx hb dX8_add_61 rfl (lv_at hl 2 rfl) ?_
        obtain ⟨g10, hf⟩ := grd_some hf
        refine w_m_words X hP hS  g10 dX8_add_62 (fun H locs hP hS => ?_)
        refine lv_aload_n hx hb dX8_add_63 rfl (lv_at hl 0 rfl) ?_
        refine g_M_points X hP  tw_90 dX8_add_64 ?_
        refine lv_aload_n hx hb dX8_add_67 rfl (lv_at hl 0 rfl) ?_
        refine g_M_many X hP  tw_86 dX8_add_68 ?_
        refine lv_bipush (v := (-9 : Int32)) hx hb dX8_add_71 (by decide) ?_
        obtain ⟨g11, hf⟩ := grd_some hf
        refine w_m_points X hP hS  g11 dX8_add_73 (fun H locs hP hS => ?_)
        refine lv_aload_n hx hb dX8_add_74 rfl (lv_at hl 0 rfl) ?_
        refine g_M_facts X hP  tw_91 dX8_add_75 ?_
        refine lv_aload_n hx hb dX8_add_78 rfl (lv_at hl 0 rfl) ?_
        refine g_M_many X hP  tw_86 dX8_add_79 ?_
        refine lv_bipush (v := (-9 : Int32)) hx hb dX8_add_82 (by decide) ?_
        obtain ⟨g12, hf⟩ := grd_some hf
        refine w_m_facts X hP hS  g12 dX8_add_84 (fun H locs hP hS => ?_)
        refine lv_aload_n hx hb dX8_add_85 rfl (lv_at hl 0 rfl) ?_
        refine g_M_days X hP  tw_92 dX8_add_86 ?_
        refine lv_aload_n hx hb dX8_add_89 rfl (lv_at hl 0 rfl) ?_
        refine g_M_many X hP  tw_86 dX8_add_90 ?_
        refine lv_aload_n hx hb dX8_add_93 rfl (lv_at hl 0 rfl) ?_
        refine g_M_many X hP  tw_86 dX8_add_94 ?_
        obtain ⟨g13, hf⟩ := grd_some hf
        refine w_m_days X hP hS  g13 dX8_add_97 (fun H locs hP hS => ?_)
        refine lv_aload_n hx hb dX8_add_98 rfl (lv_at hl 0 rfl) ?_
        refine lv_dup hx hb dX8_add_99 rfl ?_
        refine g_M_many X hP  tw_86 dX8_add_100 ?_
        refine lv_iconst (v := (1 : Int32)) hx hb dX8_add_103 (by decide) ?_
        refine lv_iadd hx hb dX8_add_104 ?_
        refine p_M_many X hP hS  tw_86 dX8_add_105 (fun H locs hP hS => ?_)
        refine lv_aload_n hx hb dX8_add_108 rfl (lv_at hl 0 rfl) ?_
        refine g_M_many X hP  tw_86 dX8_add_109 ?_
        refine lv_iconst (v := (1 : Int32)) hx hb dX8_add_112 (by decide) ?_
        refine lv_isub hx hb dX8_add_113 ?_
        cases hf
        exact rtI X hr hlk hP hS dX8_add_114
      · rw [if_pos c7] at hf
        refine lv_bipush (v := (-2 : Int32)) hx hb dX8_add_30 (by decide) ?_
        cases hf
        exact rtI X hr hlk hP hS dX8_add_32
    · rw [if_pos c6] at hf
      refine lv_iconst (v := (-1 : Int32)) hx hb dX8_add_19 (by decide) ?_
      cases hf
      exact rtI X hr hlk hP hS dX8_add_20
/-! X8_figure -/
section
variable {p : Program} {l : Launch} {e : Env} {s : State} {m : MethodId} {args : Array Value} {below : List Frame} {meth : Method} {c : Code}
variable {D : va_G} {cI cP cB cA : ClassId} {ad : Nat → Nat} {tL tC : Nat}
end
set_option maxHeartbeats 4000000 in
set_option maxRecDepth 100000 in
theorem m_X8_figure {l : Launch} {D : va_G} {cI cP cB cA : ClassId} {ad : Nat → Nat} {tL tC : Nat} {x1 : Int32} {x2 : Int32} {x3 : Int32} {S : Stt} {res : Int32 × Stt} (hf : f_X8_figure x1 x2 x3 S = some res) : Ct l D cI cP cB cA 19 ad tL tC yX8_figure cX8_figure 5 (some .int) 2 [.ref (ad 0), .int x1, .int x2, .int x3] (cfM ad cI S) (QI D 19 ad res.1 (cfM ad cI res.2)) := by
  refine ctOf (by decide) (Nat.le_of_ble_eq_true rfl) ?_
  intro p e s m args below meth c ls X hr hlk hP hl
  have hS : va_S (Ar 19 ad) s.heap s.heap [] := va_S.rf
  have hx := X.1.1
  have hb := X.1.2.1
  have hl : lv_has ls 5 [(0, .ref (ad 0)), (1, .int x1), (2, .int x2), (3, .int x3)] := hl
  unfold f_X8_figure at hf
  refine lv_aload_n hx hb dX8_figure_0 rfl (lv_at hl 0 rfl) ?_
  refine lv_iload_n hx hb dX8_figure_1 rfl (lv_at hl 1 rfl) ?_
  obtain ⟨q1, e2, hf⟩ := bind_some hf
  refine aftI hS (cV (rest := []) X hP hS [.int x1] (m_X8_here  e2) cw_X8_here tw_306 tw_563 tw_776 (by decide) (cf_M ) rfl (fits9 (by first | decide | omega) (by decide)) rfl rfl hl.1 (Nat.le_of_ble_eq_true rfl) dX8_figure_2 ⟨Nat.zero_le _, Nat.zero_le _⟩) (fun H locs hP hS => ?_)
  refine lv_bipush (v := (48 : Int32)) hx hb dX8_figure_5 (by decide) ?_
  refine lv_isub hx hb dX8_figure_7 ?_
  refine lv_istore (lv' := [(4, .int (q1.1 - (48 : Int32))), (0, .ref (ad 0)), (1, .int x1), (2, .int x2), (3, .int x3)]) hx hb dX8_figure_8 hl (by decide) rfl (fun ls hl => ?_)
  refine lv_iload hx hb dX8_figure_10 (lv_at hl 0 rfl) ?_
  refine lv_iload_n hx hb dX8_figure_12 rfl (lv_at hl 3 rfl) ?_
  refine lv_iload_n hx hb dX8_figure_13 rfl (lv_at hl 4 rfl) ?_
  obtain ⟨q3, e4, hf⟩ := bind_some hf
  refine aftI hS (cS (rest := []) X hP hS [.int (q1.1 - (48 : Int32)), .int x2, .int x3] (m_X8_in  e4) cw_X8_in tw_288 tw_546 (fits9 (by first | decide | omega) (by decide)) rfl rfl hl.1 (Nat.le_of_ble_eq_true rfl) dX8_figure_14 ⟨Nat.zero_le _, Nat.zero_le _⟩) (fun H locs hP hS => ?_)
  refine lv_if_ne (tgt := 23) hx hb dX8_figure_17 (by decide) (fun c5 => ?_) (fun c5 => ?_)
  · rw [if_neg c5] at hf
    refine lv_aload_n hx hb dX8_figure_23 rfl (lv_at hl 1 rfl) ?_
    refine lv_dup hx hb dX8_figure_24 rfl ?_
    refine g_M_readAt X hP  tw_93 dX8_figure_25 ?_
    refine lv_iconst (v := (1 : Int32)) hx hb dX8_figure_28 (by decide) ?_
    refine lv_iadd hx hb dX8_figure_29 ?_
    refine p_M_readAt X hP hS  tw_93 dX8_figure_30 (fun H locs hP hS => ?_)
    refine lv_iload hx hb dX8_figure_33 (lv_at hl 0 rfl) ?_
    cases hf
    exact rtI X hr hlk hP hS dX8_figure_35
  · rw [if_pos c5] at hf
    refine lv_bipush (v := (-9 : Int32)) hx hb dX8_figure_20 (by decide) ?_
    cases hf
    exact rtI X hr hlk hP hS dX8_figure_22
/-! X8_findings -/
section
variable {p : Program} {l : Launch} {e : Env} {s : State} {m : MethodId} {args : Array Value} {below : List Frame} {meth : Method} {c : Code}
variable {D : va_G} {cI cP cB cA : ClassId} {ad : Nat → Nat} {tL tC : Nat}
end
set_option maxHeartbeats 4000000 in
set_option maxRecDepth 100000 in
theorem m_X8_findings {l : Launch} {D : va_G} {cI cP cB cA : ClassId} {ad : Nat → Nat} {tL tC : Nat} {x1 : Int32} {S : Stt} {res : Int32 × Stt} (hf : f_X8_findings x1 S = some res) : Ct l D cI cP cB cA 19 ad tL tC yX8_findings cX8_findings 2 (some .int) 2 [.ref (ad 0), .int x1] (cfM ad cI S) (QI D 19 ad res.1 (cfM ad cI res.2)) := by
  refine ctOf (by decide) (Nat.le_of_ble_eq_true rfl) ?_
  intro p e s m args below meth c ls X hr hlk hP hl
  have hS : va_S (Ar 19 ad) s.heap s.heap [] := va_S.rf
  have hx := X.1.1
  have hb := X.1.2.1
  have hl : lv_has ls 2 [(0, .ref (ad 0)), (1, .int x1)] := hl
  unfold f_X8_findings at hf
  refine lv_iload_n hx hb dX8_findings_0 rfl (lv_at hl 1 rfl) ?_
  refine lv_iconst (v := (1 : Int32)) hx hb dX8_findings_1 (by decide) ?_
  refine lv_iconst (v := (5 : Int32)) hx hb dX8_findings_2 (by decide) ?_
  obtain ⟨q1, e2, hf⟩ := bind_some hf
  refine aftI hS (cS (rest := []) X hP hS [.int x1, .int (1 : Int32), .int (5 : Int32)] (m_X8_in  e2) cw_X8_in tw_288 tw_546 (fits9 (by first | decide | omega) (by decide)) rfl rfl hl.1 (Nat.le_of_ble_eq_true rfl) dX8_findings_3 ⟨Nat.zero_le _, Nat.zero_le _⟩) (fun H locs hP hS => ?_)
  refine lv_if_eq (tgt := 18) hx hb dX8_findings_6 (by decide) (fun c3 => ?_) (fun c3 => ?_)
  · rw [if_pos c3] at hf
    refine lv_iconst (v := (-1 : Int32)) hx hb dX8_findings_18 (by decide) ?_
    cases hf
    exact rtI X hr hlk hP hS dX8_findings_19
  · rw [if_neg c3] at hf
    refine lv_aload_n hx hb dX8_findings_9 rfl (lv_at hl 0 rfl) ?_
    refine g_M_findings X hP  tw_77 dX8_findings_10 ?_
    refine lv_iload_n hx hb dX8_findings_13 rfl (lv_at hl 1 rfl) ?_
    obtain ⟨g4, hf⟩ := grd_some hf
    refine r_m_findings X hP  g4 dX8_findings_14 ?_
    refine lv_goto (tgt := 19) hx hb dX8_findings_15 (by decide) ?_
    cases hf
    exact rtI X hr hlk hP hS dX8_findings_19
/-! X8_isCase -/
section
variable {p : Program} {l : Launch} {e : Env} {s : State} {m : MethodId} {args : Array Value} {below : List Frame} {meth : Method} {c : Code}
variable {D : va_G} {cI cP cB cA : ClassId} {ad : Nat → Nat} {tL tC : Nat}
end
set_option maxHeartbeats 4000000 in
set_option maxRecDepth 100000 in
theorem m_X8_isCase {l : Launch} {D : va_G} {cI cP cB cA : ClassId} {ad : Nat → Nat} {tL tC : Nat} {x0 : Int32} {S : Stt} {res : Int32 × Stt} (hf : f_X8_isCase x0 S = some res) : Ct l D cI cP cB cA 19 ad tL tC yX8_isCase cX8_isCase 1 (some .boolean) 2 [.int x0] (cfM ad cI S) (QI D 19 ad res.1 (cfM ad cI res.2)) := by
  refine ctOf (by decide) (Nat.le_of_ble_eq_true rfl) ?_
  intro p e s m args below meth c ls X hr hlk hP hl
  have hS : va_S (Ar 19 ad) s.heap s.heap [] := va_S.rf
  have hx := X.1.1
  have hb := X.1.2.1
  have hl : lv_has ls 1 [(0, .int x0)] := hl
  unfold f_X8_isCase at hf
  refine lv_iload_n hx hb dX8_isCase_0 rfl (lv_at hl 0 rfl) ?_
  refine lv_iconst (v := (0 : Int32)) hx hb dX8_isCase_1 (by decide) ?_
  refine lv_bipush (v := (31 : Int32)) hx hb dX8_isCase_2 (by decide) ?_
  obtain ⟨q1, e2, hf⟩ := bind_some hf
  refine aftI hS (cS (rest := []) X hP hS [.int x0, .int (0 : Int32), .int (31 : Int32)] (m_X8_in  e2) cw_X8_in tw_288 tw_546 (fits9 (by first | decide | omega) (by decide)) rfl rfl hl.1 (Nat.le_of_ble_eq_true rfl) dX8_isCase_4 ⟨Nat.zero_le _, Nat.zero_le _⟩) (fun H locs hP hS => ?_)
  obtain ⟨g3, hf⟩ := grd_some hf
  cases hf
  exact rtZ X hr hlk hP hS (zb_or g3) dX8_isCase_7
/-! X8_isDay -/
section
variable {p : Program} {l : Launch} {e : Env} {s : State} {m : MethodId} {args : Array Value} {below : List Frame} {meth : Method} {c : Code}
variable {D : va_G} {cI cP cB cA : ClassId} {ad : Nat → Nat} {tL tC : Nat}
end
set_option maxHeartbeats 4000000 in
set_option maxRecDepth 100000 in
theorem m_X8_isDay {l : Launch} {D : va_G} {cI cP cB cA : ClassId} {ad : Nat → Nat} {tL tC : Nat} {x0 : Int32} {S : Stt} {res : Int32 × Stt} (hf : f_X8_isDay x0 S = some res) : Ct l D cI cP cB cA 19 ad tL tC yX8_isDay cX8_isDay 1 (some .boolean) 2 [.int x0] (cfM ad cI S) (QI D 19 ad res.1 (cfM ad cI res.2)) := by
  refine ctOf (by decide) (Nat.le_of_ble_eq_true rfl) ?_
  intro p e s m args below meth c ls X hr hlk hP hl
  have hS : va_S (Ar 19 ad) s.heap s.heap [] := va_S.rf
  have hx := X.1.1
  have hb := X.1.2.1
  have hl : lv_has ls 1 [(0, .int x0)] := hl
  unfold f_X8_isDay at hf
  refine lv_iload_n hx hb dX8_isDay_0 rfl (lv_at hl 0 rfl) ?_
  refine lv_iconst (v := (0 : Int32)) hx hb dX8_isDay_1 (by decide) ?_
  refine lv_bipush (v := (20 : Int32)) hx hb dX8_isDay_2 (by decide) ?_
  obtain ⟨q1, e2, hf⟩ := bind_some hf
  refine aftI hS (cS (rest := []) X hP hS [.int x0, .int (0 : Int32), .int (20 : Int32)] (m_X8_in  e2) cw_X8_in tw_288 tw_546 (fits9 (by first | decide | omega) (by decide)) rfl rfl hl.1 (Nat.le_of_ble_eq_true rfl) dX8_isDay_4 ⟨Nat.zero_le _, Nat.zero_le _⟩) (fun H locs hP hS => ?_)
  obtain ⟨g3, hf⟩ := grd_some hf
  cases hf
  exact rtZ X hr hlk hP hS (zb_or g3) dX8_isDay_7
/-! X8_isPage -/
section
variable {p : Program} {l : Launch} {e : Env} {s : State} {m : MethodId} {args : Array Value} {below : List Frame} {meth : Method} {c : Code}
variable {D : va_G} {cI cP cB cA : ClassId} {ad : Nat → Nat} {tL tC : Nat}
end
set_option maxHeartbeats 4000000 in
set_option maxRecDepth 100000 in
theorem m_X8_isPage {l : Launch} {D : va_G} {cI cP cB cA : ClassId} {ad : Nat → Nat} {tL tC : Nat} {x1 : Int32} {S : Stt} {res : Int32 × Stt} (hf : f_X8_isPage x1 S = some res) : Ct l D cI cP cB cA 19 ad tL tC yX8_isPage cX8_isPage 2 (some .boolean) 2 [.ref (ad 0), .int x1] (cfM ad cI S) (QI D 19 ad res.1 (cfM ad cI res.2)) := by
  refine ctOf (by decide) (Nat.le_of_ble_eq_true rfl) ?_
  intro p e s m args below meth c ls X hr hlk hP hl
  have hS : va_S (Ar 19 ad) s.heap s.heap [] := va_S.rf
  have hx := X.1.1
  have hb := X.1.2.1
  have hl : lv_has ls 2 [(0, .ref (ad 0)), (1, .int x1)] := hl
  unfold f_X8_isPage at hf
  refine lv_iload_n hx hb dX8_isPage_0 rfl (lv_at hl 1 rfl) ?_
  refine lv_iconst (v := (0 : Int32)) hx hb dX8_isPage_1 (by decide) ?_
  refine lv_aload_n hx hb dX8_isPage_2 rfl (lv_at hl 0 rfl) ?_
  refine g_M_many X hP  tw_86 dX8_isPage_3 ?_
  refine lv_iconst (v := (1 : Int32)) hx hb dX8_isPage_6 (by decide) ?_
  refine lv_isub hx hb dX8_isPage_7 ?_
  obtain ⟨q1, e2, hf⟩ := bind_some hf
  refine aftI hS (cS (rest := []) X hP hS [.int x1, .int (0 : Int32), .int ((S.1 0 10 0) - (1 : Int32))] (m_X8_in  e2) cw_X8_in tw_288 tw_546 (fits9 (by first | decide | omega) (by decide)) rfl rfl hl.1 (Nat.le_of_ble_eq_true rfl) dX8_isPage_8 ⟨Nat.zero_le _, Nat.zero_le _⟩) (fun H locs hP hS => ?_)
  obtain ⟨g3, hf⟩ := grd_some hf
  cases hf
  exact rtZ X hr hlk hP hS (zb_or g3) dX8_isPage_11
/-! X8_isRow -/
section
variable {p : Program} {l : Launch} {e : Env} {s : State} {m : MethodId} {args : Array Value} {below : List Frame} {meth : Method} {c : Code}
variable {D : va_G} {cI cP cB cA : ClassId} {ad : Nat → Nat} {tL tC : Nat}
end
set_option maxHeartbeats 4000000 in
set_option maxRecDepth 100000 in
theorem m_X8_isRow {l : Launch} {D : va_G} {cI cP cB cA : ClassId} {ad : Nat → Nat} {tL tC : Nat} {x0 : Int32} {S : Stt} {res : Int32 × Stt} (hf : f_X8_isRow x0 S = some res) : Ct l D cI cP cB cA 19 ad tL tC yX8_isRow cX8_isRow 1 (some .boolean) 2 [.int x0] (cfM ad cI S) (QI D 19 ad res.1 (cfM ad cI res.2)) := by
  refine ctOf (by decide) (Nat.le_of_ble_eq_true rfl) ?_
  intro p e s m args below meth c ls X hr hlk hP hl
  have hS : va_S (Ar 19 ad) s.heap s.heap [] := va_S.rf
  have hx := X.1.1
  have hb := X.1.2.1
  have hl : lv_has ls 1 [(0, .int x0)] := hl
  unfold f_X8_isRow at hf
  refine lv_iload_n hx hb dX8_isRow_0 rfl (lv_at hl 0 rfl) ?_
  refine lv_iconst (v := (0 : Int32)) hx hb dX8_isRow_1 (by decide) ?_
  refine lv_iconst (v := (5 : Int32)) hx hb dX8_isRow_2 (by decide) ?_
  obtain ⟨q1, e2, hf⟩ := bind_some hf
  refine aftI hS (cS (rest := []) X hP hS [.int x0, .int (0 : Int32), .int (5 : Int32)] (m_X8_in  e2) cw_X8_in tw_288 tw_546 (fits9 (by first | decide | omega) (by decide)) rfl rfl hl.1 (Nat.le_of_ble_eq_true rfl) dX8_isRow_3 ⟨Nat.zero_le _, Nat.zero_le _⟩) (fun H locs hP hS => ?_)
  obtain ⟨g3, hf⟩ := grd_some hf
  cases hf
  exact rtZ X hr hlk hP hS (zb_or g3) dX8_isRow_6
/-! X8_isText -/
section
variable {p : Program} {l : Launch} {e : Env} {s : State} {m : MethodId} {args : Array Value} {below : List Frame} {meth : Method} {c : Code}
variable {D : va_G} {cI cP cB cA : ClassId} {ad : Nat → Nat} {tL tC : Nat}
end
set_option maxHeartbeats 4000000 in
set_option maxRecDepth 100000 in
theorem m_X8_isText {l : Launch} {D : va_G} {cI cP cB cA : ClassId} {ad : Nat → Nat} {tL tC : Nat} {x0 : Int32} {S : Stt} {res : Int32 × Stt} (hf : f_X8_isText x0 S = some res) : Ct l D cI cP cB cA 19 ad tL tC yX8_isText cX8_isText 1 (some .boolean) 2 [.int x0] (cfM ad cI S) (QI D 19 ad res.1 (cfM ad cI res.2)) := by
  refine ctOf (by decide) (Nat.le_of_ble_eq_true rfl) ?_
  intro p e s m args below meth c ls X hr hlk hP hl
  have hS : va_S (Ar 19 ad) s.heap s.heap [] := va_S.rf
  have hx := X.1.1
  have hb := X.1.2.1
  have hl : lv_has ls 1 [(0, .int x0)] := hl
  unfold f_X8_isText at hf
  refine lv_iload_n hx hb dX8_isText_0 rfl (lv_at hl 0 rfl) ?_
  refine lv_iconst (v := (0 : Int32)) hx hb dX8_isText_1 (by decide) ?_
  refine lv_iconst (v := (3 : Int32)) hx hb dX8_isText_2 (by decide) ?_
  obtain ⟨q1, e2, hf⟩ := bind_some hf
  refine aftI hS (cS (rest := []) X hP hS [.int x0, .int (0 : Int32), .int (3 : Int32)] (m_X8_in  e2) cw_X8_in tw_288 tw_546 (fits9 (by first | decide | omega) (by decide)) rfl rfl hl.1 (Nat.le_of_ble_eq_true rfl) dX8_isText_3 ⟨Nat.zero_le _, Nat.zero_le _⟩) (fun H locs hP hS => ?_)
  obtain ⟨g3, hf⟩ := grd_some hf
  cases hf
  exact rtZ X hr hlk hP hS (zb_or g3) dX8_isText_6
