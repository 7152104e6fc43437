/-! X8_reverse -/
section
variable {p : Program} {l : Launch} {e : Env} {s : State} {m : MethodId} {args : Array Value} {below : List Frame} {meth : Method} {c : Code}
variable {D : va_G} {cI cP cB cA : ClassId} {ad : Nat → Nat} {tL tC : Nat}
end
set_option maxHeartbeats 4000000 in
set_option maxRecDepth 100000 in
theorem m_X8_reverse {l : Launch} {D : va_G} {cI cP cB cA : ClassId} {ad : Nat → Nat} {tL tC : Nat} {x1 : Int32} {x2 : Int32} {S : Stt} {res : Int32 × Stt} (hf : f_X8_reverse x1 x2 S = some res) : Ct l D cI cP cB cA 19 ad tL tC yX8_reverse cX8_reverse 4 (some .int) 3 [.ref (ad 0), .int x1, .int x2] (cfM ad cI S) (QI D 19 ad res.1 (cfM ad cI res.2)) := by
  refine ctOf (by decide) (Nat.le_of_ble_eq_true rfl) ?_
  intro p e s m args below meth c ls X hr hlk hP hl
  have hS : va_S (Ar 19 ad) s.heap s.heap [] := va_S.rf
  have hx := X.1.1
  have hb := X.1.2.1
  have hl : lv_has ls 4 [(0, .ref (ad 0)), (1, .int x1), (2, .int x2)] := hl
  unfold f_X8_reverse at hf
  refine lv_aload_n hx hb dX8_reverse_0 rfl (lv_at hl 0 rfl) ?_
  refine lv_iload_n hx hb dX8_reverse_1 rfl (lv_at hl 1 rfl) ?_
  obtain ⟨q1, e2, hf⟩ := bind_some hf
  refine aftI hS (cV (rest := []) X hP hS [.int x1] (m_X8_isPage  e2) cw_X8_isPage tw_314 tw_571 tw_783 (by decide) (cf_M ) rfl (fits9 (by first | decide | omega) (by decide)) rfl rfl hl.1 (Nat.le_of_ble_eq_true rfl) dX8_reverse_2 ⟨Nat.zero_le _, Nat.zero_le _⟩) (fun H locs hP hS => ?_)
  refine lv_if_eq (tgt := 17) hx hb dX8_reverse_5 (by decide) (fun c3 => ?_) (fun c3 => ?_)
  · rw [if_pos c3] at hf
    refine lv_iconst (v := (-1 : Int32)) hx hb dX8_reverse_17 (by decide) ?_
    cases hf
    exact rtI X hr hlk hP hS dX8_reverse_18
  · rw [if_neg c3] at hf
    refine lv_iload_n hx hb dX8_reverse_8 rfl (lv_at hl 2 rfl) ?_
    refine lv_iconst (v := (0 : Int32)) hx hb dX8_reverse_9 (by decide) ?_
    refine lv_iconst (v := (1 : Int32)) hx hb dX8_reverse_10 (by decide) ?_
    obtain ⟨q4, e5, hf⟩ := bind_some hf
    refine aftI hS (cS (rest := []) X hP hS [.int x2, .int (0 : Int32), .int (1 : Int32)] (m_X8_in  e5) cw_X8_in tw_288 tw_546 (fits9 (by first | decide | omega) (by decide)) rfl rfl hl.1 (Nat.le_of_ble_eq_true rfl) dX8_reverse_11 ⟨Nat.zero_le _, Nat.zero_le _⟩) (fun H locs hP hS => ?_)
    refine lv_if_ne (tgt := 19) hx hb dX8_reverse_14 (by decide) (fun c6 => ?_) (fun c6 => ?_)
    · rw [if_neg c6] at hf
      refine lv_aload_n hx hb dX8_reverse_19 rfl (lv_at hl 0 rfl) ?_
      refine g_M_kinds X hP  tw_87 dX8_reverse_20 ?_
      refine lv_iload_n hx hb dX8_reverse_23 rfl (lv_at hl 1 rfl) ?_
      obtain ⟨g7, hf⟩ := grd_some hf
      refine r_m_kinds X hP  g7 dX8_reverse_24 ?_
      refine lv_iconst (v := (3 : Int32)) hx hb dX8_reverse_25 (by decide) ?_
      refine lv_icmp_ne (tgt := 35) hx hb dX8_reverse_26 (by decide) (fun c8 => ?_) (fun c8 => ?_)
      · rw [if_neg c8] at hf
        refine lv_aload_n hx hb dX8_reverse_35 rfl (lv_at hl 0 rfl) ?_
        refine g_M_verdicts X hP  tw_88 dX8_reverse_36 ?_
        refine lv_iload_n hx hb dX8_reverse_39 rfl (lv_at hl 1 rfl) ?_
        obtain ⟨g9, hf⟩ := grd_some hf
        refine r_m_verdicts X hP  g9 dX8_reverse_40 ?_
        refine lv_istore_n (lv' := [(3, .int (q4.2.1 8 0 x1.toNatClampNeg)), (0, .ref (ad 0)), (1, .int x1), (2, .int x2)]) hx hb dX8_reverse_41 rfl hl (by decide) rfl (fun ls hl => ?_)
        refine lv_aload_n hx hb dX8_reverse_42 rfl (lv_at hl 1 rfl) ?_
        refine g_M_verdicts X hP  tw_88 dX8_reverse_43 ?_
        refine lv_iload_n hx hb dX8_reverse_46 rfl (lv_at hl 2 rfl) ?_
        refine lv_iload_n hx hb dX8_reverse_47 rfl (lv_at hl 3 rfl) ?_
        obtain ⟨g10, hf⟩ := grd_some hf
        refine w_m_verdicts X hP hS  g10 dX8_reverse_48 (fun H locs hP hS => ?_)
        refine lv_iload_n hx hb dX8_reverse_49 rfl (lv_at hl 0 rfl) ?_
        cases hf
        exact rtI X hr hlk hP hS dX8_reverse_50
      · rw [if_pos c8] at hf
        refine lv_aload_n hx hb dX8_reverse_29 rfl (lv_at hl 0 rfl) ?_
        refine lv_iconst (v := (3 : Int32)) hx hb dX8_reverse_30 (by decide) ?_
        obtain ⟨q11, e12, hf⟩ := bind_some hf
        refine aftI hS (cV (rest := []) X hP hS [.int (3 : Int32)] (m_X8_meet  e12) cw_X8_meet tw_289 tw_547 tw_762 (by decide) (cf_M ) rfl (fits9 (by first | decide | omega) (by decide)) rfl rfl hl.1 (Nat.le_of_ble_eq_true rfl) dX8_reverse_31 ⟨Nat.zero_le _, Nat.zero_le _⟩) (fun H locs hP hS => ?_)
        cases hf
        exact rtI X hr hlk hP hS dX8_reverse_34
    · rw [if_pos c6] at hf
      refine lv_iconst (v := (-1 : Int32)) hx hb dX8_reverse_17 (by decide) ?_
      cases hf
      exact rtI X hr hlk hP hS dX8_reverse_18
/-! X8_row -/
section
variable {p : Program} {l : Launch} {e : Env} {s : State} {m : MethodId} {args : Array Value} {below : List Frame} {meth : Method} {c : Code}
variable {D : va_G} {cI cP cB cA : ClassId} {ad : Nat → Nat} {tL tC : Nat}
set_option maxHeartbeats 4000000 in
set_option maxRecDepth 100000 in
theorem vb_X8_row_34 (X : Cx D cI cP cB cA 19 ad tL tC p s m c cX8_row 4 args RX8) (hr : meth.sig.returnType = (some .int)) (hlk : meth.locks = false) {res : Int32 × Stt} (kb : Int32 → Int32 → Int32 → Stt → Option (Int32 × Stt)) (ke : Int32 → Stt → Option (Int32 × Stt)) (hkb : ∀ (x1 : Int32) (x2 : Int32) (x3 : Int32) (S : Stt) (H : Heap) (locs : List Loc) (ls : Array Slot), kb x1 x2 x3 S = some res → va_P D vwCl (wl 19 ad (cfM ad cI S)) H → va_S (Ar 19 ad) s.heap H locs → lv_has ls 4 [(0, .ref (ad 0)), (1, .int x1), (2, .int x2), (3, .int x3)] → W p l e (rmD 3) s m args below meth c H locs 0 0 (MQ below (QI D 19 ad res.1 (cfM ad cI res.2)) args s 0 0 (Ar 19 ad)) (F0 m 34 ls [])) (hke : ∀ (x2 : Int32) (S : Stt) (H : Heap) (locs : List Loc) (ls : Array Slot), ke x2 S = some res → va_P D vwCl (wl 19 ad (cfM ad cI S)) H → va_S (Ar 19 ad) s.heap H locs → lv_has ls 4 [(2, .int x2)] → W p l e (rmD 3) s m args below meth c H locs 0 0 (MQ below (QI D 19 ad res.1 (cfM ad cI res.2)) args s 0 0 (Ar 19 ad)) (F0 m 53 ls [])) : ∀ (x1 : Int32) (x2 : Int32) (x3 : Int32) (S : Stt) (H : Heap) (locs : List Loc) (ls : Array Slot), fb_X8_row_34 kb ke x1 x2 x3 S = some res → va_P D vwCl (wl 19 ad (cfM ad cI S)) H → va_S (Ar 19 ad) s.heap H locs → lv_has ls 4 [(0, .ref (ad 0)), (1, .int x1), (2, .int x2), (3, .int x3)] → W p l e (rmD 3) s m args below meth c H locs 0 0 (MQ below (QI D 19 ad res.1 (cfM ad cI res.2)) args s 0 0 (Ar 19 ad)) (F0 m 34 ls []) := by
  intro x1 x2 x3 S H locs ls hf hP hS hl
  have hx := X.1.1
  have hb := X.1.2.1
  unfold fb_X8_row_34 at hf
  refine lv_iload_n hx hb dX8_row_34 rfl (lv_at hl 3 rfl) ?_
  refine lv_bipush (v := (40 : Int32)) hx hb dX8_row_35 (by decide) ?_
  refine lv_icmp_ge (tgt := 53) hx hb dX8_row_37 (by decide) (fun c7 => ?_) (fun c7 => ?_)
  · rw [if_pos c7] at hf
    exact hke _ _ _ _ ls hf  hP hS (lv_sub hl [2] rfl)
  · rw [if_neg c7] at hf
    refine lv_aload_n hx hb dX8_row_40 rfl (lv_at hl 0 rfl) ?_
    refine lv_iload_n hx hb dX8_row_41 rfl (lv_at hl 1 rfl) ?_
    refine lv_iload_n hx hb dX8_row_42 rfl (lv_at hl 3 rfl) ?_
    refine lv_iconst (v := (0 : Int32)) hx hb dX8_row_43 (by decide) ?_
    obtain ⟨q8, e9, hf⟩ := bind_some hf
    refine aftV hS (cV (rest := []) X hP hS [.int x1, .int x3, .int (0 : Int32)] (m_X8_setRow  e9) cw_X8_setRow tw_290 tw_548 tw_767 (by decide) (cf_M ) rfl (fits9 (by first | decide | omega) (by decide)) rfl rfl hl.1 (Nat.le_of_ble_eq_true rfl) dX8_row_44 ⟨Nat.zero_le _, Nat.zero_le _⟩) (fun H locs hP hS => ?_)
    refine lv_iinc (v := (x3 + (1 : Int32))) (lv' := [(3, .int (x3 + (1 : Int32))), (0, .ref (ad 0)), (1, .int x1), (2, .int x2)]) hx hb dX8_row_47 hl (k := 3) rfl rfl (by decide) rfl (fun ls hl => ?_)
    refine lv_goto (tgt := 34) hx hb dX8_row_50 (by decide) ?_
    exact hkb _ _ _ _ _ _ ls hf  hP hS (lv_sub hl [1, 2, 3, 0] rfl)
set_option maxHeartbeats 4000000 in
set_option maxRecDepth 100000 in
theorem vl_X8_row_34 (X : Cx D cI cP cB cA 19 ad tL tC p s m c cX8_row 4 args RX8) (hr : meth.sig.returnType = (some .int)) (hlk : meth.locks = false) {res : Int32 × Stt} (ke : Int32 → Stt → Option (Int32 × Stt)) (hke : ∀ (x2 : Int32) (S : Stt) (H : Heap) (locs : List Loc) (ls : Array Slot), ke x2 S = some res → va_P D vwCl (wl 19 ad (cfM ad cI S)) H → va_S (Ar 19 ad) s.heap H locs → lv_has ls 4 [(2, .int x2)] → W p l e (rmD 3) s m args below meth c H locs 0 0 (MQ below (QI D 19 ad res.1 (cfM ad cI res.2)) args s 0 0 (Ar 19 ad)) (F0 m 53 ls [])) : ∀ (n : Nat), ∀ (x1 : Int32) (x2 : Int32) (x3 : Int32) (S : Stt) (H : Heap) (locs : List Loc) (ls : Array Slot), fl_X8_row_34 ke n x1 x2 x3 S = some res → va_P D vwCl (wl 19 ad (cfM ad cI S)) H → va_S (Ar 19 ad) s.heap H locs → lv_has ls 4 [(0, .ref (ad 0)), (1, .int x1), (2, .int x2), (3, .int x3)] → W p l e (rmD 3) s m args below meth c H locs 0 0 (MQ below (QI D 19 ad res.1 (cfM ad cI res.2)) args s 0 0 (Ar 19 ad)) (F0 m 34 ls []) := by
  intro n
  induction n with
  | zero =>
    intro x1 x2 x3 S H locs ls hf hP hS hl
    cases hf
  | succ n ih =>
    intro x1 x2 x3 S H locs ls hf hP hS hl
    exact vb_X8_row_34 X hr hlk _ ke ih hke x1 x2 x3 S H locs ls hf  hP hS hl
end
set_option maxHeartbeats 4000000 in
set_option maxRecDepth 100000 in
theorem m_X8_row {l : Launch} {D : va_G} {cI cP cB cA : ClassId} {ad : Nat → Nat} {tL tC : Nat} {x1 : Int32} {x2 : Int32} {S : Stt} {res : Int32 × Stt} (hf : f_X8_row x1 x2 S = some res) : Ct l D cI cP cB cA 19 ad tL tC yX8_row cX8_row 4 (some .int) 3 [.ref (ad 0), .int x1, .int x2] (cfM ad cI S) (QI D 19 ad res.1 (cfM ad cI res.2)) := by
  refine ctOf (by decide) (Nat.le_of_ble_eq_true rfl) ?_
  intro p e s m args below meth c ls X hr hlk hP hl
  have hS : va_S (Ar 19 ad) s.heap s.heap [] := va_S.rf
  have hx := X.1.1
  have hb := X.1.2.1
  have hl : lv_has ls 4 [(0, .ref (ad 0)), (1, .int x1), (2, .int x2)] := hl
  unfold f_X8_row at hf
  refine lv_iload_n hx hb dX8_row_0 rfl (lv_at hl 1 rfl) ?_
  obtain ⟨q1, e2, hf⟩ := bind_some hf
  refine aftI hS (cS (rest := []) X hP hS [.int x1] (m_X8_isRow  e2) cw_X8_isRow tw_287 tw_545 (fits9 (by first | decide | omega) (by decide)) rfl rfl hl.1 (Nat.le_of_ble_eq_true rfl) dX8_row_1 ⟨Nat.zero_le _, Nat.zero_le _⟩) (fun H locs hP hS => ?_)
  refine lv_if_eq (tgt := 13) hx hb dX8_row_4 (by decide) (fun c3 => ?_) (fun c3 => ?_)
  · rw [if_pos c3] at hf
    refine lv_iconst (v := (-1 : Int32)) hx hb dX8_row_13 (by decide) ?_
    cases hf
    exact rtI X hr hlk hP hS dX8_row_14
  · rw [if_neg c3] at hf
    refine lv_iload_n hx hb dX8_row_7 rfl (lv_at hl 2 rfl) ?_
    refine lv_bipush (v := (40 : Int32)) hx hb dX8_row_8 (by decide) ?_
    refine lv_icmp_le (tgt := 15) hx hb dX8_row_10 (by decide) (fun c4 => ?_) (fun c4 => ?_)
    · rw [if_pos c4] at hf
      refine lv_iload_n hx hb dX8_row_15 rfl (lv_at hl 2 rfl) ?_
      refine lv_if_ge (tgt := 25) hx hb dX8_row_16 (by decide) (fun c5 => ?_) (fun c5 => ?_)
      · rw [if_pos c5] at hf
        refine lv_aload_n hx hb dX8_row_25 rfl (lv_at hl 0 rfl) ?_
        refine g_M_sizes X hP  tw_81 dX8_row_26 ?_
        refine lv_iload_n hx hb dX8_row_29 rfl (lv_at hl 1 rfl) ?_
        refine lv_iload_n hx hb dX8_row_30 rfl (lv_at hl 2 rfl) ?_
        obtain ⟨g6, hf⟩ := grd_some hf
        refine w_m_sizes X hP hS  g6 dX8_row_31 (fun H locs hP hS => ?_)
        refine lv_iconst (v := (0 : Int32)) hx hb dX8_row_32 (by decide) ?_
        refine lv_istore_n (lv' := [(3, .int (0 : Int32)), (0, .ref (ad 0)), (1, .int x1), (2, .int x2)]) hx hb dX8_row_33 rfl hl (by decide) rfl (fun ls hl => ?_)
        refine vl_X8_row_34 X hr hlk _ ?_ 300 _ _ _ _ _ _ ls hf  hP hS (lv_sub hl [1, 2, 3, 0] rfl)
        intro x2 S H locs ls hf hP hS hl
        refine lv_iload_n hx hb dX8_row_53 rfl (lv_at hl 0 rfl) ?_
        cases hf
        exact rtI X hr hlk hP hS dX8_row_54
      · rw [if_neg c5] at hf
        refine lv_aload_n hx hb dX8_row_19 rfl (lv_at hl 0 rfl) ?_
        refine lv_iconst (v := (5 : Int32)) hx hb dX8_row_20 (by decide) ?_
        obtain ⟨q10, e11, hf⟩ := bind_some hf
        refine aftI hS (cV (rest := []) X hP hS [.int (5 : Int32)] (m_X8_meet  e11) cw_X8_meet tw_289 tw_547 tw_762 (by decide) (cf_M ) rfl (fits9 (by first | decide | omega) (by decide)) rfl rfl hl.1 (Nat.le_of_ble_eq_true rfl) dX8_row_21 ⟨Nat.zero_le _, Nat.zero_le _⟩) (fun H locs hP hS => ?_)
        cases hf
        exact rtI X hr hlk hP hS dX8_row_24
    · rw [if_neg c4] at hf
      refine lv_iconst (v := (-1 : Int32)) hx hb dX8_row_13 (by decide) ?_
      cases hf
      exact rtI X hr hlk hP hS dX8_row_14
/-! X8_swap -/
section
variable {p : Program} {l : Launch} {e : Env} {s : State} {m : MethodId} {args : Array Value} {below : List Frame} {meth : Method} {c : Code}
variable {D : va_G} {cI cP cB cA : ClassId} {ad : Nat → Nat} {tL tC : Nat}
end
set_option maxHeartbeats 4000000 in
set_option maxRecDepth 100000 in
theorem m_X8_swap {l : Launch} {D : va_G} {cI cP cB cA : ClassId} {ad : Nat → Nat} {tL tC : Nat} {x1 : Int32} {x2 : Int32} {S : Stt} {res : Int32 × Stt} (hf : f_X8_swap x1 x2 S = some res) : Ct l D cI cP cB cA 19 ad tL tC yX8_swap cX8_swap 4 (some .int) 3 [.ref (ad 0), .int x1, .int x2] (cfM ad cI S) (QI D 19 ad res.1 (cfM ad cI res.2)) := by
  refine ctOf (by decide) (Nat.le_of_ble_eq_true rfl) ?_
  intro p e s m args below meth c ls X hr hlk hP hl
  have hS : va_S (Ar 19 ad) s.heap s.heap [] := va_S.rf
  have hx := X.1.1
  have hb := X.1.2.1
  have hl : lv_has ls 4 [(0, .ref (ad 0)), (1, .int x1), (2, .int x2)] := hl
  unfold f_X8_swap at hf
  refine lv_aload_n hx hb dX8_swap_0 rfl (lv_at hl 0 rfl) ?_
  refine lv_iload_n hx hb dX8_swap_1 rfl (lv_at hl 1 rfl) ?_
  obtain ⟨q1, e2, hf⟩ := bind_some hf
  refine aftI hS (cV (rest := []) X hP hS [.int x1] (m_X8_isPage  e2) cw_X8_isPage tw_314 tw_571 tw_783 (by decide) (cf_M ) rfl (fits9 (by first | decide | omega) (by decide)) rfl rfl hl.1 (Nat.le_of_ble_eq_true rfl) dX8_swap_2 ⟨Nat.zero_le _, Nat.zero_le _⟩) (fun H locs hP hS => ?_)
  refine lv_if_eq (tgt := 16) hx hb dX8_swap_5 (by decide) (fun c3 => ?_) (fun c3 => ?_)
  · rw [if_pos c3] at hf
    refine lv_iconst (v := (-1 : Int32)) hx hb dX8_swap_16 (by decide) ?_
    cases hf
    exact rtI X hr hlk hP hS dX8_swap_17
  · rw [if_neg c3] at hf
    refine lv_aload_n hx hb dX8_swap_8 rfl (lv_at hl 0 rfl) ?_
    refine lv_iload_n hx hb dX8_swap_9 rfl (lv_at hl 2 rfl) ?_
    obtain ⟨q4, e5, hf⟩ := bind_some hf
    refine aftI hS (cV (rest := []) X hP hS [.int x2] (m_X8_isPage  e5) cw_X8_isPage tw_314 tw_571 tw_783 (by decide) (cf_M ) rfl (fits9 (by first | decide | omega) (by decide)) rfl rfl hl.1 (Nat.le_of_ble_eq_true rfl) dX8_swap_10 ⟨Nat.zero_le _, Nat.zero_le _⟩) (fun H locs hP hS => ?_)
    refine lv_if_ne (tgt := 18) hx hb dX8_swap_13 (by decide) (fun c6 => ?_) (fun c6 => ?_)
    · rw [if_neg c6] at hf
      refine lv_aload_n hx hb dX8_swap_18 rfl (lv_at hl 0 rfl) ?_
      refine g_M_days X hP  tw_92 dX8_swap_19 ?_
      refine lv_iload_n hx hb dX8_swap_22 rfl (lv_at hl 1 rfl) ?_
      obtain ⟨g7, hf⟩ := grd_some hf
      refine r_m_days X hP  g7 dX8_swap_23 ?_
      refine lv_istore_n (lv' := [(3, .int (q4.2.1 12 0 x1.toNatClampNeg)), (0, .ref (ad 0)), (1, .int x1), (2, .int x2)]) hx hb dX8_swap_24 rfl hl (by decide) rfl (fun ls hl => ?_)
      refine lv_aload_n hx hb dX8_swap_25 rfl (lv_at hl 1 rfl) ?_
      refine g_M_days X hP  tw_92 dX8_swap_26 ?_
      refine lv_iload_n hx hb dX8_swap_29 rfl (lv_at hl 2 rfl) ?_
      refine lv_aload_n hx hb dX8_swap_30 rfl (lv_at hl 1 rfl) ?_
      refine g_M_days X hP  tw_92 dX8_swap_31 ?_
      refine lv_iload_n hx hb dX8_swap_34 rfl (lv_at hl 3 rfl) ?_
      obtain ⟨g8, hf⟩ := grd_some hf
      refine r_m_days X hP  g8 dX8_swap_35 ?_
      obtain ⟨g9, hf⟩ := grd_some hf
      refine w_m_days X hP hS  g9 dX8_swap_36 (fun H locs hP hS => ?_)
      refine lv_aload_n hx hb dX8_swap_37 rfl (lv_at hl 1 rfl) ?_
      refine g_M_days X hP  tw_92 dX8_swap_38 ?_
      refine lv_iload_n hx hb dX8_swap_41 rfl (lv_at hl 3 rfl) ?_
      refine lv_iload_n hx hb dX8_swap_42 rfl (lv_at hl 0 rfl) ?_
      obtain ⟨g10, hf⟩ := grd_some hf
      refine w_m_days X hP hS  g10 dX8_swap_43 (fun H locs hP hS => ?_)
      refine lv_aload_n hx hb dX8_swap_44 rfl (lv_at hl 1 rfl) ?_
      refine g_M_days X hP  tw_92 dX8_swap_45 ?_
      refine lv_iload_n hx hb dX8_swap_48 rfl (lv_at hl 2 rfl) ?_
      obtain ⟨g11, hf⟩ := grd_some hf
      refine r_m_days X hP  g11 dX8_swap_49 ?_
      cases hf
      exact rtI X hr hlk hP hS dX8_swap_50
    · rw [if_pos c6] at hf
      refine lv_iconst (v := (-1 : Int32)) hx hb dX8_swap_16 (by decide) ?_
      cases hf
      exact rtI X hr hlk hP hS dX8_swap_17
/-! X8_text -/
section
variable {p : Program} {l : Launch} {e : Env} {s : State} {m : MethodId} {args : Array Value} {below : List Frame} {meth : Method} {c : Code}
variable {D : va_G} {cI cP cB cA : ClassId} {ad : Nat → Nat} {tL tC : Nat}
set_option maxHeartbeats 4000000 in
set_option maxRecDepth 100000 in
theorem vb_X8_text_34 (X : Cx D cI cP cB cA 19 ad tL tC p s m c cX8_text 4 args RX8) (hr : meth.sig.returnType = (some .int)) (hlk : meth.locks = false) {res : Int32 × Stt} (kb : Int32 → Int32 → Int32 → Stt → Option (Int32 × Stt)) (ke : Int32 → Stt → Option (Int32 × Stt)) (hkb : ∀ (x1 : Int32) (x2 : Int32) (x3 : Int32) (S : Stt) (H : Heap) (locs : List Loc) (ls : Array Slot), kb x1 x2 x3 S = some res → va_P D vwCl (wl 19 ad (cfM ad cI S)) H → va_S (Ar 19 ad) s.heap H locs → lv_has ls 4 [(0, .ref (ad 0)), (1, .int x1), (2, .int x2), (3, .int x3)] → W p l e (rmD 3) s m args below meth c H locs 0 0 (MQ below (QI D 19 ad res.1 (cfM ad cI res.2)) args s 0 0 (Ar 19 ad)) (F0 m 34 ls [])) (hke : ∀ (x2 : Int32) (S : Stt) (H : Heap) (locs : List Loc) (ls : Array Slot), ke x2 S = some res → va_P D vwCl (wl 19 ad (cfM ad cI S)) H → va_S (Ar 19 ad) s.heap H locs → lv_has ls 4 [(2, .int x2)] → W p l e (rmD 3) s m args below meth c H locs 0 0 (MQ below (QI D 19 ad res.1 (cfM ad cI res.2)) args s 0 0 (Ar 19 ad)) (F0 m 59 ls [])) : ∀ (x1 : Int32) (x2 : Int32) (x3 : Int32) (S : Stt) (H : Heap) (locs : List Loc) (ls : Array Slot), fb_X8_text_34 kb ke x1 x2 x3 S = some res → va_P D vwCl (wl 19 ad (cfM ad cI S)) H → va_S (Ar 19 ad) s.heap H locs → lv_has ls 4 [(0, .ref (ad 0)), (1, .int x1), (2, .int x2), (3, .int x3)] → W p l e (rmD 3) s m args below meth c H locs 0 0 (MQ below (QI D 19 ad res.1 (cfM ad cI res.2)) args s 0 0 (Ar 19 ad)) (F0 m 34 ls []) := by
  intro x1 x2 x3 S H locs ls hf hP hS hl
  have hx := X.1.1
  have hb := X.1.2.1
  unfold fb_X8_text_34 at hf
  refine lv_iload_n hx hb dX8_text_34 rfl (lv_at hl 3 rfl) ?_
  refine lv_bipush (v := (80 : Int32)) hx hb dX8_text_35 (by decide) ?_
  refine lv_icmp_ge (tgt := 59) hx hb dX8_text_37 (by decide) (fun c7 => ?_) (fun c7 => ?_)
  · rw [if_pos c7] at hf
    exact hke _ _ _ _ ls hf  hP hS (lv_sub hl [2] rfl)
  · rw [if_neg c7] at hf
    refine lv_aload_n hx hb dX8_text_40 rfl (lv_at hl 0 rfl) ?_
    refine g_M_texts X hP  tw_85 dX8_text_41 ?_
    refine lv_bipush (v := (80 : Int32)) hx hb dX8_text_44 (by decide) ?_
    refine lv_iload_n hx hb dX8_text_46 rfl (lv_at hl 1 rfl) ?_
    refine lv_imul hx hb dX8_text_47 ?_
    refine lv_iload_n hx hb dX8_text_48 rfl (lv_at hl 3 rfl) ?_
    refine lv_iadd hx hb dX8_text_49 ?_
    refine lv_bipush (v := (32 : Int32)) hx hb dX8_text_50 (by decide) ?_
    obtain ⟨g8, hf⟩ := grd_some hf
    refine w_m_texts X hP hS  g8 dX8_text_52 (fun H locs hP hS => ?_)
    refine lv_iinc (v := (x3 + (1 : Int32))) (lv' := [(3, .int (x3 + (1 : Int32))), (0, .ref (ad 0)), (1, .int x1), (2, .int x2)]) hx hb dX8_text_53 hl (k := 3) rfl rfl (by decide) rfl (fun ls hl => ?_)
    refine lv_goto (tgt := 34) hx hb dX8_text_56 (by decide) ?_
    exact hkb _ _ _ _ _ _ ls hf  hP hS (lv_sub hl [1, 2, 3, 0] rfl)
set_option maxHeartbeats 4000000 in
set_option maxRecDepth 100000 in
theorem vl_X8_text_34 (X : Cx D cI cP cB cA 19 ad tL tC p s m c cX8_text 4 args RX8) (hr : meth.sig.returnType = (some .int)) (hlk : meth.locks = false) {res : Int32 × Stt} (ke : Int32 → Stt → Option (Int32 × Stt)) (hke : ∀ (x2 : Int32) (S : Stt) (H : Heap) (locs : List Loc) (ls : Array Slot), ke x2 S = some res → va_P D vwCl (wl 19 ad (cfM ad cI S)) H → va_S (Ar 19 ad) s.heap H locs → lv_has ls 4 [(2, .int x2)] → W p l e (rmD 3) s m args below meth c H locs 0 0 (MQ below (QI D 19 ad res.1 (cfM ad cI res.2)) args s 0 0 (Ar 19 ad)) (F0 m 59 ls [])) : ∀ (n : Nat), ∀ (x1 : Int32) (x2 : Int32) (x3 : Int32) (S : Stt) (H : Heap) (locs : List Loc) (ls : Array Slot), fl_X8_text_34 ke n x1 x2 x3 S = some res → va_P D vwCl (wl 19 ad (cfM ad cI S)) H → va_S (Ar 19 ad) s.heap H locs → lv_has ls 4 [(0, .ref (ad 0)), (1, .int x1), (2, .int x2), (3, .int x3)] → W p l e (rmD 3) s m args below meth c H locs 0 0 (MQ below (QI D 19 ad res.1 (cfM ad cI res.2)) args s 0 0 (Ar 19 ad)) (F0 m 34 ls []) := by
  intro n
  induction n with
  | zero =>
    intro x1 x2 x3 S H locs ls hf hP hS hl
    cases hf
  | succ n ih =>
    intro x1 x2 x3 S H locs ls hf hP hS hl
    exact vb_X8_text_34 X hr hlk _ ke ih hke x1 x2 x3 S H locs ls hf  hP hS hl
end
set_option maxHeartbeats 4000000 in
set_option maxRecDepth 100000 in
theorem m_X8_text {l : Launch} {D : va_G} {cI cP cB cA : ClassId} {ad : Nat → Nat} {tL tC : Nat} {x1 : Int32} {x2 : Int32} {S : Stt} {res : Int32 × Stt} (hf : f_X8_text x1 x2 S = some res) : Ct l D cI cP cB cA 19 ad tL tC yX8_text cX8_text 4 (some .int) 3 [.ref (ad 0), .int x1, .int x2] (cfM ad cI S) (QI D 19 ad res.1 (cfM ad cI res.2)) := by
  refine ctOf (by decide) (Nat.le_of_ble_eq_true rfl) ?_
  intro p e s m args below meth c ls X hr hlk hP hl
  have hS : va_S (Ar 19 ad) s.heap s.heap [] := va_S.rf
  have hx := X.1.1
  have hb := X.1.2.1
  have hl : lv_has ls 4 [(0, .ref (ad 0)), (1, .int x1), (2, .int x2)] := hl
  unfold f_X8_text at hf
  refine lv_iload_n hx hb dX8_text_0 rfl (lv_at hl 1 rfl) ?_
  obtain ⟨q1, e2, hf⟩ := bind_some hf
  refine aftI hS (cS (rest := []) X hP hS [.int x1] (m_X8_isText  e2) cw_X8_isText tw_301 tw_558 (fits9 (by first | decide | omega) (by decide)) rfl rfl hl.1 (Nat.le_of_ble_eq_true rfl) dX8_text_1 ⟨Nat.zero_le _, Nat.zero_le _⟩) (fun H locs hP hS => ?_)
  refine lv_if_eq (tgt := 13) hx hb dX8_text_4 (by decide) (fun c3 => ?_) (fun c3 => ?_)
  · rw [if_pos c3] at hf
    refine lv_iconst (v := (-1 : Int32)) hx hb dX8_text_13 (by decide) ?_
    cases hf
    exact rtI X hr hlk hP hS dX8_text_14
  · rw [if_neg c3] at hf
    refine lv_iload_n hx hb dX8_text_7 rfl (lv_at hl 2 rfl) ?_
    refine lv_bipush (v := (80 : Int32)) hx hb dX8_text_8 (by decide) ?_
    refine lv_icmp_le (tgt := 15) hx hb dX8_text_10 (by decide) (fun c4 => ?_) (fun c4 => ?_)
    · rw [if_pos c4] at hf
      refine lv_iload_n hx hb dX8_text_15 rfl (lv_at hl 2 rfl) ?_
      refine lv_if_ge (tgt := 25) hx hb dX8_text_16 (by decide) (fun c5 => ?_) (fun c5 => ?_)
      · rw [if_pos c5] at hf
        refine lv_aload_n hx hb dX8_text_25 rfl (lv_at hl 0 rfl) ?_
        refine g_M_lengths X hP  tw_84 dX8_text_26 ?_
        refine lv_iload_n hx hb dX8_text_29 rfl (lv_at hl 1 rfl) ?_
        refine lv_iload_n hx hb dX8_text_30 rfl (lv_at hl 2 rfl) ?_
        obtain ⟨g6, hf⟩ := grd_some hf
        refine w_m_lengths X hP hS  g6 dX8_text_31 (fun H locs hP hS => ?_)
        refine lv_iconst (v := (0 : Int32)) hx hb dX8_text_32 (by decide) ?_
        refine lv_istore_n (lv' := [(3, .int (0 : Int32)), (0, .ref (ad 0)), (1, .int x1), (2, .int x2)]) hx hb dX8_text_33 rfl hl (by decide) rfl (fun ls hl => ?_)
        refine vl_X8_text_34 X hr hlk _ ?_ 300 _ _ _ _ _ _ ls hf  hP hS (lv_sub hl [1, 2, 3, 0] rfl)
        intro x2 S H locs ls hf hP hS hl
        refine lv_iload_n hx hb dX8_text_59 rfl (lv_at hl 0 rfl) ?_
        cases hf
        exact rtI X hr hlk hP hS dX8_text_60
      · rw [if_neg c5] at hf
        refine lv_aload_n hx hb dX8_text_19 rfl (lv_at hl 0 rfl) ?_
        refine lv_iconst (v := (5 : Int32)) hx hb dX8_text_20 (by decide) ?_
        obtain ⟨q9, e10, hf⟩ := bind_some hf
        refine aftI hS (cV (rest := []) X hP hS [.int (5 : Int32)] (m_X8_meet  e10) cw_X8_meet tw_289 tw_547 tw_762 (by decide) (cf_M ) rfl (fits9 (by first | decide | omega) (by decide)) rfl rfl hl.1 (Nat.le_of_ble_eq_true rfl) dX8_text_21 ⟨Nat.zero_le _, Nat.zero_le _⟩) (fun H locs hP hS => ?_)
        cases hf
        exact rtI X hr hlk hP hS dX8_text_24
    · rw [if_neg c4] at hf
      refine lv_iconst (v := (-1 : Int32)) hx hb dX8_text_13 (by decide) ?_
      cases hf
      exact rtI X hr hlk hP hS dX8_text_14
/-! X0_append -/
section
variable {p : Program} {l : Launch} {e : Env} {s : State} {m : MethodId} {args : Array Value} {below : List Frame} {meth : Method} {c : Code}
variable {D : va_G} {cI cP cB cA : ClassId} {ad : Nat → Nat} {tL tC : Nat}
end
set_option maxHeartbeats 4000000 in
set_option maxRecDepth 100000 in
theorem m_X0_append {l : Launch} {D : va_G} {cI cP cB cA : ClassId} {ad : Nat → Nat} {tL tC : Nat} {b0 : Nat} {x1 : Int32} {x2 : Int32} {x3 : Int32} {x4 : Int32} {x5 : Int32} (hb_0_0 : b0 < 5) {S : Stt} {res : Stt} (hf : f_X0_append b0 x1 x2 x3 x4 x5 S = some res) : Ct l D cI cP cB cA 79 ad tL tC yX0_append cX0_append 7 none 4 [.ref (ad (34 + b0)), .int x1, .int x2, .int x3, .int x4, .int x5] (cfC ad cI cP cB cA S) (QV D 79 ad (cfC ad cI cP cB cA res)) := by
  refine ctOf (by decide) (Nat.le_of_ble_eq_true rfl) ?_
  intro p e s m args below meth c ls X hr hlk hP hl
  have hS : va_S (Ar 79 ad) s.heap s.heap [] := va_S.rf
  have hx := X.1.1
  have hb := X.1.2.1
  have hl : lv_has ls 7 [(0, .ref (ad (34 + b0))), (1, .int x1), (2, .int x2), (3, .int x3), (4, .int x4), (5, .int x5)] := hl
  unfold f_X0_append at hf
  refine lv_aload_n hx hb dX0_append_0 rfl (lv_at hl 0 rfl) ?_
  refine g_Book_count X hP hb_0_0 tw_24 dX0_append_1 ?_
  refine lv_bipush (v := (6 : Int32)) hx hb dX0_append_4 (by decide) ?_
  refine lv_icmp_lt (tgt := 10) hx hb dX0_append_6 (by decide) (fun c1 => ?_) (fun c1 => ?_)
  · rw [if_pos c1] at hf
    refine lv_aload_n hx hb dX0_append_10 rfl (lv_at hl 0 rfl) ?_
    refine g_Book_pages X hP hb_0_0 tw_20 dX0_append_11 ?_
    refine lv_aload_n hx hb dX0_append_14 rfl (lv_at hl 0 rfl) ?_
    refine g_Book_count X hP hb_0_0 tw_24 dX0_append_15 ?_
    obtain ⟨g2, hf⟩ := grd_some hf
    refine q_pages X hP hb_0_0 g2 dX0_append_18 ?_
    refine lv_astore (lv' := [(6, .ref (ad (49 + 6 * b0 + (S.1 17 b0 0).toNatClampNeg))), (0, .ref (ad (34 + b0))), (1, .int x1), (2, .int x2), (3, .int x3), (4, .int x4), (5, .int x5)]) hx hb dX0_append_19 hl (by decide) rfl (fun ls hl => ?_)
    refine lv_aload hx hb dX0_append_21 (lv_at hl 0 rfl) ?_
    refine lv_iload_n hx hb dX0_append_23 rfl (lv_at hl 2 rfl) ?_
    refine pN_Page_kind X hP hS hb_0_0 (ixb_lt g2) tw_3 dX0_append_24 (fun H locs hP hS => ?_)
    refine lv_aload hx hb dX0_append_27 (lv_at hl 0 rfl) ?_
    refine lv_iload_n hx hb dX0_append_29 rfl (lv_at hl 3 rfl) ?_
    refine pN_Page_points X hP hS hb_0_0 (ixb_lt g2) tw_6 dX0_append_30 (fun H locs hP hS => ?_)
    refine lv_aload hx hb dX0_append_33 (lv_at hl 0 rfl) ?_
    refine lv_iload_n hx hb dX0_append_35 rfl (lv_at hl 4 rfl) ?_
    refine pN_Page_verdict X hP hS hb_0_0 (ixb_lt g2) tw_8 dX0_append_36 (fun H locs hP hS => ?_)
    refine lv_aload hx hb dX0_append_39 (lv_at hl 0 rfl) ?_
    refine lv_iload hx hb dX0_append_41 (lv_at hl 5 rfl) ?_
    obtain ⟨q3, e4, hf⟩ := bind_some hf
    refine aftV hS (cV (rest := []) X hP hS [.int x4] (m_X3_putWords hb_0_0 (ixb_lt g2) e4) cw_X3_putWords tw_155 tw_434 tw_677 (pg_lt hb_0_0 (ixb_lt g2)) (cf_Page hb_0_0 (ixb_lt g2)) rfl (fits9 (by first | decide | omega) (by decide)) rfl rfl hl.1 (Nat.le_of_ble_eq_true rfl) dX0_append_43 ⟨Nat.zero_le _, Nat.zero_le _⟩) (fun H locs hP hS => ?_)
    refine lv_aload hx hb dX0_append_46 (lv_at hl 0 rfl) ?_
    refine lv_iload hx hb dX0_append_48 (lv_at hl 6 rfl) ?_
    refine pN_Page_fact X hP hS hb_0_0 (ixb_lt g2) tw_14 dX0_append_50 (fun H locs hP hS => ?_)
    refine lv_aload hx hb dX0_append_53 (lv_at hl 0 rfl) ?_
    refine lv_aload_n hx hb dX0_append_55 rfl (lv_at hl 1 rfl) ?_
    refine g_Book_count X hP hb_0_0 tw_24 dX0_append_56 ?_
    refine pN_Page_day X hP hS hb_0_0 (ixb_lt g2) tw_17 dX0_append_59 (fun H locs hP hS => ?_)
    refine lv_aload_n hx hb dX0_append_62 rfl (lv_at hl 1 rfl) ?_
    refine lv_dup hx hb dX0_append_63 rfl ?_
    refine g_Book_count X hP hb_0_0 tw_24 dX0_append_64 ?_
    refine lv_iconst (v := (1 : Int32)) hx hb dX0_append_67 (by decide) ?_
    refine lv_iadd hx hb dX0_append_68 ?_
    refine p_Book_count X hP hS hb_0_0 tw_24 dX0_append_69 (fun H locs hP hS => ?_)
    refine lv_aload_n hx hb dX0_append_72 rfl (lv_at hl 1 rfl) ?_
    obtain ⟨q5, e6, hf⟩ := bind_some hf
    refine aftV hS (cV (rest := []) X hP hS [] (m_X0_rank hb_0_0 e6) cw_X0_rank tw_157 tw_436 tw_653 (bk_lt hb_0_0) (cf_Book hb_0_0) rfl (fits9 (by first | decide | omega) (by decide)) rfl rfl hl.1 (Nat.le_of_ble_eq_true rfl) dX0_append_73 ⟨Nat.zero_le _, Nat.zero_le _⟩) (fun H locs hP hS => ?_)
    cases hf
    exact rtV X hr hlk hP hS dX0_append_76
  · rw [if_neg c1] at hf
    cases hf
    exact rtV X hr hlk hP hS dX0_append_9
/-! X0_changeKind -/
section
variable {p : Program} {l : Launch} {e : Env} {s : State} {m : MethodId} {args : Array Value} {below : List Frame} {meth : Method} {c : Code}
variable {D : va_G} {cI cP cB cA : ClassId} {ad : Nat → Nat} {tL tC : Nat}
end
set_option maxHeartbeats 4000000 in
set_option maxRecDepth 100000 in
theorem m_X0_changeKind {l : Launch} {D : va_G} {cI cP cB cA : ClassId} {ad : Nat → Nat} {tL tC : Nat} {b0 : Nat} {x1 : Int32} {x2 : Int32} (hb_0_0 : b0 < 5) {S : Stt} {res : Stt} (hf : f_X0_changeKind b0 x1 x2 S = some res) : Ct l D cI cP cB cA 79 ad tL tC yX0_changeKind cX0_changeKind 3 none 4 [.ref (ad (34 + b0)), .int x1, .int x2] (cfC ad cI cP cB cA S) (QV D 79 ad (cfC ad cI cP cB cA res)) := by
  refine ctOf (by decide) (Nat.le_of_ble_eq_true rfl) ?_
  intro p e s m args below meth c ls X hr hlk hP hl
  have hS : va_S (Ar 79 ad) s.heap s.heap [] := va_S.rf
  have hx := X.1.1
  have hb := X.1.2.1
  have hl : lv_has ls 3 [(0, .ref (ad (34 + b0))), (1, .int x1), (2, .int x2)] := hl
  unfold f_X0_changeKind at hf
  refine lv_aload_n hx hb dX0_changeKind_0 rfl (lv_at hl 0 rfl) ?_
  refine lv_iload_n hx hb dX0_changeKind_1 rfl (lv_at hl 1 rfl) ?_
  obtain ⟨q1, e2, hf⟩ := bind_some hf
  refine aftI hS (cV (rest := []) X hP hS [.int x1] (m_X0_isOne hb_0_0 e2) cw_X0_isOne tw_171 tw_450 tw_644 (bk_lt hb_0_0) (cf_Book hb_0_0) rfl (fits9 (by first | decide | omega) (by decide)) rfl rfl hl.1 (Nat.le_of_ble_eq_true rfl) dX0_changeKind_2 ⟨Nat.zero_le _, Nat.zero_le _⟩) (fun H locs hP hS => ?_)
  refine lv_if_ne (tgt := 9) hx hb dX0_changeKind_5 (by decide) (fun c3 => ?_) (fun c3 => ?_)
  · rw [if_neg c3] at hf
    refine lv_aload_n hx hb dX0_changeKind_9 rfl (lv_at hl 0 rfl) ?_
    refine g_Book_pages X hP hb_0_0 tw_20 dX0_changeKind_10 ?_
    refine lv_iload_n hx hb dX0_changeKind_13 rfl (lv_at hl 1 rfl) ?_
    obtain ⟨g4, hf⟩ := grd_some hf
    refine q_pages X hP hb_0_0 g4 dX0_changeKind_14 ?_
    refine lv_iload_n hx hb dX0_changeKind_15 rfl (lv_at hl 2 rfl) ?_
    refine pN_Page_kind X hP hS hb_0_0 (ixb_lt g4) tw_3 dX0_changeKind_16 (fun H locs hP hS => ?_)
    refine lv_aload_n hx hb dX0_changeKind_19 rfl (lv_at hl 0 rfl) ?_
    obtain ⟨q5, e6, hf⟩ := bind_some hf
    refine aftV hS (cV (rest := []) X hP hS [] (m_X0_rank hb_0_0 e6) cw_X0_rank tw_157 tw_436 tw_653 (bk_lt hb_0_0) (cf_Book hb_0_0) rfl (fits9 (by first | decide | omega) (by decide)) rfl rfl hl.1 (Nat.le_of_ble_eq_true rfl) dX0_changeKind_20 ⟨Nat.zero_le _, Nat.zero_le _⟩) (fun H locs hP hS => ?_)
    cases hf
    exact rtV X hr hlk hP hS dX0_changeKind_23
  · rw [if_pos c3] at hf
    cases hf
    exact rtV X hr hlk hP hS dX0_changeKind_8
/-! X0_dropLast -/
section
variable {p : Program} {l : Launch} {e : Env} {s : State} {m : MethodId} {args : Array Value} {below : List Frame} {meth : Method} {c : Code}
variable {D : va_G} {cI cP cB cA : ClassId} {ad : Nat → Nat} {tL tC : Nat}
set_option maxHeartbeats 4000000 in
set_option maxRecDepth 100000 in
theorem vb_X0_dropLast_33 (X : Cx D cI cP cB cA 79 ad tL tC p s m c cX0_dropLast 3 args RX0) (hr : meth.sig.returnType = none) (hlk : meth.locks = false) {res : Stt} (kb : Nat → Int32 → Int32 → Stt → Option (Stt)) (ke : Nat → Stt → Option (Stt)) (hkb : ∀ (b0 : Nat) (x1 : Int32) (x2 : Int32) (S : Stt) (H : Heap) (locs : List Loc) (ls : Array Slot), kb b0 x1 x2 S = some res → b0 < 5 → va_P D vwCl (wl 79 ad (cfC ad cI cP cB cA S)) H → va_S (Ar 79 ad) s.heap H locs → lv_has ls 3 [(0, .ref (ad (34 + b0))), (1, .int x1), (2, .int x2)] → W p l e (rmD 4) s m args below meth c H locs 0 0 (MQ below (QV D 79 ad (cfC ad cI cP cB cA res)) args s 0 0 (Ar 79 ad)) (F0 m 33 ls [])) (hke : ∀ (b0 : Nat) (S : Stt) (H : Heap) (locs : List Loc) (ls : Array Slot), ke b0 S = some res → b0 < 5 → va_P D vwCl (wl 79 ad (cfC ad cI cP cB cA S)) H → va_S (Ar 79 ad) s.heap H locs → lv_has ls 3 [(0, .ref (ad (34 + b0)))] → W p l e (rmD 4) s m args below meth c H locs 0 0 (MQ below (QV D 79 ad (cfC ad cI cP cB cA res)) args s 0 0 (Ar 79 ad)) (F0 m 75 ls [])) : ∀ (b0 : Nat) (x1 : Int32) (x2 : Int32) (S : Stt) (H : Heap) (locs : List Loc) (ls : Array Slot), fb_X0_dropLast_33 kb ke b0 x1 x2 S = some res → b0 < 5 → va_P D vwCl (wl 79 ad (cfC ad cI cP cB cA S)) H → va_S (Ar 79 ad) s.heap H locs → lv_has ls 3 [(0, .ref (ad (34 + b0))), (1, .int x1), (2, .int x2)] → W p l e (rmD 4) s m args below meth c H locs 0 0 (MQ below (QV D 79 ad (cfC ad cI cP cB cA res)) args s 0 0 (Ar 79 ad)) (F0 m 33 ls []) := by
  intro b0 x1 x2 S H locs ls hf hb_0_0 hP hS hl
  have hx := X.1.1
  have hb := X.1.2.1
  unfold fb_X0_dropLast_33 at hf
  refine lv_iload_n hx hb dX0_dropLast_33 rfl (lv_at hl 2 rfl) ?_
  refine lv_aload_n hx hb dX0_dropLast_34 rfl (lv_at hl 0 rfl) ?_
  refine g_Book_count X hP hb_0_0 tw_24 dX0_dropLast_35 ?_
  refine lv_icmp_ge (tgt := 75) hx hb dX0_dropLast_38 (by decide) (fun c3 => ?_) (fun c3 => ?_)
  · rw [if_pos c3] at hf
    exact hke _ _ _ _ ls hf hb_0_0 hP hS (lv_sub hl [0] rfl)
  · rw [if_neg c3] at hf
    refine lv_aload_n hx hb dX0_dropLast_41 rfl (lv_at hl 0 rfl) ?_
    refine g_Book_pages X hP hb_0_0 tw_20 dX0_dropLast_42 ?_
    refine lv_iload_n hx hb dX0_dropLast_45 rfl (lv_at hl 2 rfl) ?_
    obtain ⟨g4, hf⟩ := grd_some hf
    refine q_pages X hP hb_0_0 g4 dX0_dropLast_46 ?_
    refine gN_Page_day X hP hb_0_0 (ixb_lt g4) tw_17 dX0_dropLast_47 ?_
    refine lv_iload_n hx hb dX0_dropLast_50 rfl (lv_at hl 1 rfl) ?_
    refine lv_icmp_le (tgt := 69) hx hb dX0_dropLast_51 (by decide) (fun c5 => ?_) (fun c5 => ?_)
    · rw [if_pos c5] at hf
      refine lv_iinc (v := (x2 + (1 : Int32))) (lv' := [(2, .int (x2 + (1 : Int32))), (0, .ref (ad (34 + b0))), (1, .int x1)]) hx hb dX0_dropLast_69 hl (k := 2) rfl rfl (by decide) rfl (fun ls hl => ?_)
      refine lv_goto (tgt := 33) hx hb dX0_dropLast_72 (by decide) ?_
      exact hkb _ _ _ _ _ _ ls hf hb_0_0 hP hS (lv_sub hl [1, 2, 0] rfl)
    · rw [if_neg c5] at hf
      refine lv_aload_n hx hb dX0_dropLast_54 rfl (lv_at hl 0 rfl) ?_
      refine g_Book_pages X hP hb_0_0 tw_20 dX0_dropLast_55 ?_
      refine lv_iload_n hx hb dX0_dropLast_58 rfl (lv_at hl 2 rfl) ?_
      obtain ⟨g6, hf⟩ := grd_some hf
      refine q_pages X hP hb_0_0 g6 dX0_dropLast_59 ?_
      refine lv_dup hx hb dX0_dropLast_60 rfl ?_
      refine gN_Page_day X hP hb_0_0 (ixb_lt g6) tw_17 dX0_dropLast_61 ?_
      refine lv_iconst (v := (1 : Int32)) hx hb dX0_dropLast_64 (by decide) ?_
      refine lv_isub hx hb dX0_dropLast_65 ?_
      refine pN_Page_day X hP hS hb_0_0 (ixb_lt g6) tw_17 dX0_dropLast_66 (fun H locs hP hS => ?_)
      refine lv_iinc (v := (x2 + (1 : Int32))) (lv' := [(2, .int (x2 + (1 : Int32))), (0, .ref (ad (34 + b0))), (1, .int x1)]) hx hb dX0_dropLast_69 hl (k := 2) rfl rfl (by decide) rfl (fun ls hl => ?_)
      refine lv_goto (tgt := 33) hx hb dX0_dropLast_72 (by decide) ?_
      exact hkb _ _ _ _ _ _ ls hf hb_0_0 hP hS (lv_sub hl [1, 2, 0] rfl)
set_option maxHeartbeats 4000000 in
set_option maxRecDepth 100000 in
theorem vl_X0_dropLast_33 (X : Cx D cI cP cB cA 79 ad tL tC p s m c cX0_dropLast 3 args RX0) (hr : meth.sig.returnType = none) (hlk : meth.locks = false) {res : Stt} (ke : Nat → Stt → Option (Stt)) (hke : ∀ (b0 : Nat) (S : Stt) (H : Heap) (locs : List Loc) (ls : Array Slot), ke b0 S = some res → b0 < 5 → va_P D vwCl (wl 79 ad (cfC ad cI cP cB cA S)) H → va_S (Ar 79 ad) s.heap H locs → lv_has ls 3 [(0, .ref (ad (34 + b0)))] → W p l e (rmD 4) s m args below meth c H locs 0 0 (MQ below (QV D 79 ad (cfC ad cI cP cB cA res)) args s 0 0 (Ar 79 ad)) (F0 m 75 ls [])) : ∀ (n : Nat), ∀ (b0 : Nat) (x1 : Int32) (x2 : Int32) (S : Stt) (H : Heap) (locs : List Loc) (ls : Array Slot), fl_X0_dropLast_33 ke n b0 x1 x2 S = some res → b0 < 5 → va_P D vwCl (wl 79 ad (cfC ad cI cP cB cA S)) H → va_S (Ar 79 ad) s.heap H locs → lv_has ls 3 [(0, .ref (ad (34 + b0))), (1, .int x1), (2, .int x2)] → W p l e (rmD 4) s m args below meth c H locs 0 0 (MQ below (QV D 79 ad (cfC ad cI cP cB cA res)) args s 0 0 (Ar 79 ad)) (F0 m 33 ls []) := by
  intro n
  induction n with
  | zero =>
    intro b0 x1 x2 S H locs ls hf hb_0_0 hP hS hl
    cases hf
  | succ n ih =>
    intro b0 x1 x2 S H locs ls hf hb_0_0 hP hS hl
    exact vb_X0_dropLast_33 X hr hlk _ ke ih hke b0 x1 x2 S H locs ls hf hb_0_0 hP hS hl
end
set_option maxHeartbeats 4000000 in
set_option maxRecDepth 100000 in
theorem m_X0_dropLast {l : Launch} {D : va_G} {cI cP cB cA : ClassId} {ad : Nat → Nat} {tL tC : Nat} {b0 : Nat} (hb_0_0 : b0 < 5) {S : Stt} {res : Stt} (hf : f_X0_dropLast b0 S = some res) : Ct l D cI cP cB cA 79 ad tL tC yX0_dropLast cX0_dropLast 3 none 4 [.ref (ad (34 + b0))] (cfC ad cI cP cB cA S) (QV D 79 ad (cfC ad cI cP cB cA res)) := by
  refine ctOf (by decide) (Nat.le_of_ble_eq_true rfl) ?_
  intro p e s m args below meth c ls X hr hlk hP hl
  have hS : va_S (Ar 79 ad) s.heap s.heap [] := va_S.rf
  have hx := X.1.1
  have hb := X.1.2.1
  have hl : lv_has ls 3 [(0, .ref (ad (34 + b0)))] := hl
  unfold f_X0_dropLast at hf
  refine lv_aload_n hx hb dX0_dropLast_0 rfl (lv_at hl 0 rfl) ?_
  refine g_Book_count X hP hb_0_0 tw_24 dX0_dropLast_1 ?_
  refine lv_if_ne (tgt := 8) hx hb dX0_dropLast_4 (by decide) (fun c1 => ?_) (fun c1 => ?_)
  · rw [if_neg c1] at hf
    refine lv_aload_n hx hb dX0_dropLast_8 rfl (lv_at hl 0 rfl) ?_
    refine lv_dup hx hb dX0_dropLast_9 rfl ?_
    refine g_Book_count X hP hb_0_0 tw_24 dX0_dropLast_10 ?_
    refine lv_iconst (v := (1 : Int32)) hx hb dX0_dropLast_13 (by decide) ?_
    refine lv_isub hx hb dX0_dropLast_14 ?_
    refine p_Book_count X hP hS hb_0_0 tw_24 dX0_dropLast_15 (fun H locs hP hS => ?_)
    refine lv_aload_n hx hb dX0_dropLast_18 rfl (lv_at hl 0 rfl) ?_
    refine g_Book_pages X hP hb_0_0 tw_20 dX0_dropLast_19 ?_
    refine lv_aload_n hx hb dX0_dropLast_22 rfl (lv_at hl 0 rfl) ?_
    refine g_Book_count X hP hb_0_0 tw_24 dX0_dropLast_23 ?_
    obtain ⟨g2, hf⟩ := grd_some hf
    refine q_pages X hP hb_0_0 g2 dX0_dropLast_26 ?_
    refine gN_Page_day X hP hb_0_0 (ixb_lt g2) tw_17 dX0_dropLast_27 ?_
    refine lv_istore_n (lv' := [(1, .int ((put S 17 b0 0 ((S.1 17 b0 0) - (1 : Int32))).1 15 b0 ((put S 17 b0 0 ((S.1 17 b0 0) - (1 : Int32))).1 17 b0 0).toNatClampNeg)), (0, .ref (ad (34 + b0)))]) hx hb dX0_dropLast_30 rfl hl (by decide) rfl (fun ls hl => ?_)
    refine lv_iconst (v := (0 : Int32)) hx hb dX0_dropLast_31 (by decide) ?_
    refine lv_istore_n (lv' := [(2, .int (0 : Int32)), (1, .int ((put S 17 b0 0 ((S.1 17 b0 0) - (1 : Int32))).1 15 b0 ((put S 17 b0 0 ((S.1 17 b0 0) - (1 : Int32))).1 17 b0 0).toNatClampNeg)), (0, .ref (ad (34 + b0)))]) hx hb dX0_dropLast_32 rfl hl (by decide) rfl (fun ls hl => ?_)
    refine vl_X0_dropLast_33 X hr hlk _ ?_ 300 _ _ _ _ _ _ ls hf hb_0_0 hP hS (lv_sub hl [2, 1, 0] rfl)
    intro b0 S H locs ls hf hb_0_0 hP hS hl
    refine lv_aload_n hx hb dX0_dropLast_75 rfl (lv_at hl 0 rfl) ?_
    obtain ⟨q7, e8, hf⟩ := bind_some hf
    refine aftV hS (cV (rest := []) X hP hS [] (m_X0_rank hb_0_0 e8) cw_X0_rank tw_157 tw_436 tw_653 (bk_lt hb_0_0) (cf_Book hb_0_0) rfl (fits9 (by first | decide | omega) (by decide)) rfl rfl hl.1 (Nat.le_of_ble_eq_true rfl) dX0_dropLast_76 ⟨Nat.zero_le _, Nat.zero_le _⟩) (fun H locs hP hS => ?_)
    cases hf
    exact rtV X hr hlk hP hS dX0_dropLast_79
  · rw [if_pos c1] at hf
    cases hf
    exact rtV X hr hlk hP hS dX0_dropLast_7
/-! X1_hear -/
section
variable {p : Program} {l : Launch} {e : Env} {s : State} {m : MethodId} {args : Array Value} {below : List Frame} {meth : Method} {c : Code}
variable {D : va_G} {cI cP cB cA : ClassId} {ad : Nat → Nat} {tL tC : Nat}
set_option maxHeartbeats 4000000 in
set_option maxRecDepth 100000 in
theorem vb_X1_hear_63 (X : Cx D cI cP cB cA 79 ad tL tC p s m c cX1_hear 8 args RX1) (hr : meth.sig.returnType = none) (hlk : meth.locks = false) {res : Stt} (kb : Nat → Int32 → Int32 → Int32 → Int32 → Int32 → Stt → Option (Stt)) (ke : Nat → Int32 → Int32 → Int32 → Int32 → Stt → Option (Stt)) (hkb : ∀ (b1 : Nat) (x3 : Int32) (x4 : Int32) (x5 : Int32) (x6 : Int32) (x7 : Int32) (S : Stt) (H : Heap) (locs : List Loc) (ls : Array Slot), kb b1 x3 x4 x5 x6 x7 S = some res → b1 < 5 → va_P D vwCl (wl 79 ad (cfC ad cI cP cB cA S)) H → va_S (Ar 79 ad) s.heap H locs → lv_has ls 8 [(0, .ref (ad 8)), (1, .ref (ad (34 + b1))), (3, .int x3), (4, .int x4), (5, .int x5), (6, .int x6), (7, .int x7)] → W p l e (rmD 4) s m args below meth c H locs 0 0 (MQ below (QV D 79 ad (cfC ad cI cP cB cA res)) args s 0 0 (Ar 79 ad)) (F0 m 63 ls [])) (hke : ∀ (b1 : Nat) (x3 : Int32) (x4 : Int32) (x5 : Int32) (x6 : Int32) (S : Stt) (H : Heap) (locs : List Loc) (ls : Array Slot), ke b1 x3 x4 x5 x6 S = some res → b1 < 5 → va_P D vwCl (wl 79 ad (cfC ad cI cP cB cA S)) H → va_S (Ar 79 ad) s.heap H locs → lv_has ls 8 [(0, .ref (ad 8)), (1, .ref (ad (34 + b1))), (3, .int x3), (4, .int x4), (5, .int x5), (6, .int x6)] → W p l e (rmD 4) s m args below meth c H locs 0 0 (MQ below (QV D 79 ad (cfC ad cI cP cB cA res)) args s 0 0 (Ar 79 ad)) (F0 m 98 ls [])) : ∀ (b1 : Nat) (x3 : Int32) (x4 : Int32) (x5 : Int32) (x6 : Int32) (x7 : Int32) (S : Stt) (H : Heap) (locs : List Loc) (ls : Array Slot), fb_X1_hear_63 kb ke b1 x3 x4 x5 x6 x7 S = some res → b1 < 5 → va_P D vwCl (wl 79 ad (cfC ad cI cP cB cA S)) H → va_S (Ar 79 ad) s.heap H locs → lv_has ls 8 [(0, .ref (ad 8)), (1, .ref (ad (34 + b1))), (3, .int x3), (4, .int x4), (5, .int x5), (6, .int x6), (7, .int x7)] → W p l e (rmD 4) s m args below meth c H locs 0 0 (MQ below (QV D 79 ad (cfC ad cI cP cB cA res)) args s 0 0 (Ar 79 ad)) (F0 m 63 ls []) := by
  intro b1 x3 x4 x5 x6 x7 S H locs ls hf hb_1_0 hP hS hl
  have hx := X.1.1
  have hb := X.1.2.1
  unfold fb_X1_hear_63 at hf
  refine lv_iload hx hb dX1_hear_63 (lv_at hl 6 rfl) ?_
  refine lv_iconst (v := (5 : Int32)) hx hb dX1_hear_65 (by decide) ?_
  refine lv_icmp_ge (tgt := 98) hx hb dX1_hear_66 (by decide) (fun c11 => ?_) (fun c11 => ?_)
  · rw [if_pos c11] at hf
    exact hke _ _ _ _ _ _ _ _ ls hf hb_1_0 hP hS (lv_sub hl [0, 1, 2, 3, 4, 5] rfl)
  · rw [if_neg c11] at hf
    refine lv_iload hx hb dX1_hear_69 (lv_at hl 4 rfl) ?_
    refine lv_iload hx hb dX1_hear_71 (lv_at hl 6 rfl) ?_
    obtain ⟨q12, e13, hf⟩ := bind_some hf
    refine aftI hS (cSN (rest := []) X hP hS [.int x5, .int x7] (m_X7_hasBit  e13) cw_X7_hasBit tw_208 tw_435 (fits9 (by first | decide | omega) (by decide)) rfl rfl hl.1 (Nat.le_of_ble_eq_true rfl) dX1_hear_73 ⟨Nat.zero_le _, Nat.zero_le _⟩) (fun H locs hP hS => ?_)
    refine lv_if_eq (tgt := 92) hx hb dX1_hear_76 (by decide) (fun c14 => ?_) (fun c14 => ?_)
    · rw [if_pos c14] at hf
      refine lv_iinc (v := (x7 + (1 : Int32))) (lv' := [(7, .int (x7 + (1 : Int32))), (0, .ref (ad 8)), (1, .ref (ad (34 + b1))), (3, .int x3), (4, .int x4), (5, .int x5), (6, .int x6)]) hx hb dX1_hear_92 hl (k := 6) rfl rfl (by decide) rfl (fun ls hl => ?_)
      refine lv_goto (tgt := 63) hx hb dX1_hear_95 (by decide) ?_
      exact hkb _ _ _ _ _ _ _ _ _ ls hf hb_1_0 hP hS (lv_sub hl [1, 2, 3, 4, 5, 6, 0] rfl)
    · rw [if_neg c14] at hf
      refine lv_aload_n hx hb dX1_hear_79 rfl (lv_at hl 0 rfl) ?_
      refine lv_aload_n hx hb dX1_hear_80 rfl (lv_at hl 1 rfl) ?_
      refine lv_iload_n hx hb dX1_hear_81 rfl (lv_at hl 2 rfl) ?_
      refine lv_iload hx hb dX1_hear_82 (lv_at hl 5 rfl) ?_
      refine lv_iload hx hb dX1_hear_84 (lv_at hl 6 rfl) ?_
      obtain ⟨q15, e16, hf⟩ := bind_some hf
      refine aftI hS (cV (rest := [.ref (ad 8)]) X hP hS [.int x3, .int x6, .int x7] (m_X0_casesOne hb_1_0 e16) cw_X0_casesOne tw_209 tw_478 tw_663 (bk_lt hb_1_0) (cf_Book hb_1_0) rfl (fits9 (by first | decide | omega) (by decide)) rfl rfl hl.1 (Nat.le_of_ble_eq_true rfl) dX1_hear_86 ⟨Nat.zero_le _, Nat.zero_le _⟩) (fun H locs hP hS => ?_)
      obtain ⟨q17, e18, hf⟩ := bind_some hf
      refine aftV hS (cV (rest := []) X hP hS [.int q15.1] (m_X1_note  e18) cw_X1_note tw_211 tw_480 tw_666 (by decide) (cf_Court ) rfl (fits9 (by first | decide | omega) (by decide)) rfl rfl hl.1 (Nat.le_of_ble_eq_true rfl) dX1_hear_89 ⟨Nat.zero_le _, Nat.zero_le _⟩) (fun H locs hP hS => ?_)
      refine lv_iinc (v := (x7 + (1 : Int32))) (lv' := [(7, .int (x7 + (1 : Int32))), (0, .ref (ad 8)), (1, .ref (ad (34 + b1))), (3, .int x3), (4, .int x4), (5, .int x5), (6, .int x6)]) hx hb dX1_hear_92 hl (k := 6) rfl rfl (by decide) rfl (fun ls hl => ?_)
      refine lv_goto (tgt := 63) hx hb dX1_hear_95 (by decide) ?_
      exact hkb _ _ _ _ _ _ _ _ _ ls hf hb_1_0 hP hS (lv_sub hl [1, 2, 3, 4, 5, 6, 0] rfl)
set_option maxHeartbeats 4000000 in
set_option maxRecDepth 100000 in
theorem vl_X1_hear_63 (X : Cx D cI cP cB cA 79 ad tL tC p s m c cX1_hear 8 args RX1) (hr : meth.sig.returnType = none) (hlk : meth.locks = false) {res : Stt} (ke : Nat → Int32 → Int32 → Int32 → Int32 → Stt → Option (Stt)) (hke : ∀ (b1 : Nat) (x3 : Int32) (x4 : Int32) (x5 : Int32) (x6 : Int32) (S : Stt) (H : Heap) (locs : List Loc) (ls : Array Slot), ke b1 x3 x4 x5 x6 S = some res → b1 < 5 → va_P D vwCl (wl 79 ad (cfC ad cI cP cB cA S)) H → va_S (Ar 79 ad) s.heap H locs → lv_has ls 8 [(0, .ref (ad 8)), (1, .ref (ad (34 + b1))), (3, .int x3), (4, .int x4), (5, .int x5), (6, .int x6)] → W p l e (rmD 4) s m args below meth c H locs 0 0 (MQ below (QV D 79 ad (cfC ad cI cP cB cA res)) args s 0 0 (Ar 79 ad)) (F0 m 98 ls [])) : ∀ (n : Nat), ∀ (b1 : Nat) (x3 : Int32) (x4 : Int32) (x5 : Int32) (x6 : Int32) (x7 : Int32) (S : Stt) (H : Heap) (locs : List Loc) (ls : Array Slot), fl_X1_hear_63 ke n b1 x3 x4 x5 x6 x7 S = some res → b1 < 5 → va_P D vwCl (wl 79 ad (cfC ad cI cP cB cA S)) H → va_S (Ar 79 ad) s.heap H locs → lv_has ls 8 [(0, .ref (ad 8)), (1, .ref (ad (34 + b1))), (3, .int x3), (4, .int x4), (5, .int x5), (6, .int x6), (7, .int x7)] → W p l e (rmD 4) s m args below meth c H locs 0 0 (MQ below (QV D 79 ad (cfC ad cI cP cB cA res)) args s 0 0 (Ar 79 ad)) (F0 m 63 ls []) := by
  intro n
  induction n with
  | zero =>
    intro b1 x3 x4 x5 x6 x7 S H locs ls hf hb_1_0 hP hS hl
    cases hf
  | succ n ih =>
    intro b1 x3 x4 x5 x6 x7 S H locs ls hf hb_1_0 hP hS hl
    exact vb_X1_hear_63 X hr hlk _ ke ih hke b1 x3 x4 x5 x6 x7 S H locs ls hf hb_1_0 hP hS hl
set_option maxHeartbeats 4000000 in
set_option maxRecDepth 100000 in
theorem vb_X1_hear_41 (X : Cx D cI cP cB cA 79 ad tL tC p s m c cX1_hear 8 args RX1) (hr : meth.sig.returnType = none) (hlk : meth.locks = false) {res : Stt} (kb : Nat → Int32 → Int32 → Int32 → Int32 → Stt → Option (Stt)) (ke : Stt → Option (Stt)) (hkb : ∀ (b1 : Nat) (x3 : Int32) (x4 : Int32) (x5 : Int32) (x6 : Int32) (S : Stt) (H : Heap) (locs : List Loc) (ls : Array Slot), kb b1 x3 x4 x5 x6 S = some res → b1 < 5 → va_P D vwCl (wl 79 ad (cfC ad cI cP cB cA S)) H → va_S (Ar 79 ad) s.heap H locs → lv_has ls 8 [(0, .ref (ad 8)), (1, .ref (ad (34 + b1))), (3, .int x3), (4, .int x4), (5, .int x5), (6, .int x6)] → W p l e (rmD 4) s m args below meth c H locs 0 0 (MQ below (QV D 79 ad (cfC ad cI cP cB cA res)) args s 0 0 (Ar 79 ad)) (F0 m 41 ls [])) (hke : ∀ (S : Stt) (H : Heap) (locs : List Loc) (ls : Array Slot), ke S = some res → va_P D vwCl (wl 79 ad (cfC ad cI cP cB cA S)) H → va_S (Ar 79 ad) s.heap H locs → lv_has ls 8 [] → W p l e (rmD 4) s m args below meth c H locs 0 0 (MQ below (QV D 79 ad (cfC ad cI cP cB cA res)) args s 0 0 (Ar 79 ad)) (F0 m 104 ls [])) : ∀ (b1 : Nat) (x3 : Int32) (x4 : Int32) (x5 : Int32) (x6 : Int32) (S : Stt) (H : Heap) (locs : List Loc) (ls : Array Slot), fb_X1_hear_41 kb ke b1 x3 x4 x5 x6 S = some res → b1 < 5 → va_P D vwCl (wl 79 ad (cfC ad cI cP cB cA S)) H → va_S (Ar 79 ad) s.heap H locs → lv_has ls 8 [(0, .ref (ad 8)), (1, .ref (ad (34 + b1))), (3, .int x3), (4, .int x4), (5, .int x5), (6, .int x6)] → W p l e (rmD 4) s m args below meth c H locs 0 0 (MQ below (QV D 79 ad (cfC ad cI cP cB cA res)) args s 0 0 (Ar 79 ad)) (F0 m 41 ls []) := by
  intro b1 x3 x4 x5 x6 S H locs ls hf hb_1_0 hP hS hl
  have hx := X.1.1
  have hb := X.1.2.1
  unfold fb_X1_hear_41 at hf
  refine lv_iload hx hb dX1_hear_41 (lv_at hl 5 rfl) ?_
  refine lv_iconst (v := (5 : Int32)) hx hb dX1_hear_43 (by decide) ?_
  refine lv_icmp_ge (tgt := 104) hx hb dX1_hear_44 (by decide) (fun c7 => ?_) (fun c7 => ?_)
  · rw [if_pos c7] at hf
    exact hke  _ _ _ ls hf  hP hS (lv_sub hl [] rfl)
  · rw [if_neg c7] at hf
    refine lv_iload hx hb dX1_hear_47 (lv_at hl 3 rfl) ?_
    refine lv_iload hx hb dX1_hear_49 (lv_at hl 5 rfl) ?_
    obtain ⟨q8, e9, hf⟩ := bind_some hf
    refine aftI hS (cSN (rest := []) X hP hS [.int x4, .int x6] (m_X7_hasBit  e9) cw_X7_hasBit tw_208 tw_435 (fits9 (by first | decide | omega) (by decide)) rfl rfl hl.1 (Nat.le_of_ble_eq_true rfl) dX1_hear_51 ⟨Nat.zero_le _, Nat.zero_le _⟩) (fun H locs hP hS => ?_)
    refine lv_if_ne (tgt := 60) hx hb dX1_hear_54 (by decide) (fun c10 => ?_) (fun c10 => ?_)
    · rw [if_neg c10] at hf
      refine lv_iconst (v := (0 : Int32)) hx hb dX1_hear_60 (by decide) ?_
      refine lv_istore (lv' := [(7, .int (0 : Int32)), (0, .ref (ad 8)), (1, .ref (ad (34 + b1))), (3, .int x3), (4, .int x4), (5, .int x5), (6, .int x6)]) hx hb dX1_hear_61 hl (by decide) rfl (fun ls hl => ?_)
      refine vl_X1_hear_63 X hr hlk _ ?_ 300 _ _ _ _ _ _ _ _ _ ls hf hb_1_0 hP hS (lv_sub hl [1, 2, 3, 4, 5, 6, 0] rfl)
      intro b1 x3 x4 x5 x6 S H locs ls hf hb_1_0 hP hS hl
      refine lv_iinc (v := (x6 + (1 : Int32))) (lv' := [(6, .int (x6 + (1 : Int32))), (0, .ref (ad 8)), (1, .ref (ad (34 + b1))), (3, .int x3), (4, .int x4), (5, .int x5)]) hx hb dX1_hear_98 hl (k := 5) rfl rfl (by decide) rfl (fun ls hl => ?_)
      refine lv_goto (tgt := 41) hx hb dX1_hear_101 (by decide) ?_
      exact hkb _ _ _ _ _ _ _ _ ls hf hb_1_0 hP hS (lv_sub hl [1, 2, 3, 4, 5, 0] rfl)
    · rw [if_pos c10] at hf
      refine lv_goto (tgt := 98) hx hb dX1_hear_57 (by decide) ?_
      refine lv_iinc (v := (x6 + (1 : Int32))) (lv' := [(6, .int (x6 + (1 : Int32))), (0, .ref (ad 8)), (1, .ref (ad (34 + b1))), (3, .int x3), (4, .int x4), (5, .int x5)]) hx hb dX1_hear_98 hl (k := 5) rfl rfl (by decide) rfl (fun ls hl => ?_)
      refine lv_goto (tgt := 41) hx hb dX1_hear_101 (by decide) ?_
      exact hkb _ _ _ _ _ _ _ _ ls hf hb_1_0 hP hS (lv_sub hl [1, 2, 3, 4, 5, 0] rfl)
set_option maxHeartbeats 4000000 in
set_option maxRecDepth 100000 in
theorem vl_X1_hear_41 (X : Cx D cI cP cB cA 79 ad tL tC p s m c cX1_hear 8 args RX1) (hr : meth.sig.returnType = none) (hlk : meth.locks = false) {res : Stt} (ke : Stt → Option (Stt)) (hke : ∀ (S : Stt) (H : Heap) (locs : List Loc) (ls : Array Slot), ke S = some res → va_P D vwCl (wl 79 ad (cfC ad cI cP cB cA S)) H → va_S (Ar 79 ad) s.heap H locs → lv_has ls 8 [] → W p l e (rmD 4) s m args below meth c H locs 0 0 (MQ below (QV D 79 ad (cfC ad cI cP cB cA res)) args s 0 0 (Ar 79 ad)) (F0 m 104 ls [])) : ∀ (n : Nat), ∀ (b1 : Nat) (x3 : Int32) (x4 : Int32) (x5 : Int32) (x6 : Int32) (S : Stt) (H : Heap) (locs : List Loc) (ls : Array Slot), fl_X1_hear_41 ke n b1 x3 x4 x5 x6 S = some res → b1 < 5 → va_P D vwCl (wl 79 ad (cfC ad cI cP cB cA S)) H → va_S (Ar 79 ad) s.heap H locs → lv_has ls 8 [(0, .ref (ad 8)), (1, .ref (ad (34 + b1))), (3, .int x3), (4, .int x4), (5, .int x5), (6, .int x6)] → W p l e (rmD 4) s m args below meth c H locs 0 0 (MQ below (QV D 79 ad (cfC ad cI cP cB cA res)) args s 0 0 (Ar 79 ad)) (F0 m 41 ls []) := by
  intro n
  induction n with
  | zero =>
    intro b1 x3 x4 x5 x6 S H locs ls hf hb_1_0 hP hS hl
    cases hf
  | succ n ih =>
    intro b1 x3 x4 x5 x6 S H locs ls hf hb_1_0 hP hS hl
    exact vb_X1_hear_41 X hr hlk _ ke ih hke b1 x3 x4 x5 x6 S H locs ls hf hb_1_0 hP hS hl
end
set_option maxHeartbeats 4000000 in
set_option maxRecDepth 100000 in
theorem m_X1_hear {l : Launch} {D : va_G} {cI cP cB cA : ClassId} {ad : Nat → Nat} {tL tC : Nat} {b1 : Nat} {x2 : Int32} (hb_1_0 : b1 < 5) {S : Stt} {res : Stt} (hf : f_X1_hear b1 x2 S = some res) : Ct l D cI cP cB cA 79 ad tL tC yX1_hear cX1_hear 8 none 4 [.ref (ad 8), .ref (ad (34 + b1)), .int x2] (cfC ad cI cP cB cA S) (QV D 79 ad (cfC ad cI cP cB cA res)) := by
  refine ctOf (by decide) (Nat.le_of_ble_eq_true rfl) ?_
  intro p e s m args below meth c ls X hr hlk hP hl
  have hS : va_S (Ar 79 ad) s.heap s.heap [] := va_S.rf
  have hx := X.1.1
  have hb := X.1.2.1
  have hl : lv_has ls 8 [(0, .ref (ad 8)), (1, .ref (ad (34 + b1))), (2, .int x2)] := hl
  unfold f_X1_hear at hf
  refine lv_aload_n hx hb dX1_hear_0 rfl (lv_at hl 1 rfl) ?_
  refine lv_iload_n hx hb dX1_hear_1 rfl (lv_at hl 2 rfl) ?_
  obtain ⟨q1, e2, hf⟩ := bind_some hf
  refine aftI hS (cV (rest := []) X hP hS [.int x2] (m_X0_bound hb_1_0 e2) cw_X0_bound tw_206 tw_469 tw_661 (bk_lt hb_1_0) (cf_Book hb_1_0) rfl (fits9 (by first | decide | omega) (by decide)) rfl rfl hl.1 (Nat.le_of_ble_eq_true rfl) dX1_hear_2 ⟨Nat.zero_le _, Nat.zero_le _⟩) (fun H locs hP hS => ?_)
  refine lv_istore_n (lv' := [(3, .int q1.1), (0, .ref (ad 8)), (1, .ref (ad (34 + b1))), (2, .int x2)]) hx hb dX1_hear_5 rfl hl (by decide) rfl (fun ls hl => ?_)
  refine lv_aload_n hx hb dX1_hear_6 rfl (lv_at hl 2 rfl) ?_
  refine lv_iconst (v := (5 : Int32)) hx hb dX1_hear_7 (by decide) ?_
  refine lv_iload_n hx hb dX1_hear_8 rfl (lv_at hl 0 rfl) ?_
  obtain ⟨q3, e4, hf⟩ := bind_some hf
  refine aftI hS (cV (rest := []) X hP hS [.int (5 : Int32), .int q1.1] (m_X0_factsFor hb_1_0 e4) cw_X0_factsFor tw_207 tw_471 tw_662 (bk_lt hb_1_0) (cf_Book hb_1_0) rfl (fits9 (by first | decide | omega) (by decide)) rfl rfl hl.1 (Nat.le_of_ble_eq_true rfl) dX1_hear_9 ⟨Nat.zero_le _, Nat.zero_le _⟩) (fun H locs hP hS => ?_)
  refine lv_istore (lv' := [(4, .int q3.1), (3, .int q1.1), (0, .ref (ad 8)), (1, .ref (ad (34 + b1))), (2, .int x2)]) hx hb dX1_hear_12 hl (by decide) rfl (fun ls hl => ?_)
  refine lv_aload_n hx hb dX1_hear_14 rfl (lv_at hl 3 rfl) ?_
  refine lv_bipush (v := (6 : Int32)) hx hb dX1_hear_15 (by decide) ?_
  refine lv_iload_n hx hb dX1_hear_17 rfl (lv_at hl 1 rfl) ?_
  obtain ⟨q5, e6, hf⟩ := bind_some hf
  refine aftI hS (cV (rest := []) X hP hS [.int (6 : Int32), .int q1.1] (m_X0_factsFor hb_1_0 e6) cw_X0_factsFor tw_207 tw_471 tw_662 (bk_lt hb_1_0) (cf_Book hb_1_0) rfl (fits9 (by first | decide | omega) (by decide)) rfl rfl hl.1 (Nat.le_of_ble_eq_true rfl) dX1_hear_18 ⟨Nat.zero_le _, Nat.zero_le _⟩) (fun H locs hP hS => ?_)
  refine lv_istore (lv' := [(5, .int q5.1), (4, .int q3.1), (3, .int q1.1), (0, .ref (ad 8)), (1, .ref (ad (34 + b1))), (2, .int x2)]) hx hb dX1_hear_21 hl (by decide) rfl (fun ls hl => ?_)
  refine lv_aload_n hx hb dX1_hear_23 rfl (lv_at hl 3 rfl) ?_
  refine lv_iconst (v := (0 : Int32)) hx hb dX1_hear_24 (by decide) ?_
  refine p_Court_heard X hP hS  tw_35 dX1_hear_25 (fun H locs hP hS => ?_)
  refine lv_aload_n hx hb dX1_hear_28 rfl (lv_at hl 3 rfl) ?_
  refine lv_iconst (v := (-1 : Int32)) hx hb dX1_hear_29 (by decide) ?_
  refine p_Court_always X hP hS  tw_37 dX1_hear_30 (fun H locs hP hS => ?_)
  refine lv_aload_n hx hb dX1_hear_33 rfl (lv_at hl 3 rfl) ?_
  refine lv_iconst (v := (0 : Int32)) hx hb dX1_hear_34 (by decide) ?_
  refine p_Court_ever X hP hS  tw_39 dX1_hear_35 (fun H locs hP hS => ?_)
  refine lv_iconst (v := (0 : Int32)) hx hb dX1_hear_38 (by decide) ?_
  refine lv_istore (lv' := [(6, .int (0 : Int32)), (5, .int q5.1), (4, .int q3.1), (3, .int q1.1), (0, .ref (ad 8)), (1, .ref (ad (34 + b1))), (2, .int x2)]) hx hb dX1_hear_39 hl (by decide) rfl (fun ls hl => ?_)
  refine vl_X1_hear_41 X hr hlk _ ?_ 300 _ _ _ _ _ _ _ _ ls hf hb_1_0 hP hS (lv_sub hl [4, 5, 3, 2, 1, 0] rfl)
  intro S H locs ls hf hP hS hl
  cases hf
  exact rtV X hr hlk hP hS dX1_hear_104
/-! X5_takeWords -/
section
variable {p : Program} {l : Launch} {e : Env} {s : State} {m : MethodId} {args : Array Value} {below : List Frame} {meth : Method} {c : Code}
variable {D : va_G} {cI cP cB cA : ClassId} {ad : Nat → Nat} {tL tC : Nat}
set_option maxHeartbeats 4000000 in
set_option maxRecDepth 100000 in
theorem vb_X5_takeWords_6 (X : Cx D cI cP cB cA 79 ad tL tC p s m c cX5_takeWords 5 args RX5) (hr : meth.sig.returnType = (some .int)) (hlk : meth.locks = false) {res : Int32 × Stt} (kb : Int32 → Int32 → Int32 → Stt → Option (Int32 × Stt)) (ke : Int32 → Stt → Option (Int32 × Stt)) (hkb : ∀ (x1 : Int32) (x2 : Int32) (x3 : Int32) (S : Stt) (H : Heap) (locs : List Loc) (ls : Array Slot), kb x1 x2 x3 S = some res → va_P D vwCl (wl 79 ad (cfC ad cI cP cB cA S)) H → va_S (Ar 79 ad) s.heap H locs → lv_has ls 5 [(0, .ref (ad 7)), (1, .int x1), (2, .int x2), (3, .int x3)] → W p l e (rmD 4) s m args below meth c H locs 0 0 (MQ below (QI D 79 ad res.1 (cfC ad cI cP cB cA res.2)) args s 0 0 (Ar 79 ad)) (F0 m 6 ls [])) (hke : ∀ (x1 : Int32) (S : Stt) (H : Heap) (locs : List Loc) (ls : Array Slot), ke x1 S = some res → va_P D vwCl (wl 79 ad (cfC ad cI cP cB cA S)) H → va_S (Ar 79 ad) s.heap H locs → lv_has ls 5 [(1, .int x1)] → W p l e (rmD 4) s m args below meth c H locs 0 0 (MQ below (QI D 79 ad res.1 (cfC ad cI cP cB cA res.2)) args s 0 0 (Ar 79 ad)) (F0 m 55 ls [])) : ∀ (x1 : Int32) (x2 : Int32) (x3 : Int32) (S : Stt) (H : Heap) (locs : List Loc) (ls : Array Slot), fb_X5_takeWords_6 kb ke x1 x2 x3 S = some res → va_P D vwCl (wl 79 ad (cfC ad cI cP cB cA S)) H → va_S (Ar 79 ad) s.heap H locs → lv_has ls 5 [(0, .ref (ad 7)), (1, .int x1), (2, .int x2), (3, .int x3)] → W p l e (rmD 4) s m args below meth c H locs 0 0 (MQ below (QI D 79 ad res.1 (cfC ad cI cP cB cA res.2)) args s 0 0 (Ar 79 ad)) (F0 m 6 ls []) := by
  intro x1 x2 x3 S H locs ls hf hP hS hl
  have hx := X.1.1
  have hb := X.1.2.1
  unfold fb_X5_takeWords_6 at hf
  refine lv_iload_n hx hb dX5_takeWords_6 rfl (lv_at hl 3 rfl) ?_
  refine lv_bipush (v := (80 : Int32)) hx hb dX5_takeWords_7 (by decide) ?_
  refine lv_icmp_ge (tgt := 55) hx hb dX5_takeWords_9 (by decide) (fun c1 => ?_) (fun c1 => ?_)
  · rw [if_pos c1] at hf
    exact hke _ _ _ _ ls hf  hP hS (lv_sub hl [1] rfl)
  · rw [if_neg c1] at hf
    refine lv_aload_n hx hb dX5_takeWords_12 rfl (lv_at hl 0 rfl) ?_
    obtain ⟨q2, e3, hf⟩ := bind_some hf
    refine aftI hS (cV (rest := []) X hP hS [] (m_X5_isAtFigure  e3) cw_X5_isAtFigure tw_162 tw_444 tw_692 (by decide) (cf_Scribe ) rfl (fits9 (by first | decide | omega) (by decide)) rfl rfl hl.1 (Nat.le_of_ble_eq_true rfl) dX5_takeWords_13 ⟨Nat.zero_le _, Nat.zero_le _⟩) (fun H locs hP hS => ?_)
    refine lv_if_eq (tgt := 55) hx hb dX5_takeWords_16 (by decide) (fun c4 => ?_) (fun c4 => ?_)
    · rw [if_pos c4] at hf
      exact hke _ _ _ _ ls hf  hP hS (lv_sub hl [1] rfl)
    · rw [if_neg c4] at hf
      refine lv_aload_n hx hb dX5_takeWords_19 rfl (lv_at hl 0 rfl) ?_
      refine lv_iload_n hx hb dX5_takeWords_20 rfl (lv_at hl 2 rfl) ?_
      refine lv_bipush (v := (6 : Int32)) hx hb dX5_takeWords_21 (by decide) ?_
      obtain ⟨q5, e6, hf⟩ := bind_some hf
      refine aftI hS (cV (rest := []) X hP hS [.int x2, .int (6 : Int32)] (m_X5_takeFigure  e6) cw_X5_takeFigure tw_153 tw_432 tw_691 (by decide) (cf_Scribe ) rfl (fits9 (by first | decide | omega) (by decide)) rfl rfl hl.1 (Nat.le_of_ble_eq_true rfl) dX5_takeWords_23 ⟨Nat.zero_le _, Nat.zero_le _⟩) (fun H locs hP hS => ?_)
      refine lv_istore (lv' := [(4, .int q5.1), (0, .ref (ad 7)), (1, .int x1), (2, .int x2), (3, .int x3)]) hx hb dX5_takeWords_26 hl (by decide) rfl (fun ls hl => ?_)
      refine lv_aload_n hx hb dX5_takeWords_28 rfl (lv_at hl 1 rfl) ?_
      refine g_Scribe_stuck X hP  tw_33 dX5_takeWords_29 ?_
      refine lv_if_eq (tgt := 37) hx hb dX5_takeWords_32 (by decide) (fun c7 => ?_) (fun c7 => ?_)
      · rw [if_pos c7] at hf
        refine lv_iload_n hx hb dX5_takeWords_37 rfl (lv_at hl 2 rfl) ?_
        refine lv_iconst (v := (1 : Int32)) hx hb dX5_takeWords_38 (by decide) ?_
        refine lv_iload hx hb dX5_takeWords_39 (lv_at hl 0 rfl) ?_
        refine lv_ishl hx hb dX5_takeWords_41 ?_
        refine lv_ior hx hb dX5_takeWords_42 ?_
        refine lv_istore_n (lv' := [(1, .int (x1 ||| ((1 : Int32) <<< (q5.1 &&& 31)))), (4, .int q5.1), (0, .ref (ad 7)), (2, .int x2), (3, .int x3)]) hx hb dX5_takeWords_43 rfl hl (by decide) rfl (fun ls hl => ?_)
        refine lv_iload hx hb dX5_takeWords_44 (lv_at hl 1 rfl) ?_
        refine lv_iconst (v := (1 : Int32)) hx hb dX5_takeWords_46 (by decide) ?_
        refine lv_iadd hx hb dX5_takeWords_47 ?_
        refine lv_istore_n (lv' := [(2, .int (q5.1 + (1 : Int32))), (1, .int (x1 ||| ((1 : Int32) <<< (q5.1 &&& 31)))), (4, .int q5.1), (0, .ref (ad 7)), (3, .int x3)]) hx hb dX5_takeWords_48 rfl hl (by decide) rfl (fun ls hl => ?_)
        refine lv_iinc (v := (x3 + (1 : Int32))) (lv' := [(3, .int (x3 + (1 : Int32))), (2, .int (q5.1 + (1 : Int32))), (1, .int (x1 ||| ((1 : Int32) <<< (q5.1 &&& 31)))), (4, .int q5.1), (0, .ref (ad 7))]) hx hb dX5_takeWords_49 hl (k := 4) rfl rfl (by decide) rfl (fun ls hl => ?_)
        refine lv_goto (tgt := 6) hx hb dX5_takeWords_52 (by decide) ?_
        exact hkb _ _ _ _ _ _ ls hf  hP hS (lv_sub hl [4, 2, 1, 0] rfl)
      · rw [if_neg c7] at hf
        refine lv_iload_n hx hb dX5_takeWords_35 rfl (lv_at hl 2 rfl) ?_
        cases hf
        exact rtI X hr hlk hP hS dX5_takeWords_36
set_option maxHeartbeats 4000000 in
set_option maxRecDepth 100000 in
theorem vl_X5_takeWords_6 (X : Cx D cI cP cB cA 79 ad tL tC p s m c cX5_takeWords 5 args RX5) (hr : meth.sig.returnType = (some .int)) (hlk : meth.locks = false) {res : Int32 × Stt} (ke : Int32 → Stt → Option (Int32 × Stt)) (hke : ∀ (x1 : Int32) (S : Stt) (H : Heap) (locs : List Loc) (ls : Array Slot), ke x1 S = some res → va_P D vwCl (wl 79 ad (cfC ad cI cP cB cA S)) H → va_S (Ar 79 ad) s.heap H locs → lv_has ls 5 [(1, .int x1)] → W p l e (rmD 4) s m args below meth c H locs 0 0 (MQ below (QI D 79 ad res.1 (cfC ad cI cP cB cA res.2)) args s 0 0 (Ar 79 ad)) (F0 m 55 ls [])) : ∀ (n : Nat), ∀ (x1 : Int32) (x2 : Int32) (x3 : Int32) (S : Stt) (H : Heap) (locs : List Loc) (ls : Array Slot), fl_X5_takeWords_6 ke n x1 x2 x3 S = some res → va_P D vwCl (wl 79 ad (cfC ad cI cP cB cA S)) H → va_S (Ar 79 ad) s.heap H locs → lv_has ls 5 [(0, .ref (ad 7)), (1, .int x1), (2, .int x2), (3, .int x3)] → W p l e (rmD 4) s m args below meth c H locs 0 0 (MQ below (QI D 79 ad res.1 (cfC ad cI cP cB cA res.2)) args s 0 0 (Ar 79 ad)) (F0 m 6 ls []) := by
  intro n
  induction n with
  | zero =>
    intro x1 x2 x3 S H locs ls hf hP hS hl
    cases hf
  | succ n ih =>
    intro x1 x2 x3 S H locs ls hf hP hS hl
    exact vb_X5_takeWords_6 X hr hlk _ ke ih hke x1 x2 x3 S H locs ls hf  hP hS hl
end
set_option maxHeartbeats 4000000 in
set_option maxRecDepth 100000 in
theorem m_X5_takeWords {l : Launch} {D : va_G} {cI cP cB cA : ClassId} {ad : Nat → Nat} {tL tC : Nat} {S : Stt} {res : Int32 × Stt} (hf : f_X5_takeWords  S = some res) : Ct l D cI cP cB cA 79 ad tL tC yX5_takeWords cX5_takeWords 5 (some .int) 4 [.ref (ad 7)] (cfC ad cI cP cB cA S) (QI D 79 ad res.1 (cfC ad cI cP cB cA res.2)) := by
  refine ctOf (by decide) (Nat.le_of_ble_eq_true rfl) ?_
  intro p e s m args below meth c ls X hr hlk hP hl
  have hS : va_S (Ar 79 ad) s.heap s.heap [] := va_S.rf
  have hx := X.1.1
  have hb := X.1.2.1
  have hl : lv_has ls 5 [(0, .ref (ad 7))] := hl
  unfold f_X5_takeWords at hf
  refine lv_iconst (v := (0 : Int32)) hx hb dX5_takeWords_0 (by decide) ?_
  refine lv_istore_n (lv' := [(1, .int (0 : Int32)), (0, .ref (ad 7))]) hx hb dX5_takeWords_1 rfl hl (by decide) rfl (fun ls hl => ?_)
  refine lv_iconst (v := (0 : Int32)) hx hb dX5_takeWords_2 (by decide) ?_
  refine lv_istore_n (lv' := [(2, .int (0 : Int32)), (1, .int (0 : Int32)), (0, .ref (ad 7))]) hx hb dX5_takeWords_3 rfl hl (by decide) rfl (fun ls hl => ?_)
  refine lv_iconst (v := (0 : Int32)) hx hb dX5_takeWords_4 (by decide) ?_
  refine lv_istore_n (lv' := [(3, .int (0 : Int32)), (2, .int (0 : Int32)), (1, .int (0 : Int32)), (0, .ref (ad 7))]) hx hb dX5_takeWords_5 rfl hl (by decide) rfl (fun ls hl => ?_)
  refine vl_X5_takeWords_6 X hr hlk _ ?_ 300 _ _ _ _ _ _ ls hf  hP hS (lv_sub hl [3, 2, 1, 0] rfl)
  intro x1 S H locs ls hf hP hS hl
  refine lv_iload_n hx hb dX5_takeWords_55 rfl (lv_at hl 0 rfl) ?_
  cases hf
  exact rtI X hr hlk hP hS dX5_takeWords_56
/-! X7_binds -/
section
variable {p : Program} {l : Launch} {e : Env} {s : State} {m : MethodId} {args : Array Value} {below : List Frame} {meth : Method} {c : Code}
variable {D : va_G} {cI cP cB cA : ClassId} {ad : Nat → Nat} {tL tC : Nat}
end
set_option maxHeartbeats 4000000 in
set_option maxRecDepth 100000 in
theorem m_X7_binds {l : Launch} {D : va_G} {cI cP cB cA : ClassId} {ad : Nat → Nat} {tL tC : Nat} {x1 : Int32} {S : Stt} {res : Int32 × Stt} (hf : f_X7_binds x1 S = some res) : Ct l D cI cP cB cA 79 ad tL tC yX7_binds cX7_binds 2 (some .int) 4 [.ref (ad 0), .int x1] (cfC ad cI cP cB cA S) (QI D 79 ad res.1 (cfC ad cI cP cB cA res.2)) := by
  refine ctOf (by decide) (Nat.le_of_ble_eq_true rfl) ?_
  intro p e s m args below meth c ls X hr hlk hP hl
  have hS : va_S (Ar 79 ad) s.heap s.heap [] := va_S.rf
  have hx := X.1.1
  have hb := X.1.2.1
  have hl : lv_has ls 2 [(0, .ref (ad 0)), (1, .int x1)] := hl
  unfold f_X7_binds at hf
  refine lv_iload_n hx hb dX7_binds_0 rfl (lv_at hl 1 rfl) ?_
  obtain ⟨q1, e2, hf⟩ := bind_some hf
  refine aftI hS (cS (rest := []) X hP hS [.int x1] (m_X7_isDay  e2) cw_X7_isDay tw_194 tw_468 (fits9 (by first | decide | omega) (by decide)) rfl rfl hl.1 (Nat.le_of_ble_eq_true rfl) dX7_binds_1 ⟨Nat.zero_le _, Nat.zero_le _⟩) (fun H locs hP hS => ?_)
  refine lv_if_eq (tgt := 18) hx hb dX7_binds_4 (by decide) (fun c3 => ?_) (fun c3 => ?_)
  · rw [if_pos c3] at hf
    refine lv_iconst (v := (-1 : Int32)) hx hb dX7_binds_18 (by decide) ?_
    cases hf
    exact rtI X hr hlk hP hS dX7_binds_19
  · rw [if_neg c3] at hf
    refine lv_aload_n hx hb dX7_binds_7 rfl (lv_at hl 0 rfl) ?_
    refine g_LP_book X hP  tw_62 dX7_binds_8 ?_
    refine lv_iload_n hx hb dX7_binds_11 rfl (lv_at hl 1 rfl) ?_
    obtain ⟨q4, e5, hf⟩ := bind_some hf
    refine aftI hS (cV (rest := []) X hP hS [.int x1] (m_X0_bound (by decide) e5) cw_X0_bound tw_195 tw_469 tw_661 (bk_lt (by decide)) (cf_Book (by decide)) rfl (fits9 (by first | decide | omega) (by decide)) rfl rfl hl.1 (Nat.le_of_ble_eq_true rfl) dX7_binds_12 ⟨Nat.zero_le _, Nat.zero_le _⟩) (fun H locs hP hS => ?_)
    refine lv_goto (tgt := 19) hx hb dX7_binds_15 (by decide) ?_
    cases hf
    exact rtI X hr hlk hP hS dX7_binds_19
/-! X7_couldMean -/
section
variable {p : Program} {l : Launch} {e : Env} {s : State} {m : MethodId} {args : Array Value} {below : List Frame} {meth : Method} {c : Code}
variable {D : va_G} {cI cP cB cA : ClassId} {ad : Nat → Nat} {tL tC : Nat}
set_option maxHeartbeats 4000000 in
set_option maxRecDepth 100000 in
theorem vj_X7_couldMean_88_3 (X : Cx D cI cP cB cA 79 ad tL tC p s m c cX7_couldMean 7 args RX7) (hr : meth.sig.returnType = (some .boolean)) (hlk : meth.locks = false) {res : Int32 × Stt} (kb : Int32 → Int32 → Int32 → Int32 → Stt → Option (Int32 × Stt)) (ke : Stt → Option (Int32 × Stt)) (hkb : ∀ (x1 : Int32) (x2 : Int32) (x3 : Int32) (x4 : Int32) (S : Stt) (H : Heap) (locs : List Loc) (ls : Array Slot), kb x1 x2 x3 x4 S = some res → va_P D vwCl (wl 79 ad (cfC ad cI cP cB cA S)) H → va_S (Ar 79 ad) s.heap H locs → lv_has ls 7 [(0, .ref (ad 0)), (1, .int x1), (2, .int x2), (3, .int x3), (4, .int x4)] → W p l e (rmD 4) s m args below meth c H locs 0 0 (MQ below (QI D 79 ad res.1 (cfC ad cI cP cB cA res.2)) args s 0 0 (Ar 79 ad)) (F0 m 3 ls [])) (hke : ∀ (S : Stt) (H : Heap) (locs : List Loc) (ls : Array Slot), ke S = some res → va_P D vwCl (wl 79 ad (cfC ad cI cP cB cA S)) H → va_S (Ar 79 ad) s.heap H locs → lv_has ls 7 [] → W p l e (rmD 4) s m args below meth c H locs 0 0 (MQ below (QI D 79 ad res.1 (cfC ad cI cP cB cA res.2)) args s 0 0 (Ar 79 ad)) (F0 m 99 ls [])) : ∀ (x1 : Int32) (x2 : Int32) (x3 : Int32) (x4 : Int32) (xt0 : Int32) (xt1 : Int32) (S : Stt) (H : Heap) (locs : List Loc) (ls : Array Slot), fj_X7_couldMean_88_3 kb ke x1 x2 x3 x4 xt0 xt1 S = some res → va_P D vwCl (wl 79 ad (cfC ad cI cP cB cA S)) H → va_S (Ar 79 ad) s.heap H locs → lv_has ls 7 [(0, .ref (ad 0)), (1, .int x1), (2, .int x2), (3, .int x3), (4, .int x4)] → W p l e (rmD 4) s m args below meth c H locs 0 0 (MQ below (QI D 79 ad res.1 (cfC ad cI cP cB cA res.2)) args s 0 0 (Ar 79 ad)) (F0 m 88 ls [.int xt1, .int xt0]) := by
  intro x1 x2 x3 x4 xt0 xt1 S H locs ls hf hP hS hl
  have hx := X.1.1
  have hb := X.1.2.1
  unfold fj_X7_couldMean_88_3 at hf
  refine lv_icmp_eq (tgt := 93) hx hb dX7_couldMean_88 (by decide) (fun c17 => ?_) (fun c17 => ?_)
  · rw [if_pos c17] at hf
    refine lv_iinc (v := (x4 + (3 : Int32))) (lv' := [(4, .int (x4 + (3 : Int32))), (0, .ref (ad 0)), (1, .int x1), (2, .int x2), (3, .int x3)]) hx hb dX7_couldMean_93 hl (k := 4) rfl rfl (by decide) rfl (fun ls hl => ?_)
    refine lv_goto (tgt := 3) hx hb dX7_couldMean_96 (by decide) ?_
    exact hkb _ _ _ _ _ _ _ ls hf  hP hS (lv_sub hl [1, 2, 3, 4, 0] rfl)
  · rw [if_neg c17] at hf
    refine lv_iconst (v := (0 : Int32)) hx hb dX7_couldMean_91 (by decide) ?_
    cases hf
    exact rtZ X hr hlk hP hS (Or.inl rfl) dX7_couldMean_92
set_option maxHeartbeats 4000000 in
set_option maxRecDepth 100000 in
theorem vb_X7_couldMean_3 (X : Cx D cI cP cB cA 79 ad tL tC p s m c cX7_couldMean 7 args RX7) (hr : meth.sig.returnType = (some .boolean)) (hlk : meth.locks = false) {res : Int32 × Stt} (kb : Int32 → Int32 → Int32 → Int32 → Stt → Option (Int32 × Stt)) (ke : Stt → Option (Int32 × Stt)) (hkb : ∀ (x1 : Int32) (x2 : Int32) (x3 : Int32) (x4 : Int32) (S : Stt) (H : Heap) (locs : List Loc) (ls : Array Slot), kb x1 x2 x3 x4 S = some res → va_P D vwCl (wl 79 ad (cfC ad cI cP cB cA S)) H → va_S (Ar 79 ad) s.heap H locs → lv_has ls 7 [(0, .ref (ad 0)), (1, .int x1), (2, .int x2), (3, .int x3), (4, .int x4)] → W p l e (rmD 4) s m args below meth c H locs 0 0 (MQ below (QI D 79 ad res.1 (cfC ad cI cP cB cA res.2)) args s 0 0 (Ar 79 ad)) (F0 m 3 ls [])) (hke : ∀ (S : Stt) (H : Heap) (locs : List Loc) (ls : Array Slot), ke S = some res → va_P D vwCl (wl 79 ad (cfC ad cI cP cB cA S)) H → va_S (Ar 79 ad) s.heap H locs → lv_has ls 7 [] → W p l e (rmD 4) s m args below meth c H locs 0 0 (MQ below (QI D 79 ad res.1 (cfC ad cI cP cB cA res.2)) args s 0 0 (Ar 79 ad)) (F0 m 99 ls [])) : ∀ (x1 : Int32) (x2 : Int32) (x3 : Int32) (x4 : Int32) (S : Stt) (H : Heap) (locs : List Loc) (ls : Array Slot), fb_X7_couldMean_3 kb ke x1 x2 x3 x4 S = some res → va_P D vwCl (wl 79 ad (cfC ad cI cP cB cA S)) H → va_S (Ar 79 ad) s.heap H locs → lv_has ls 7 [(0, .ref (ad 0)), (1, .int x1), (2, .int x2), (3, .int x3), (4, .int x4)] → W p l e (rmD 4) s m args below meth c H locs 0 0 (MQ below (QI D 79 ad res.1 (cfC ad cI cP cB cA res.2)) args s 0 0 (Ar 79 ad)) (F0 m 3 ls []) := by
  intro x1 x2 x3 x4 S H locs ls hf hP hS hl
  have hx := X.1.1
  have hb := X.1.2.1
  unfold fb_X7_couldMean_3 at hf
  refine lv_iload hx hb dX7_couldMean_3 (lv_at hl 4 rfl) ?_
  refine lv_iconst (v := (2 : Int32)) hx hb dX7_couldMean_5 (by decide) ?_
  refine lv_iadd hx hb dX7_couldMean_6 ?_
  refine lv_aload_n hx hb dX7_couldMean_7 rfl (lv_at hl 0 rfl) ?_
  refine g_LP_rows X hP  tw_60 dX7_couldMean_8 ?_
  refine lv_iload_n hx hb dX7_couldMean_11 rfl (lv_at hl 1 rfl) ?_
  obtain ⟨q1, e2, hf⟩ := bind_some hf
  refine aftI hS (cV (rest := [.int (x4 + (2 : Int32))]) X hP hS [.int x1] (m_X6_sizeOf (by decide) e2) cw_X6_sizeOf tw_141 tw_422 tw_698 (sh_lt (by decide)) (cf_Shelf (by decide)) rfl (fits9 (by first | decide | omega) (by decide)) rfl rfl hl.1 (Nat.le_of_ble_eq_true rfl) dX7_couldMean_12 ⟨Nat.zero_le _, Nat.zero_le _⟩) (fun H locs hP hS => ?_)
  refine lv_icmp_ge (tgt := 99) hx hb dX7_couldMean_15 (by decide) (fun c3 => ?_) (fun c3 => ?_)
  · rw [if_pos c3] at hf
    exact hke  _ _ _ ls hf  hP hS (lv_sub hl [] rfl)
  · rw [if_neg c3] at hf
    refine lv_aload_n hx hb dX7_couldMean_18 rfl (lv_at hl 0 rfl) ?_
    refine g_LP_book X hP  tw_62 dX7_couldMean_19 ?_
    refine lv_aload_n hx hb dX7_couldMean_22 rfl (lv_at hl 0 rfl) ?_
    refine g_LP_rows X hP  tw_60 dX7_couldMean_23 ?_
    refine lv_iload_n hx hb dX7_couldMean_26 rfl (lv_at hl 1 rfl) ?_
    refine lv_iload hx hb dX7_couldMean_27 (lv_at hl 4 rfl) ?_
    refine lv_iconst (v := (1 : Int32)) hx hb dX7_couldMean_29 (by decide) ?_
    refine lv_iadd hx hb dX7_couldMean_30 ?_
    obtain ⟨q4, e5, hf⟩ := bind_some hf
    refine aftI hS (cV (rest := [.ref (ad (34 + 0))]) X hP hS [.int x1, .int (x4 + (1 : Int32))] (m_X6_placeOf (by decide) e5) cw_X6_placeOf tw_131 tw_411 tw_699 (sh_lt (by decide)) (cf_Shelf (by decide)) rfl (fits9 (by first | decide | omega) (by decide)) rfl rfl hl.1 (Nat.le_of_ble_eq_true rfl) dX7_couldMean_31 ⟨Nat.zero_le _, Nat.zero_le _⟩) (fun H locs hP hS => ?_)
    obtain ⟨q6, e7, hf⟩ := bind_some hf
    refine aftI hS (cV (rest := []) X hP hS [.int q4.1] (m_X0_bound (by decide) e7) cw_X0_bound tw_195 tw_469 tw_661 (bk_lt (by decide)) (cf_Book (by decide)) rfl (fits9 (by first | decide | omega) (by decide)) rfl rfl hl.1 (Nat.le_of_ble_eq_true rfl) dX7_couldMean_34 ⟨Nat.zero_le _, Nat.zero_le _⟩) (fun H locs hP hS => ?_)
    refine lv_istore (lv' := [(5, .int q6.1), (0, .ref (ad 0)), (1, .int x1), (2, .int x2), (3, .int x3), (4, .int x4)]) hx hb dX7_couldMean_37 hl (by decide) rfl (fun ls hl => ?_)
    refine lv_aload_n hx hb dX7_couldMean_39 rfl (lv_at hl 1 rfl) ?_
    refine g_LP_book X hP  tw_62 dX7_couldMean_40 ?_
    refine lv_iload hx hb dX7_couldMean_43 (lv_at hl 0 rfl) ?_
    refine lv_iload_n hx hb dX7_couldMean_45 rfl (lv_at hl 3 rfl) ?_
    refine lv_iload_n hx hb dX7_couldMean_46 rfl (lv_at hl 4 rfl) ?_
    obtain ⟨q8, e9, hf⟩ := bind_some hf
    refine aftI hS (cV (rest := []) X hP hS [.int q6.1, .int x2, .int x3] (m_X0_casesOne (by decide) e9) cw_X0_casesOne tw_266 tw_478 tw_663 (bk_lt (by decide)) (cf_Book (by decide)) rfl (fits9 (by first | decide | omega) (by decide)) rfl rfl hl.1 (Nat.le_of_ble_eq_true rfl) dX7_couldMean_47 ⟨Nat.zero_le _, Nat.zero_le _⟩) (fun H locs hP hS => ?_)
    refine lv_aload_n hx hb dX7_couldMean_50 rfl (lv_at hl 1 rfl) ?_
    refine g_LP_rows X hP  tw_60 dX7_couldMean_51 ?_
    refine lv_iload_n hx hb dX7_couldMean_54 rfl (lv_at hl 2 rfl) ?_
    refine lv_iload hx hb dX7_couldMean_55 (lv_at hl 5 rfl) ?_
    obtain ⟨q10, e11, hf⟩ := bind_some hf
    refine aftI hS (cV (rest := [.int q8.1]) X hP hS [.int x1, .int x4] (m_X6_placeOf (by decide) e11) cw_X6_placeOf tw_131 tw_411 tw_699 (sh_lt (by decide)) (cf_Shelf (by decide)) rfl (fits9 (by first | decide | omega) (by decide)) rfl rfl hl.1 (Nat.le_of_ble_eq_true rfl) dX7_couldMean_57 ⟨Nat.zero_le _, Nat.zero_le _⟩) (fun H locs hP hS => ?_)
    obtain ⟨q12, e13, hf⟩ := bind_some hf
    refine aftI hS (cS (rest := []) X hP hS [.int q8.1, .int q10.1] (m_X7_hasBit  e13) cw_X7_hasBit tw_185 tw_435 (fits9 (by first | decide | omega) (by decide)) rfl rfl hl.1 (Nat.le_of_ble_eq_true rfl) dX7_couldMean_60 ⟨Nat.zero_le _, Nat.zero_le _⟩) (fun H locs hP hS => ?_)
    refine lv_istore (lv' := [(6, .int q12.1), (5, .int q6.1), (0, .ref (ad 0)), (1, .int x1), (2, .int x2), (3, .int x3), (4, .int x4)]) hx hb dX7_couldMean_63 hl (by decide) rfl (fun ls hl => ?_)
    refine lv_iload hx hb dX7_couldMean_65 (lv_at hl 0 rfl) ?_
    refine lv_aload_n hx hb dX7_couldMean_67 rfl (lv_at hl 2 rfl) ?_
    refine g_LP_rows X hP  tw_60 dX7_couldMean_68 ?_
    refine lv_iload_n hx hb dX7_couldMean_71 rfl (lv_at hl 3 rfl) ?_
    refine lv_iload hx hb dX7_couldMean_72 (lv_at hl 6 rfl) ?_
    refine lv_iconst (v := (2 : Int32)) hx hb dX7_couldMean_74 (by decide) ?_
    refine lv_iadd hx hb dX7_couldMean_75 ?_
    obtain ⟨q14, e15, hf⟩ := bind_some hf
    refine aftI hS (cV (rest := [.int q12.1]) X hP hS [.int x1, .int (x4 + (2 : Int32))] (m_X6_placeOf (by decide) e15) cw_X6_placeOf tw_131 tw_411 tw_699 (sh_lt (by decide)) (cf_Shelf (by decide)) rfl (fits9 (by first | decide | omega) (by decide)) rfl rfl hl.1 (Nat.le_of_ble_eq_true rfl) dX7_couldMean_76 ⟨Nat.zero_le _, Nat.zero_le _⟩) (fun H locs hP hS => ?_)
    refine lv_iconst (v := (1 : Int32)) hx hb dX7_couldMean_79 (by decide) ?_
    refine lv_icmp_ne (tgt := 87) hx hb dX7_couldMean_80 (by decide) (fun c16 => ?_) (fun c16 => ?_)
    · rw [if_neg c16] at hf
      refine lv_iconst (v := (0 : Int32)) hx hb dX7_couldMean_87 (by decide) ?_
      exact vj_X7_couldMean_88_3 X hr hlk _ _ hkb hke _ _ _ _ _ _ _ _ _ ls hf  hP hS (lv_sub hl [2, 3, 4, 5, 6] rfl)
    · rw [if_pos c16] at hf
      refine lv_iconst (v := (1 : Int32)) hx hb dX7_couldMean_83 (by decide) ?_
      refine lv_goto (tgt := 88) hx hb dX7_couldMean_84 (by decide) ?_
      exact vj_X7_couldMean_88_3 X hr hlk _ _ hkb hke _ _ _ _ _ _ _ _ _ ls hf  hP hS (lv_sub hl [2, 3, 4, 5, 6] rfl)
set_option maxHeartbeats 4000000 in
set_option maxRecDepth 100000 in
theorem vl_X7_couldMean_3 (X : Cx D cI cP cB cA 79 ad tL tC p s m c cX7_couldMean 7 args RX7) (hr : meth.sig.returnType = (some .boolean)) (hlk : meth.locks = false) {res : Int32 × Stt} (ke : Stt → Option (Int32 × Stt)) (hke : ∀ (S : Stt) (H : Heap) (locs : List Loc) (ls : Array Slot), ke S = some res → va_P D vwCl (wl 79 ad (cfC ad cI cP cB cA S)) H → va_S (Ar 79 ad) s.heap H locs → lv_has ls 7 [] → W p l e (rmD 4) s m args below meth c H locs 0 0 (MQ below (QI D 79 ad res.1 (cfC ad cI cP cB cA res.2)) args s 0 0 (Ar 79 ad)) (F0 m 99 ls [])) : ∀ (n : Nat), ∀ (x1 : Int32) (x2 : Int32) (x3 : Int32) (x4 : Int32) (S : Stt) (H : Heap) (locs : List Loc) (ls : Array Slot), fl_X7_couldMean_3 ke n x1 x2 x3 x4 S = some res → va_P D vwCl (wl 79 ad (cfC ad cI cP cB cA S)) H → va_S (Ar 79 ad) s.heap H locs → lv_has ls 7 [(0, .ref (ad 0)), (1, .int x1), (2, .int x2), (3, .int x3), (4, .int x4)] → W p l e (rmD 4) s m args below meth c H locs 0 0 (MQ below (QI D 79 ad res.1 (cfC ad cI cP cB cA res.2)) args s 0 0 (Ar 79 ad)) (F0 m 3 ls []) := by
  intro n
  induction n with
  | zero =>
    intro x1 x2 x3 x4 S H locs ls hf hP hS hl
    cases hf
  | succ n ih =>
    intro x1 x2 x3 x4 S H locs ls hf hP hS hl
    exact vb_X7_couldMean_3 X hr hlk _ ke ih hke x1 x2 x3 x4 S H locs ls hf  hP hS hl
end
set_option maxHeartbeats 4000000 in
set_option maxRecDepth 100000 in
theorem m_X7_couldMean {l : Launch} {D : va_G} {cI cP cB cA : ClassId} {ad : Nat → Nat} {tL tC : Nat} {x1 : Int32} {x2 : Int32} {x3 : Int32} {S : Stt} {res : Int32 × Stt} (hf : f_X7_couldMean x1 x2 x3 S = some res) : Ct l D cI cP cB cA 79 ad tL tC yX7_couldMean cX7_couldMean 7 (some .boolean) 4 [.ref (ad 0), .int x1, .int x2, .int x3] (cfC ad cI cP cB cA S) (QI D 79 ad res.1 (cfC ad cI cP cB cA res.2)) := by
  refine ctOf (by decide) (Nat.le_of_ble_eq_true rfl) ?_
  intro p e s m args below meth c ls X hr hlk hP hl
  have hS : va_S (Ar 79 ad) s.heap s.heap [] := va_S.rf
  have hx := X.1.1
  have hb := X.1.2.1
  have hl : lv_has ls 7 [(0, .ref (ad 0)), (1, .int x1), (2, .int x2), (3, .int x3)] := hl
  unfold f_X7_couldMean at hf
  refine lv_iconst (v := (0 : Int32)) hx hb dX7_couldMean_0 (by decide) ?_
  refine lv_istore (lv' := [(4, .int (0 : Int32)), (0, .ref (ad 0)), (1, .int x1), (2, .int x2), (3, .int x3)]) hx hb dX7_couldMean_1 hl (by decide) rfl (fun ls hl => ?_)
  refine vl_X7_couldMean_3 X hr hlk _ ?_ 300 _ _ _ _ _ _ _ ls hf  hP hS (lv_sub hl [1, 2, 3, 4, 0] rfl)
  intro S H locs ls hf hP hS hl
  refine lv_iconst (v := (1 : Int32)) hx hb dX7_couldMean_99 (by decide) ?_
  cases hf
  exact rtZ X hr hlk hP hS (Or.inr rfl) dX7_couldMean_100
/-! X7_digest -/
section
variable {p : Program} {l : Launch} {e : Env} {s : State} {m : MethodId} {args : Array Value} {below : List Frame} {meth : Method} {c : Code}
variable {D : va_G} {cI cP cB cA : ClassId} {ad : Nat → Nat} {tL tC : Nat}
set_option maxHeartbeats 4000000 in
set_option maxRecDepth 100000 in
theorem vb_X7_digest_6 (X : Cx D cI cP cB cA 79 ad tL tC p s m c cX7_digest 5 args RX7) (hr : meth.sig.returnType = (some .long)) (hlk : meth.locks = false) {res : Int64 × Stt} (kb : Int64 → Int32 → Stt → Option (Int64 × Stt)) (ke : Int64 → Stt → Option (Int64 × Stt)) (hkb : ∀ (y1 : Int64) (x3 : Int32) (S : Stt) (H : Heap) (locs : List Loc) (ls : Array Slot), kb y1 x3 S = some res → va_P D vwCl (wl 79 ad (cfC ad cI cP cB cA S)) H → va_S (Ar 79 ad) s.heap H locs → lv_has ls 5 [(0, .ref (ad 0)), (1, .long y1), (3, .int x3)] → W p l e (rmD 4) s m args below meth c H locs 0 0 (MQ below (QL D 79 ad res.1 (cfC ad cI cP cB cA res.2)) args s 0 0 (Ar 79 ad)) (F0 m 6 ls [])) (hke : ∀ (y1 : Int64) (S : Stt) (H : Heap) (locs : List Loc) (ls : Array Slot), ke y1 S = some res → va_P D vwCl (wl 79 ad (cfC ad cI cP cB cA S)) H → va_S (Ar 79 ad) s.heap H locs → lv_has ls 5 [(0, .ref (ad 0)), (1, .long y1)] → W p l e (rmD 4) s m args below meth c H locs 0 0 (MQ below (QL D 79 ad res.1 (cfC ad cI cP cB cA res.2)) args s 0 0 (Ar 79 ad)) (F0 m 31 ls [])) : ∀ (y1 : Int64) (x3 : Int32) (S : Stt) (H : Heap) (locs : List Loc) (ls : Array Slot), fb_X7_digest_6 kb ke y1 x3 S = some res → va_P D vwCl (wl 79 ad (cfC ad cI cP cB cA S)) H → va_S (Ar 79 ad) s.heap H locs → lv_has ls 5 [(0, .ref (ad 0)), (1, .long y1), (3, .int x3)] → W p l e (rmD 4) s m args below meth c H locs 0 0 (MQ below (QL D 79 ad res.1 (cfC ad cI cP cB cA res.2)) args s 0 0 (Ar 79 ad)) (F0 m 6 ls []) := by
  intro y1 x3 S H locs ls hf hP hS hl
  have hx := X.1.1
  have hb := X.1.2.1
  unfold fb_X7_digest_6 at hf
  refine lv_iload_n hx hb dX7_digest_6 rfl (lv_at hl 2 rfl) ?_
  refine lv_bipush (v := (6 : Int32)) hx hb dX7_digest_7 (by decide) ?_
  refine lv_icmp_gt (tgt := 31) hx hb dX7_digest_9 (by decide) (fun c1 => ?_) (fun c1 => ?_)
  · rw [if_pos c1] at hf
    exact hke _ _ _ _ ls hf  hP hS (lv_sub hl [0, 1] rfl)
  · rw [if_neg c1] at hf
    refine lv_ldc2 (v := (31 : Int64)) hx hb X.1.2.2.2.1 (X.1.2.2.2.2 _ tw_540) dX7_digest_12 ?_
    refine lv_lload_n hx hb dX7_digest_15 rfl (lv_at hl 1 rfl) ?_
    refine lv_lmul hx hb dX7_digest_16 ?_
    refine lv_aload_n hx hb dX7_digest_17 rfl (lv_at hl 0 rfl) ?_
    refine lv_iload_n hx hb dX7_digest_18 rfl (lv_at hl 2 rfl) ?_
    obtain ⟨q2, e3, hf⟩ := bind_some hf
    refine aftI hS (cV (rest := [.long ((31 : Int64) * y1)]) X hP hS [.int x3] (m_X7_count  e3) cw_X7_count tw_282 tw_532 tw_750 (by decide) (cf_LP ) rfl (fits9 (by first | decide | omega) (by decide)) rfl rfl hl.1 (Nat.le_of_ble_eq_true rfl) dX7_digest_19 ⟨Nat.zero_le _, Nat.zero_le _⟩) (fun H locs hP hS => ?_)
    refine lv_i2l hx hb dX7_digest_22 rfl ?_
    refine lv_ladd hx hb dX7_digest_23 ?_
    refine lv_lstore_n (lv' := [(1, .long (((31 : Int64) * y1) + q2.1.toInt64)), (0, .ref (ad 0)), (3, .int x3)]) hx hb dX7_digest_24 rfl hl (by decide) rfl (fun ls hl => ?_)
    refine lv_iinc (v := (x3 + (1 : Int32))) (lv' := [(3, .int (x3 + (1 : Int32))), (1, .long (((31 : Int64) * y1) + q2.1.toInt64)), (0, .ref (ad 0))]) hx hb dX7_digest_25 hl (k := 2) rfl rfl (by decide) rfl (fun ls hl => ?_)
    refine lv_goto (tgt := 6) hx hb dX7_digest_28 (by decide) ?_
    exact hkb _ _ _ _ _ ls hf  hP hS (lv_sub hl [2, 1, 0] rfl)
set_option maxHeartbeats 4000000 in
set_option maxRecDepth 100000 in
theorem vl_X7_digest_6 (X : Cx D cI cP cB cA 79 ad tL tC p s m c cX7_digest 5 args RX7) (hr : meth.sig.returnType = (some .long)) (hlk : meth.locks = false) {res : Int64 × Stt} (ke : Int64 → Stt → Option (Int64 × Stt)) (hke : ∀ (y1 : Int64) (S : Stt) (H : Heap) (locs : List Loc) (ls : Array Slot), ke y1 S = some res → va_P D vwCl (wl 79 ad (cfC ad cI cP cB cA S)) H → va_S (Ar 79 ad) s.heap H locs → lv_has ls 5 [(0, .ref (ad 0)), (1, .long y1)] → W p l e (rmD 4) s m args below meth c H locs 0 0 (MQ below (QL D 79 ad res.1 (cfC ad cI cP cB cA res.2)) args s 0 0 (Ar 79 ad)) (F0 m 31 ls [])) : ∀ (n : Nat), ∀ (y1 : Int64) (x3 : Int32) (S : Stt) (H : Heap) (locs : List Loc) (ls : Array Slot), fl_X7_digest_6 ke n y1 x3 S = some res → va_P D vwCl (wl 79 ad (cfC ad cI cP cB cA S)) H → va_S (Ar 79 ad) s.heap H locs → lv_has ls 5 [(0, .ref (ad 0)), (1, .long y1), (3, .int x3)] → W p l e (rmD 4) s m args below meth c H locs 0 0 (MQ below (QL D 79 ad res.1 (cfC ad cI cP cB cA res.2)) args s 0 0 (Ar 79 ad)) (F0 m 6 ls []) := by
  intro n
  induction n with
  | zero =>
    intro y1 x3 S H locs ls hf hP hS hl
    cases hf
  | succ n ih =>
    intro y1 x3 S H locs ls hf hP hS hl
    exact vb_X7_digest_6 X hr hlk _ ke ih hke y1 x3 S H locs ls hf  hP hS hl
set_option maxHeartbeats 4000000 in
set_option maxRecDepth 100000 in
theorem vb_X7_digest_47 (X : Cx D cI cP cB cA 79 ad tL tC p s m c cX7_digest 5 args RX7) (hr : meth.sig.returnType = (some .long)) (hlk : meth.locks = false) {res : Int64 × Stt} (kb : Int64 → Int32 → Int32 → Stt → Option (Int64 × Stt)) (ke : Int64 → Int32 → Stt → Option (Int64 × Stt)) (hkb : ∀ (y1 : Int64) (x3 : Int32) (x4 : Int32) (S : Stt) (H : Heap) (locs : List Loc) (ls : Array Slot), kb y1 x3 x4 S = some res → va_P D vwCl (wl 79 ad (cfC ad cI cP cB cA S)) H → va_S (Ar 79 ad) s.heap H locs → lv_has ls 5 [(0, .ref (ad 0)), (1, .long y1), (3, .int x3), (4, .int x4)] → W p l e (rmD 4) s m args below meth c H locs 0 0 (MQ below (QL D 79 ad res.1 (cfC ad cI cP cB cA res.2)) args s 0 0 (Ar 79 ad)) (F0 m 47 ls [])) (hke : ∀ (y1 : Int64) (x3 : Int32) (S : Stt) (H : Heap) (locs : List Loc) (ls : Array Slot), ke y1 x3 S = some res → va_P D vwCl (wl 79 ad (cfC ad cI cP cB cA S)) H → va_S (Ar 79 ad) s.heap H locs → lv_has ls 5 [(0, .ref (ad 0)), (1, .long y1), (3, .int x3)] → W p l e (rmD 4) s m args below meth c H locs 0 0 (MQ below (QL D 79 ad res.1 (cfC ad cI cP cB cA res.2)) args s 0 0 (Ar 79 ad)) (F0 m 77 ls [])) : ∀ (y1 : Int64) (x3 : Int32) (x4 : Int32) (S : Stt) (H : Heap) (locs : List Loc) (ls : Array Slot), fb_X7_digest_47 kb ke y1 x3 x4 S = some res → va_P D vwCl (wl 79 ad (cfC ad cI cP cB cA S)) H → va_S (Ar 79 ad) s.heap H locs → lv_has ls 5 [(0, .ref (ad 0)), (1, .long y1), (3, .int x3), (4, .int x4)] → W p l e (rmD 4) s m args below meth c H locs 0 0 (MQ below (QL D 79 ad res.1 (cfC ad cI cP cB cA res.2)) args s 0 0 (Ar 79 ad)) (F0 m 47 ls []) := by
  intro y1 x3 x4 S H locs ls hf hP hS hl
  have hx := X.1.1
  have hb := X.1.2.1
  unfold fb_X7_digest_47 at hf
  refine lv_iload hx hb dX7_digest_47 (lv_at hl 3 rfl) ?_
  refine lv_iconst (v := (5 : Int32)) hx hb dX7_digest_49 (by decide) ?_
  refine lv_icmp_gt (tgt := 77) hx hb dX7_digest_50 (by decide) (fun c5 => ?_) (fun c5 => ?_)
  · rw [if_pos c5] at hf
    exact hke _ _ _ _ _ ls hf  hP hS (lv_sub hl [0, 1, 2] rfl)
  · rw [if_neg c5] at hf
    refine lv_ldc2 (v := (31 : Int64)) hx hb X.1.2.2.2.1 (X.1.2.2.2.2 _ tw_540) dX7_digest_53 ?_
    refine lv_lload_n hx hb dX7_digest_56 rfl (lv_at hl 1 rfl) ?_
    refine lv_lmul hx hb dX7_digest_57 ?_
    refine lv_aload_n hx hb dX7_digest_58 rfl (lv_at hl 0 rfl) ?_
    refine g_LP_book X hP  tw_62 dX7_digest_59 ?_
    refine lv_iload_n hx hb dX7_digest_62 rfl (lv_at hl 2 rfl) ?_
    refine lv_iload hx hb dX7_digest_63 (lv_at hl 3 rfl) ?_
    obtain ⟨q6, e7, hf⟩ := bind_some hf
    refine aftI hS (cV (rest := [.long ((31 : Int64) * y1)]) X hP hS [.int x3, .int x4] (m_X0_tell (by decide) e7) cw_X0_tell tw_170 tw_451 tw_654 (bk_lt (by decide)) (cf_Book (by decide)) rfl (fits9 (by first | decide | omega) (by decide)) rfl rfl hl.1 (Nat.le_of_ble_eq_true rfl) dX7_digest_65 ⟨Nat.zero_le _, Nat.zero_le _⟩) (fun H locs hP hS => ?_)
    refine lv_i2l hx hb dX7_digest_68 rfl ?_
    refine lv_ladd hx hb dX7_digest_69 ?_
    refine lv_lstore_n (lv' := [(1, .long (((31 : Int64) * y1) + q6.1.toInt64)), (0, .ref (ad 0)), (3, .int x3), (4, .int x4)]) hx hb dX7_digest_70 rfl hl (by decide) rfl (fun ls hl => ?_)
    refine lv_iinc (v := (x4 + (1 : Int32))) (lv' := [(4, .int (x4 + (1 : Int32))), (1, .long (((31 : Int64) * y1) + q6.1.toInt64)), (0, .ref (ad 0)), (3, .int x3)]) hx hb dX7_digest_71 hl (k := 3) rfl rfl (by decide) rfl (fun ls hl => ?_)
    refine lv_goto (tgt := 47) hx hb dX7_digest_74 (by decide) ?_
    exact hkb _ _ _ _ _ _ ls hf  hP hS (lv_sub hl [2, 1, 3, 0] rfl)
set_option maxHeartbeats 4000000 in
set_option maxRecDepth 100000 in
theorem vl_X7_digest_47 (X : Cx D cI cP cB cA 79 ad tL tC p s m c cX7_digest 5 args RX7) (hr : meth.sig.returnType = (some .long)) (hlk : meth.locks = false) {res : Int64 × Stt} (ke : Int64 → Int32 → Stt → Option (Int64 × Stt)) (hke : ∀ (y1 : Int64) (x3 : Int32) (S : Stt) (H : Heap) (locs : List Loc) (ls : Array Slot), ke y1 x3 S = some res → va_P D vwCl (wl 79 ad (cfC ad cI cP cB cA S)) H → va_S (Ar 79 ad) s.heap H locs → lv_has ls 5 [(0, .ref (ad 0)), (1, .long y1), (3, .int x3)] → W p l e (rmD 4) s m args below meth c H locs 0 0 (MQ below (QL D 79 ad res.1 (cfC ad cI cP cB cA res.2)) args s 0 0 (Ar 79 ad)) (F0 m 77 ls [])) : ∀ (n : Nat), ∀ (y1 : Int64) (x3 : Int32) (x4 : Int32) (S : Stt) (H : Heap) (locs : List Loc) (ls : Array Slot), fl_X7_digest_47 ke n y1 x3 x4 S = some res → va_P D vwCl (wl 79 ad (cfC ad cI cP cB cA S)) H → va_S (Ar 79 ad) s.heap H locs → lv_has ls 5 [(0, .ref (ad 0)), (1, .long y1), (3, .int x3), (4, .int x4)] → W p l e (rmD 4) s m args below meth c H locs 0 0 (MQ below (QL D 79 ad res.1 (cfC ad cI cP cB cA res.2)) args s 0 0 (Ar 79 ad)) (F0 m 47 ls []) := by
  intro n
  induction n with
  | zero =>
    intro y1 x3 x4 S H locs ls hf hP hS hl
    cases hf
  | succ n ih =>
    intro y1 x3 x4 S H locs ls hf hP hS hl
    exact vb_X7_digest_47 X hr hlk _ ke ih hke y1 x3 x4 S H locs ls hf  hP hS hl
set_option maxHeartbeats 4000000 in
set_option maxRecDepth 100000 in
theorem vb_X7_digest_33 (X : Cx D cI cP cB cA 79 ad tL tC p s m c cX7_digest 5 args RX7) (hr : meth.sig.returnType = (some .long)) (hlk : meth.locks = false) {res : Int64 × Stt} (kb : Int64 → Int32 → Stt → Option (Int64 × Stt)) (ke : Int64 → Stt → Option (Int64 × Stt)) (hkb : ∀ (y1 : Int64) (x3 : Int32) (S : Stt) (H : Heap) (locs : List Loc) (ls : Array Slot), kb y1 x3 S = some res → va_P D vwCl (wl 79 ad (cfC ad cI cP cB cA S)) H → va_S (Ar 79 ad) s.heap H locs → lv_has ls 5 [(0, .ref (ad 0)), (1, .long y1), (3, .int x3)] → W p l e (rmD 4) s m args below meth c H locs 0 0 (MQ below (QL D 79 ad res.1 (cfC ad cI cP cB cA res.2)) args s 0 0 (Ar 79 ad)) (F0 m 33 ls [])) (hke : ∀ (y1 : Int64) (S : Stt) (H : Heap) (locs : List Loc) (ls : Array Slot), ke y1 S = some res → va_P D vwCl (wl 79 ad (cfC ad cI cP cB cA S)) H → va_S (Ar 79 ad) s.heap H locs → lv_has ls 5 [(0, .ref (ad 0)), (1, .long y1)] → W p l e (rmD 4) s m args below meth c H locs 0 0 (MQ below (QL D 79 ad res.1 (cfC ad cI cP cB cA res.2)) args s 0 0 (Ar 79 ad)) (F0 m 83 ls [])) : ∀ (y1 : Int64) (x3 : Int32) (S : Stt) (H : Heap) (locs : List Loc) (ls : Array Slot), fb_X7_digest_33 kb ke y1 x3 S = some res → va_P D vwCl (wl 79 ad (cfC ad cI cP cB cA S)) H → va_S (Ar 79 ad) s.heap H locs → lv_has ls 5 [(0, .ref (ad 0)), (1, .long y1), (3, .int x3)] → W p l e (rmD 4) s m args below meth c H locs 0 0 (MQ below (QL D 79 ad res.1 (cfC ad cI cP cB cA res.2)) args s 0 0 (Ar 79 ad)) (F0 m 33 ls []) := by
  intro y1 x3 S H locs ls hf hP hS hl
  have hx := X.1.1
  have hb := X.1.2.1
  unfold fb_X7_digest_33 at hf
  refine lv_iload_n hx hb dX7_digest_33 rfl (lv_at hl 2 rfl) ?_
  refine lv_aload_n hx hb dX7_digest_34 rfl (lv_at hl 0 rfl) ?_
  refine g_LP_book X hP  tw_62 dX7_digest_35 ?_
  refine gN_Book_count X hP (by decide) tw_28 dX7_digest_38 ?_
  refine lv_icmp_ge (tgt := 83) hx hb dX7_digest_41 (by decide) (fun c4 => ?_) (fun c4 => ?_)
  · rw [if_pos c4] at hf
    exact hke _ _ _ _ ls hf  hP hS (lv_sub hl [0, 1] rfl)
  · rw [if_neg c4] at hf
    refine lv_iconst (v := (0 : Int32)) hx hb dX7_digest_44 (by decide) ?_
    refine lv_istore (lv' := [(4, .int (0 : Int32)), (0, .ref (ad 0)), (1, .long y1), (3, .int x3)]) hx hb dX7_digest_45 hl (by decide) rfl (fun ls hl => ?_)
    refine vl_X7_digest_47 X hr hlk _ ?_ 300 _ _ _ _ _ _ ls hf  hP hS (lv_sub hl [1, 2, 3, 0] rfl)
    intro y1 x3 S H locs ls hf hP hS hl
    refine lv_iinc (v := (x3 + (1 : Int32))) (lv' := [(3, .int (x3 + (1 : Int32))), (0, .ref (ad 0)), (1, .long y1)]) hx hb dX7_digest_77 hl (k := 2) rfl rfl (by decide) rfl (fun ls hl => ?_)
    refine lv_goto (tgt := 33) hx hb dX7_digest_80 (by decide) ?_
    exact hkb _ _ _ _ _ ls hf  hP hS (lv_sub hl [1, 2, 0] rfl)
set_option maxHeartbeats 4000000 in
set_option maxRecDepth 100000 in
theorem vl_X7_digest_33 (X : Cx D cI cP cB cA 79 ad tL tC p s m c cX7_digest 5 args RX7) (hr : meth.sig.returnType = (some .long)) (hlk : meth.locks = false) {res : Int64 × Stt} (ke : Int64 → Stt → Option (Int64 × Stt)) (hke : ∀ (y1 : Int64) (S : Stt) (H : Heap) (locs : List Loc) (ls : Array Slot), ke y1 S = some res → va_P D vwCl (wl 79 ad (cfC ad cI cP cB cA S)) H → va_S (Ar 79 ad) s.heap H locs → lv_has ls 5 [(0, .ref (ad 0)), (1, .long y1)] → W p l e (rmD 4) s m args below meth c H locs 0 0 (MQ below (QL D 79 ad res.1 (cfC ad cI cP cB cA res.2)) args s 0 0 (Ar 79 ad)) (F0 m 83 ls [])) : ∀ (n : Nat), ∀ (y1 : Int64) (x3 : Int32) (S : Stt) (H : Heap) (locs : List Loc) (ls : Array Slot), fl_X7_digest_33 ke n y1 x3 S = some res → va_P D vwCl (wl 79 ad (cfC ad cI cP cB cA S)) H → va_S (Ar 79 ad) s.heap H locs → lv_has ls 5 [(0, .ref (ad 0)), (1, .long y1), (3, .int x3)] → W p l e (rmD 4) s m args below meth c H locs 0 0 (MQ below (QL D 79 ad res.1 (cfC ad cI cP cB cA res.2)) args s 0 0 (Ar 79 ad)) (F0 m 33 ls []) := by
  intro n
  induction n with
  | zero =>
    intro y1 x3 S H locs ls hf hP hS hl
    cases hf
  | succ n ih =>
    intro y1 x3 S H locs ls hf hP hS hl
    exact vb_X7_digest_33 X hr hlk _ ke ih hke y1 x3 S H locs ls hf  hP hS hl
set_option maxHeartbeats 4000000 in
set_option maxRecDepth 100000 in
theorem vb_X7_digest_85 (X : Cx D cI cP cB cA 79 ad tL tC p s m c cX7_digest 5 args RX7) (hr : meth.sig.returnType = (some .long)) (hlk : meth.locks = false) {res : Int64 × Stt} (kb : Int64 → Int32 → Stt → Option (Int64 × Stt)) (ke : Int64 → Stt → Option (Int64 × Stt)) (hkb : ∀ (y1 : Int64) (x3 : Int32) (S : Stt) (H : Heap) (locs : List Loc) (ls : Array Slot), kb y1 x3 S = some res → va_P D vwCl (wl 79 ad (cfC ad cI cP cB cA S)) H → va_S (Ar 79 ad) s.heap H locs → lv_has ls 5 [(0, .ref (ad 0)), (1, .long y1), (3, .int x3)] → W p l e (rmD 4) s m args below meth c H locs 0 0 (MQ below (QL D 79 ad res.1 (cfC ad cI cP cB cA res.2)) args s 0 0 (Ar 79 ad)) (F0 m 85 ls [])) (hke : ∀ (y1 : Int64) (S : Stt) (H : Heap) (locs : List Loc) (ls : Array Slot), ke y1 S = some res → va_P D vwCl (wl 79 ad (cfC ad cI cP cB cA S)) H → va_S (Ar 79 ad) s.heap H locs → lv_has ls 5 [(0, .ref (ad 0)), (1, .long y1)] → W p l e (rmD 4) s m args below meth c H locs 0 0 (MQ below (QL D 79 ad res.1 (cfC ad cI cP cB cA res.2)) args s 0 0 (Ar 79 ad)) (F0 m 129 ls [])) : ∀ (y1 : Int64) (x3 : Int32) (S : Stt) (H : Heap) (locs : List Loc) (ls : Array Slot), fb_X7_digest_85 kb ke y1 x3 S = some res → va_P D vwCl (wl 79 ad (cfC ad cI cP cB cA S)) H → va_S (Ar 79 ad) s.heap H locs → lv_has ls 5 [(0, .ref (ad 0)), (1, .long y1), (3, .int x3)] → W p l e (rmD 4) s m args below meth c H locs 0 0 (MQ below (QL D 79 ad res.1 (cfC ad cI cP cB cA res.2)) args s 0 0 (Ar 79 ad)) (F0 m 85 ls []) := by
  intro y1 x3 S H locs ls hf hP hS hl
  have hx := X.1.1
  have hb := X.1.2.1
  unfold fb_X7_digest_85 at hf
  refine lv_iload_n hx hb dX7_digest_85 rfl (lv_at hl 2 rfl) ?_
  refine lv_iconst (v := (3 : Int32)) hx hb dX7_digest_86 (by decide) ?_
  refine lv_icmp_ge (tgt := 129) hx hb dX7_digest_87 (by decide) (fun c8 => ?_) (fun c8 => ?_)
  · rw [if_pos c8] at hf
    exact hke _ _ _ _ ls hf  hP hS (lv_sub hl [0, 1] rfl)
  · rw [if_neg c8] at hf
    refine lv_ldc2 (v := (31 : Int64)) hx hb X.1.2.2.2.1 (X.1.2.2.2.2 _ tw_540) dX7_digest_90 ?_
    refine lv_lload_n hx hb dX7_digest_93 rfl (lv_at hl 1 rfl) ?_
    refine lv_lmul hx hb dX7_digest_94 ?_
    refine lv_aload_n hx hb dX7_digest_95 rfl (lv_at hl 0 rfl) ?_
    refine g_LP_kept X hP  tw_64 dX7_digest_96 ?_
    refine lv_iload_n hx hb dX7_digest_99 rfl (lv_at hl 2 rfl) ?_
    obtain ⟨g9, hf⟩ := grd_some hf
    refine q_kept X hP  g9 dX7_digest_100 ?_
    refine gN_Book_count X hP (by have := ixb_lt g9; omega) tw_28 dX7_digest_101 ?_
    refine lv_if_ne (tgt := 111) hx hb dX7_digest_104 (by decide) (fun c10 => ?_) (fun c10 => ?_)
    · rw [if_neg c10] at hf
      refine lv_aload_n hx hb dX7_digest_111 rfl (lv_at hl 0 rfl) ?_
      refine g_LP_kept X hP  tw_64 dX7_digest_112 ?_
      refine lv_iload_n hx hb dX7_digest_115 rfl (lv_at hl 2 rfl) ?_
      obtain ⟨g11, hf⟩ := grd_some hf
      refine q_kept X hP  g11 dX7_digest_116 ?_
      refine gN_Book_count X hP (by have := ixb_lt g11; omega) tw_28 dX7_digest_117 ?_
      refine lv_i2l hx hb dX7_digest_120 rfl ?_
      refine lv_ladd hx hb dX7_digest_121 ?_
      refine lv_lstore_n (lv' := [(1, .long (((31 : Int64) * y1) + (S.1 17 (2 + x3.toNatClampNeg) 0).toInt64)), (0, .ref (ad 0)), (3, .int x3)]) hx hb dX7_digest_122 rfl hl (by decide) rfl (fun ls hl => ?_)
      refine lv_iinc (v := (x3 + (1 : Int32))) (lv' := [(3, .int (x3 + (1 : Int32))), (1, .long (((31 : Int64) * y1) + (S.1 17 (2 + x3.toNatClampNeg) 0).toInt64)), (0, .ref (ad 0))]) hx hb dX7_digest_123 hl (k := 2) rfl rfl (by decide) rfl (fun ls hl => ?_)
      refine lv_goto (tgt := 85) hx hb dX7_digest_126 (by decide) ?_
      exact hkb _ _ _ _ _ ls hf  hP hS (lv_sub hl [2, 1, 0] rfl)
    · rw [if_pos c10] at hf
      refine lv_iconst (v := (-1 : Int32)) hx hb dX7_digest_107 (by decide) ?_
      refine lv_goto (tgt := 120) hx hb dX7_digest_108 (by decide) ?_
      refine lv_i2l hx hb dX7_digest_120 rfl ?_
      refine lv_ladd hx hb dX7_digest_121 ?_
      refine lv_lstore_n (lv' := [(1, .long (((31 : Int64) * y1) + ((-1 : Int32)).toInt64)), (0, .ref (ad 0)), (3, .int x3)]) hx hb dX7_digest_122 rfl hl (by decide) rfl (fun ls hl => ?_)
      refine lv_iinc (v := (x3 + (1 : Int32))) (lv' := [(3, .int (x3 + (1 : Int32))), (1, .long (((31 : Int64) * y1) + ((-1 : Int32)).toInt64)), (0, .ref (ad 0))]) hx hb dX7_digest_123 hl (k := 2) rfl rfl (by decide) rfl (fun ls hl => ?_)
      refine lv_goto (tgt := 85) hx hb dX7_digest_126 (by decide) ?_
      exact hkb _ _ _ _ _ ls hf  hP hS (lv_sub hl [2, 1, 0] rfl)
set_option maxHeartbeats 4000000 in
set_option maxRecDepth 100000 in
theorem vl_X7_digest_85 (X : Cx D cI cP cB cA 79 ad tL tC p s m c cX7_digest 5 args RX7) (hr : meth.sig.returnType = (some .long)) (hlk : meth.locks = false) {res : Int64 × Stt} (ke : Int64 → Stt → Option (Int64 × Stt)) (hke : ∀ (y1 : Int64) (S : Stt) (H : Heap) (locs : List Loc) (ls : Array Slot), ke y1 S = some res → va_P D vwCl (wl 79 ad (cfC ad cI cP cB cA S)) H → va_S (Ar 79 ad) s.heap H locs → lv_has ls 5 [(0, .ref (ad 0)), (1, .long y1)] → W p l e (rmD 4) s m args below meth c H locs 0 0 (MQ below (QL D 79 ad res.1 (cfC ad cI cP cB cA res.2)) args s 0 0 (Ar 79 ad)) (F0 m 129 ls [])) : ∀ (n : Nat), ∀ (y1 : Int64) (x3 : Int32) (S : Stt) (H : Heap) (locs : List Loc) (ls : Array Slot), fl_X7_digest_85 ke n y1 x3 S = some res → va_P D vwCl (wl 79 ad (cfC ad cI cP cB cA S)) H → va_S (Ar 79 ad) s.heap H locs → lv_has ls 5 [(0, .ref (ad 0)), (1, .long y1), (3, .int x3)] → W p l e (rmD 4) s m args below meth c H locs 0 0 (MQ below (QL D 79 ad res.1 (cfC ad cI cP cB cA res.2)) args s 0 0 (Ar 79 ad)) (F0 m 85 ls []) := by
  intro n
  induction n with
  | zero =>
    intro y1 x3 S H locs ls hf hP hS hl
    cases hf
  | succ n ih =>
    intro y1 x3 S H locs ls hf hP hS hl
    exact vb_X7_digest_85 X hr hlk _ ke ih hke y1 x3 S H locs ls hf  hP hS hl
end
set_option maxHeartbeats 4000000 in
set_option maxRecDepth 100000 in
theorem m_X7_digest {l : Launch} {D : va_G} {cI cP cB cA : ClassId} {ad : Nat → Nat} {tL tC : Nat} {S : Stt} {res : Int64 × Stt} (hf : f_X7_digest  S = some res) : Ct l D cI cP cB cA 79 ad tL tC yX7_digest cX7_digest 5 (some .long) 4 [.ref (ad 0)] (cfC ad cI cP cB cA S) (QL D 79 ad res.1 (cfC ad cI cP cB cA res.2)) := by
  refine ctOf (by decide) (Nat.le_of_ble_eq_true rfl) ?_
  intro p e s m args below meth c ls X hr hlk hP hl
  have hS : va_S (Ar 79 ad) s.heap s.heap [] := va_S.rf
  have hx := X.1.1
  have hb := X.1.2.1
  have hl : lv_has ls 5 [(0, .ref (ad 0))] := hl
  unfold f_X7_digest at hf
  refine lv_ldc2 (v := (17 : Int64)) hx hb X.1.2.2.2.1 (X.1.2.2.2.2 _ tw_539) dX7_digest_0 ?_
  refine lv_lstore_n (lv' := [(1, .long (17 : Int64)), (0, .ref (ad 0))]) hx hb dX7_digest_3 rfl hl (by decide) rfl (fun ls hl => ?_)
  refine lv_iconst (v := (0 : Int32)) hx hb dX7_digest_4 (by decide) ?_
  refine lv_istore_n (lv' := [(3, .int (0 : Int32)), (1, .long (17 : Int64)), (0, .ref (ad 0))]) hx hb dX7_digest_5 rfl hl (by decide) rfl (fun ls hl => ?_)
  refine vl_X7_digest_6 X hr hlk _ ?_ 300 _ _ _ _ _ ls hf  hP hS (lv_sub hl [2, 1, 0] rfl)
  intro y1 S H locs ls hf hP hS hl
  refine lv_iconst (v := (0 : Int32)) hx hb dX7_digest_31 (by decide) ?_
  refine lv_istore_n (lv' := [(3, .int (0 : Int32)), (0, .ref (ad 0)), (1, .long y1)]) hx hb dX7_digest_32 rfl hl (by decide) rfl (fun ls hl => ?_)
  refine vl_X7_digest_33 X hr hlk _ ?_ 300 _ _ _ _ _ ls hf  hP hS (lv_sub hl [1, 2, 0] rfl)
  intro y1 S H locs ls hf hP hS hl
  refine lv_iconst (v := (0 : Int32)) hx hb dX7_digest_83 (by decide) ?_
  refine lv_istore_n (lv' := [(3, .int (0 : Int32)), (0, .ref (ad 0)), (1, .long y1)]) hx hb dX7_digest_84 rfl hl (by decide) rfl (fun ls hl => ?_)
  refine vl_X7_digest_85 X hr hlk _ ?_ 300 _ _ _ _ _ ls hf  hP hS (lv_sub hl [1, 2, 0] rfl)
  intro y1 S H locs ls hf hP hS hl
  refine lv_aload_n hx hb dX7_digest_129 rfl (lv_at hl 0 rfl) ?_
  refine g_LP_texts X hP  tw_61 dX7_digest_130 ?_
  refine lv_aload_n hx hb dX7_digest_133 rfl (lv_at hl 0 rfl) ?_
  refine g_LP_rows X hP  tw_60 dX7_digest_134 ?_
  refine lv_lload_n hx hb dX7_digest_137 rfl (lv_at hl 1 rfl) ?_
  obtain ⟨q12, e13, hf⟩ := bind_some hf
  refine aftL hS (cV (rest := [.ref (ad (1 + 1))]) X hP hS [.long y1] (m_X6_digestOn (by decide) e13) cw_X6_digestOn tw_283 tw_541 tw_706 (sh_lt (by decide)) (cf_Shelf (by decide)) rfl (fits9 (by first | decide | omega) (by decide)) rfl rfl hl.1 (Nat.le_of_ble_eq_true rfl) dX7_digest_138 ⟨Nat.zero_le _, Nat.zero_le _⟩) (fun H locs hP hS => ?_)
  obtain ⟨q14, e15, hf⟩ := bind_some hf
  refine aftL hS (cV (rest := []) X hP hS [.long q12.1] (m_X6_digestOn (by decide) e15) cw_X6_digestOn tw_283 tw_541 tw_706 (sh_lt (by decide)) (cf_Shelf (by decide)) rfl (fits9 (by first | decide | omega) (by decide)) rfl rfl hl.1 (Nat.le_of_ble_eq_true rfl) dX7_digest_141 ⟨Nat.zero_le _, Nat.zero_le _⟩) (fun H locs hP hS => ?_)
  cases hf
  exact rtL X hr hlk hP hS dX7_digest_144
/-! X7_judge -/
section
variable {p : Program} {l : Launch} {e : Env} {s : State} {m : MethodId} {args : Array Value} {below : List Frame} {meth : Method} {c : Code}
variable {D : va_G} {cI cP cB cA : ClassId} {ad : Nat → Nat} {tL tC : Nat}
end
set_option maxHeartbeats 4000000 in
set_option maxRecDepth 100000 in
theorem m_X7_judge {l : Launch} {D : va_G} {cI cP cB cA : ClassId} {ad : Nat → Nat} {tL tC : Nat} {x1 : Int32} {x2 : Int32} {x3 : Int32} {S : Stt} {res : Int32 × Stt} (hf : f_X7_judge x1 x2 x3 S = some res) : Ct l D cI cP cB cA 79 ad tL tC yX7_judge cX7_judge 7 (some .int) 4 [.ref (ad 0), .int x1, .int x2, .int x3] (cfC ad cI cP cB cA S) (QI D 79 ad res.1 (cfC ad cI cP cB cA res.2)) := by
  refine ctOf (by decide) (Nat.le_of_ble_eq_true rfl) ?_
  intro p e s m args below meth c ls X hr hlk hP hl
  have hS : va_S (Ar 79 ad) s.heap s.heap [] := va_S.rf
  have hx := X.1.1
  have hb := X.1.2.1
  have hl : lv_has ls 7 [(0, .ref (ad 0)), (1, .int x1), (2, .int x2), (3, .int x3)] := hl
  unfold f_X7_judge at hf
  refine lv_iload_n hx hb dX7_judge_0 rfl (lv_at hl 1 rfl) ?_
  obtain ⟨q1, e2, hf⟩ := bind_some hf
  refine aftI hS (cS (rest := []) X hP hS [.int x1] (m_X7_isCase  e2) cw_X7_isCase tw_204 tw_476 (fits9 (by first | decide | omega) (by decide)) rfl rfl hl.1 (Nat.le_of_ble_eq_true rfl) dX7_judge_1 ⟨Nat.zero_le _, Nat.zero_le _⟩) (fun H locs hP hS => ?_)
  refine lv_if_eq (tgt := 18) hx hb dX7_judge_4 (by decide) (fun c3 => ?_) (fun c3 => ?_)
  · rw [if_pos c3] at hf
    refine lv_iconst (v := (-1 : Int32)) hx hb dX7_judge_18 (by decide) ?_
    cases hf
    exact rtI X hr hlk hP hS dX7_judge_19
  · rw [if_neg c3] at hf
    refine lv_iload_n hx hb dX7_judge_7 rfl (lv_at hl 3 rfl) ?_
    obtain ⟨q4, e5, hf⟩ := bind_some hf
    refine aftI hS (cS (rest := []) X hP hS [.int x3] (m_X7_isDay  e5) cw_X7_isDay tw_194 tw_468 (fits9 (by first | decide | omega) (by decide)) rfl rfl hl.1 (Nat.le_of_ble_eq_true rfl) dX7_judge_8 ⟨Nat.zero_le _, Nat.zero_le _⟩) (fun H locs hP hS => ?_)
    refine lv_if_eq (tgt := 18) hx hb dX7_judge_11 (by decide) (fun c6 => ?_) (fun c6 => ?_)
    · rw [if_pos c6] at hf
      refine lv_iconst (v := (-1 : Int32)) hx hb dX7_judge_18 (by decide) ?_
      cases hf
      exact rtI X hr hlk hP hS dX7_judge_19
    · rw [if_neg c6] at hf
      refine lv_iload_n hx hb dX7_judge_14 rfl (lv_at hl 2 rfl) ?_
      refine lv_if_ge (tgt := 20) hx hb dX7_judge_15 (by decide) (fun c7 => ?_) (fun c7 => ?_)
      · rw [if_pos c7] at hf
        refine lv_iload_n hx hb dX7_judge_20 rfl (lv_at hl 2 rfl) ?_
        refine lv_bipush (v := (10 : Int32)) hx hb dX7_judge_21 (by decide) ?_
        refine lv_idiv hx hb dX7_judge_23 (by decide) ?_
        refine lv_istore (lv' := [(4, .int (x2 / (10 : Int32))), (0, .ref (ad 0)), (1, .int x1), (2, .int x2), (3, .int x3)]) hx hb dX7_judge_24 hl (by decide) rfl (fun ls hl => ?_)
        refine lv_iload_n hx hb dX7_judge_26 rfl (lv_at hl 3 rfl) ?_
        refine lv_bipush (v := (10 : Int32)) hx hb dX7_judge_27 (by decide) ?_
        refine lv_irem hx hb dX7_judge_29 (by decide) ?_
        refine lv_istore (lv' := [(5, .int (x2 - x2 / (10 : Int32) * (10 : Int32))), (4, .int (x2 / (10 : Int32))), (0, .ref (ad 0)), (1, .int x1), (2, .int x2), (3, .int x3)]) hx hb dX7_judge_30 hl (by decide) rfl (fun ls hl => ?_)
        refine lv_iload hx hb dX7_judge_32 (lv_at hl 1 rfl) ?_
        refine lv_iconst (v := (5 : Int32)) hx hb dX7_judge_34 (by decide) ?_
        refine lv_icmp_ge (tgt := 44) hx hb dX7_judge_35 (by decide) (fun c8 => ?_) (fun c8 => ?_)
        · rw [if_pos c8] at hf
          refine lv_iconst (v := (-1 : Int32)) hx hb dX7_judge_44 (by decide) ?_
          cases hf
          exact rtI X hr hlk hP hS dX7_judge_45
        · rw [if_neg c8] at hf
          refine lv_iload hx hb dX7_judge_38 (lv_at hl 0 rfl) ?_
          refine lv_iconst (v := (5 : Int32)) hx hb dX7_judge_40 (by decide) ?_
          refine lv_icmp_lt (tgt := 46) hx hb dX7_judge_41 (by decide) (fun c9 => ?_) (fun c9 => ?_)
          · rw [if_pos c9] at hf
            refine lv_aload_n hx hb dX7_judge_46 rfl (lv_at hl 2 rfl) ?_
            refine g_LP_book X hP  tw_62 dX7_judge_47 ?_
            refine lv_iload_n hx hb dX7_judge_50 rfl (lv_at hl 5 rfl) ?_
            obtain ⟨q10, e11, hf⟩ := bind_some hf
            refine aftI hS (cV (rest := []) X hP hS [.int x3] (m_X0_bound (by decide) e11) cw_X0_bound tw_195 tw_469 tw_661 (bk_lt (by decide)) (cf_Book (by decide)) rfl (fits9 (by first | decide | omega) (by decide)) rfl rfl hl.1 (Nat.le_of_ble_eq_true rfl) dX7_judge_51 ⟨Nat.zero_le _, Nat.zero_le _⟩) (fun H locs hP hS => ?_)
            refine lv_istore (lv' := [(6, .int q10.1), (5, .int (x2 - x2 / (10 : Int32) * (10 : Int32))), (4, .int (x2 / (10 : Int32))), (0, .ref (ad 0)), (1, .int x1), (2, .int x2), (3, .int x3)]) hx hb dX7_judge_54 hl (by decide) rfl (fun ls hl => ?_)
            refine lv_aload_n hx hb dX7_judge_56 rfl (lv_at hl 3 rfl) ?_
            refine g_LP_book X hP  tw_62 dX7_judge_57 ?_
            refine lv_iconst (v := (5 : Int32)) hx hb dX7_judge_60 (by decide) ?_
            refine lv_iload hx hb dX7_judge_61 (lv_at hl 0 rfl) ?_
            obtain ⟨q12, e13, hf⟩ := bind_some hf
            refine aftI hS (cV (rest := []) X hP hS [.int (5 : Int32), .int q10.1] (m_X0_factsFor (by decide) e13) cw_X0_factsFor tw_197 tw_471 tw_662 (bk_lt (by decide)) (cf_Book (by decide)) rfl (fits9 (by first | decide | omega) (by decide)) rfl rfl hl.1 (Nat.le_of_ble_eq_true rfl) dX7_judge_63 ⟨Nat.zero_le _, Nat.zero_le _⟩) (fun H locs hP hS => ?_)
            refine lv_iload hx hb dX7_judge_66 (lv_at hl 2 rfl) ?_
            obtain ⟨q14, e15, hf⟩ := bind_some hf
            refine aftI hS (cS (rest := []) X hP hS [.int q12.1, .int (x2 / (10 : Int32))] (m_X7_hasBit  e15) cw_X7_hasBit tw_185 tw_435 (fits9 (by first | decide | omega) (by decide)) rfl rfl hl.1 (Nat.le_of_ble_eq_true rfl) dX7_judge_68 ⟨Nat.zero_le _, Nat.zero_le _⟩) (fun H locs hP hS => ?_)
            refine lv_if_eq (tgt := 93) hx hb dX7_judge_71 (by decide) (fun c16 => ?_) (fun c16 => ?_)
            · rw [if_pos c16] at hf
              refine lv_iconst (v := (-1 : Int32)) hx hb dX7_judge_93 (by decide) ?_
              cases hf
              exact rtI X hr hlk hP hS dX7_judge_94
            · rw [if_neg c16] at hf
              refine lv_aload_n hx hb dX7_judge_74 rfl (lv_at hl 3 rfl) ?_
              refine g_LP_book X hP  tw_62 dX7_judge_75 ?_
              refine lv_bipush (v := (6 : Int32)) hx hb dX7_judge_78 (by decide) ?_
              refine lv_iload hx hb dX7_judge_80 (lv_at hl 0 rfl) ?_
              obtain ⟨q17, e18, hf⟩ := bind_some hf
              refine aftI hS (cV (rest := []) X hP hS [.int (6 : Int32), .int q10.1] (m_X0_factsFor (by decide) e18) cw_X0_factsFor tw_197 tw_471 tw_662 (bk_lt (by decide)) (cf_Book (by decide)) rfl (fits9 (by first | decide | omega) (by decide)) rfl rfl hl.1 (Nat.le_of_ble_eq_true rfl) dX7_judge_82 ⟨Nat.zero_le _, Nat.zero_le _⟩) (fun H locs hP hS => ?_)
              refine lv_iload hx hb dX7_judge_85 (lv_at hl 1 rfl) ?_
              obtain ⟨q19, e20, hf⟩ := bind_some hf
              refine aftI hS (cS (rest := []) X hP hS [.int q17.1, .int (x2 - x2 / (10 : Int32) * (10 : Int32))] (m_X7_hasBit  e20) cw_X7_hasBit tw_185 tw_435 (fits9 (by first | decide | omega) (by decide)) rfl rfl hl.1 (Nat.le_of_ble_eq_true rfl) dX7_judge_87 ⟨Nat.zero_le _, Nat.zero_le _⟩) (fun H locs hP hS => ?_)
              refine lv_if_ne (tgt := 95) hx hb dX7_judge_90 (by decide) (fun c21 => ?_) (fun c21 => ?_)
              · rw [if_neg c21] at hf
                refine lv_aload_n hx hb dX7_judge_95 rfl (lv_at hl 3 rfl) ?_
                refine g_LP_book X hP  tw_62 dX7_judge_96 ?_
                refine lv_iload_n hx hb dX7_judge_99 rfl (lv_at hl 4 rfl) ?_
                refine lv_iload hx hb dX7_judge_100 (lv_at hl 0 rfl) ?_
                refine lv_iload hx hb dX7_judge_102 (lv_at hl 2 rfl) ?_
                refine lv_iload hx hb dX7_judge_104 (lv_at hl 1 rfl) ?_
                obtain ⟨q22, e23, hf⟩ := bind_some hf
                refine aftI hS (cV (rest := []) X hP hS [.int x1, .int q10.1, .int (x2 / (10 : Int32)), .int (x2 - x2 / (10 : Int32) * (10 : Int32))] (m_X0_judgeOf (by decide) e23) cw_X0_judgeOf tw_215 tw_484 tw_664 (bk_lt (by decide)) (cf_Book (by decide)) rfl (fits9 (by first | decide | omega) (by decide)) rfl rfl hl.1 (Nat.le_of_ble_eq_true rfl) dX7_judge_106 ⟨Nat.zero_le _, Nat.zero_le _⟩) (fun H locs hP hS => ?_)
                cases hf
                exact rtI X hr hlk hP hS dX7_judge_109
              · rw [if_pos c21] at hf
                refine lv_iconst (v := (-1 : Int32)) hx hb dX7_judge_93 (by decide) ?_
                cases hf
                exact rtI X hr hlk hP hS dX7_judge_94
          · rw [if_neg c9] at hf
            refine lv_iconst (v := (-1 : Int32)) hx hb dX7_judge_44 (by decide) ?_
            cases hf
            exact rtI X hr hlk hP hS dX7_judge_45
      · rw [if_neg c7] at hf
        refine lv_iconst (v := (-1 : Int32)) hx hb dX7_judge_18 (by decide) ?_
        cases hf
        exact rtI X hr hlk hP hS dX7_judge_19
/-! X7_mark -/
section
variable {p : Program} {l : Launch} {e : Env} {s : State} {m : MethodId} {args : Array Value} {below : List Frame} {meth : Method} {c : Code}
variable {D : va_G} {cI cP cB cA : ClassId} {ad : Nat → Nat} {tL tC : Nat}
end
set_option maxHeartbeats 4000000 in
set_option maxRecDepth 100000 in
theorem m_X7_mark {l : Launch} {D : va_G} {cI cP cB cA : ClassId} {ad : Nat → Nat} {tL tC : Nat} {x1 : Int32} {x2 : Int32} {S : Stt} {res : Int32 × Stt} (hf : f_X7_mark x1 x2 S = some res) : Ct l D cI cP cB cA 79 ad tL tC yX7_mark cX7_mark 3 (some .int) 4 [.ref (ad 0), .int x1, .int x2] (cfC ad cI cP cB cA S) (QI D 79 ad res.1 (cfC ad cI cP cB cA res.2)) := by
  refine ctOf (by decide) (Nat.le_of_ble_eq_true rfl) ?_
  intro p e s m args below meth c ls X hr hlk hP hl
  have hS : va_S (Ar 79 ad) s.heap s.heap [] := va_S.rf
  have hx := X.1.1
  have hb := X.1.2.1
  have hl : lv_has ls 3 [(0, .ref (ad 0)), (1, .int x1), (2, .int x2)] := hl
  unfold f_X7_mark at hf
  refine lv_aload_n hx hb dX7_mark_0 rfl (lv_at hl 0 rfl) ?_
  refine g_LP_book X hP  tw_62 dX7_mark_1 ?_
  refine lv_iload_n hx hb dX7_mark_4 rfl (lv_at hl 1 rfl) ?_
  obtain ⟨q1, e2, hf⟩ := bind_some hf
  refine aftI hS (cV (rest := []) X hP hS [.int x1] (m_X0_isOne (by decide) e2) cw_X0_isOne tw_169 tw_450 tw_644 (bk_lt (by decide)) (cf_Book (by decide)) rfl (fits9 (by first | decide | omega) (by decide)) rfl rfl hl.1 (Nat.le_of_ble_eq_true rfl) dX7_mark_5 ⟨Nat.zero_le _, Nat.zero_le _⟩) (fun H locs hP hS => ?_)
  refine lv_if_eq (tgt := 21) hx hb dX7_mark_8 (by decide) (fun c3 => ?_) (fun c3 => ?_)
  · rw [if_pos c3] at hf
    refine lv_iconst (v := (-1 : Int32)) hx hb dX7_mark_21 (by decide) ?_
    cases hf
    exact rtI X hr hlk hP hS dX7_mark_22
  · rw [if_neg c3] at hf
    refine lv_iload_n hx hb dX7_mark_11 rfl (lv_at hl 2 rfl) ?_
    refine lv_iconst (v := (1 : Int32)) hx hb dX7_mark_12 (by decide) ?_
    refine lv_icmp_lt (tgt := 21) hx hb dX7_mark_13 (by decide) (fun c4 => ?_) (fun c4 => ?_)
    · rw [if_pos c4] at hf
      refine lv_iconst (v := (-1 : Int32)) hx hb dX7_mark_21 (by decide) ?_
      cases hf
      exact rtI X hr hlk hP hS dX7_mark_22
    · rw [if_neg c4] at hf
      refine lv_iload_n hx hb dX7_mark_16 rfl (lv_at hl 2 rfl) ?_
      refine lv_iconst (v := (5 : Int32)) hx hb dX7_mark_17 (by decide) ?_
      refine lv_icmp_le (tgt := 23) hx hb dX7_mark_18 (by decide) (fun c5 => ?_) (fun c5 => ?_)
      · rw [if_pos c5] at hf
        refine lv_aload_n hx hb dX7_mark_23 rfl (lv_at hl 0 rfl) ?_
        refine g_LP_book X hP  tw_62 dX7_mark_24 ?_
        refine gN_Book_pages X hP (by decide) tw_22 dX7_mark_27 ?_
        refine lv_iload_n hx hb dX7_mark_30 rfl (lv_at hl 1 rfl) ?_
        obtain ⟨g6, hf⟩ := grd_some hf
        refine q_pages X hP (by decide) g6 dX7_mark_31 ?_
        refine lv_iload_n hx hb dX7_mark_32 rfl (lv_at hl 2 rfl) ?_
        obtain ⟨q7, e8, hf⟩ := bind_some hf
        refine aftI hS (cV (rest := []) X hP hS [.int x2] (m_X3_isOf (by decide) (ixb_lt g6) e8) cw_X3_isOf tw_173 tw_442 tw_678 (pg_lt (by decide) (ixb_lt g6)) (cf_Page (by decide) (ixb_lt g6)) rfl (fits9 (by first | decide | omega) (by decide)) rfl rfl hl.1 (Nat.le_of_ble_eq_true rfl) dX7_mark_33 ⟨Nat.zero_le _, Nat.zero_le _⟩) (fun H locs hP hS => ?_)
        refine lv_if_ne (tgt := 45) hx hb dX7_mark_36 (by decide) (fun c9 => ?_) (fun c9 => ?_)
        · rw [if_neg c9] at hf
          refine lv_iload_n hx hb dX7_mark_45 rfl (lv_at hl 2 rfl) ?_
          by_cases c10 : x2 = (1 : Int32)
          · rw [if_pos c10] at hf
            refine W.eq (g2 := F0 m 46 ls [.int (1 : Int32)]) (by rw [c10]) ?_
            refine lv_tableIn (x := (1 : Int32)) (off := 30) (tgt := 76) hx hb dX7_mark_46 (by decide) (by decide) rfl (by decide) ?_
            refine lv_aload_n hx hb dX7_mark_76 rfl (lv_at hl 0 rfl) ?_
            refine g_LP_book X hP  tw_62 dX7_mark_77 ?_
            refine gN_Book_pages X hP (by decide) tw_22 dX7_mark_80 ?_
            refine lv_iload_n hx hb dX7_mark_83 rfl (lv_at hl 1 rfl) ?_
            obtain ⟨g11, hf⟩ := grd_some hf
            refine q_pages X hP (by decide) g11 dX7_mark_84 ?_
            obtain ⟨q12, e13, hf⟩ := bind_some hf
            refine aftI hS (cV (rest := []) X hP hS [] (m_X3_weight (by decide) (ixb_lt g11) e13) cw_X3_weight tw_174 tw_437 tw_679 (pg_lt (by decide) (ixb_lt g11)) (cf_Page (by decide) (ixb_lt g11)) rfl (fits9 (by first | decide | omega) (by decide)) rfl rfl hl.1 (Nat.le_of_ble_eq_true rfl) dX7_mark_85 ⟨Nat.zero_le _, Nat.zero_le _⟩) (fun H locs hP hS => ?_)
            cases hf
            exact rtI X hr hlk hP hS dX7_mark_88
          · rw [if_neg c10] at hf
            by_cases c14 : x2 = (2 : Int32)
            · rw [if_pos c14] at hf
              refine W.eq (g2 := F0 m 46 ls [.int (2 : Int32)]) (by rw [c14]) ?_
              refine lv_tableIn (x := (2 : Int32)) (off := 43) (tgt := 89) hx hb dX7_mark_46 (by decide) (by decide) rfl (by decide) ?_
              refine lv_aload_n hx hb dX7_mark_89 rfl (lv_at hl 0 rfl) ?_
              refine g_LP_book X hP  tw_62 dX7_mark_90 ?_
              refine lv_iload_n hx hb dX7_mark_93 rfl (lv_at hl 1 rfl) ?_
              refine lv_bipush (v := (20 : Int32)) hx hb dX7_mark_94 (by decide) ?_
              obtain ⟨q15, e16, hf⟩ := bind_some hf
              refine aftI hS (cV (rest := []) X hP hS [.int x1, .int (20 : Int32)] (m_X0_holds (by decide) e16) cw_X0_holds tw_175 tw_453 tw_658 (bk_lt (by decide)) (cf_Book (by decide)) rfl (fits9 (by first | decide | omega) (by decide)) rfl rfl hl.1 (Nat.le_of_ble_eq_true rfl) dX7_mark_96 ⟨Nat.zero_le _, Nat.zero_le _⟩) (fun H locs hP hS => ?_)
              refine lv_if_eq (tgt := 106) hx hb dX7_mark_99 (by decide) (fun c17 => ?_) (fun c17 => ?_)
              · rw [if_pos c17] at hf
                refine lv_iconst (v := (0 : Int32)) hx hb dX7_mark_106 (by decide) ?_
                cases hf
                exact rtI X hr hlk hP hS dX7_mark_107
              · rw [if_neg c17] at hf
                refine lv_iconst (v := (1 : Int32)) hx hb dX7_mark_102 (by decide) ?_
                refine lv_goto (tgt := 107) hx hb dX7_mark_103 (by decide) ?_
                cases hf
                exact rtI X hr hlk hP hS dX7_mark_107
            · rw [if_neg c14] at hf
              by_cases c18 : x2 = (3 : Int32)
              · rw [if_pos c18] at hf
                refine W.eq (g2 := F0 m 46 ls [.int (3 : Int32)]) (by rw [c18]) ?_
                refine lv_tableIn (x := (3 : Int32)) (off := 62) (tgt := 108) hx hb dX7_mark_46 (by decide) (by decide) rfl (by decide) ?_
                refine lv_aload_n hx hb dX7_mark_108 rfl (lv_at hl 0 rfl) ?_
                refine g_LP_book X hP  tw_62 dX7_mark_109 ?_
                refine lv_aload_n hx hb dX7_mark_112 rfl (lv_at hl 0 rfl) ?_
                refine g_LP_book X hP  tw_62 dX7_mark_113 ?_
                refine gN_Book_pages X hP (by decide) tw_22 dX7_mark_116 ?_
                refine lv_iload_n hx hb dX7_mark_119 rfl (lv_at hl 1 rfl) ?_
                obtain ⟨g19, hf⟩ := grd_some hf
                refine q_pages X hP (by decide) g19 dX7_mark_120 ?_
                refine gN_Page_words X hP (by decide) (ixb_lt g19) tw_12 dX7_mark_121 ?_
                obtain ⟨q20, e21, hf⟩ := bind_some hf
                refine aftI hS (cV (rest := []) X hP hS [.int (q7.2.1 13 0 x1.toNatClampNeg)] (m_X0_havingWords (by decide) e21) cw_X0_havingWords tw_177 tw_454 tw_656 (bk_lt (by decide)) (cf_Book (by decide)) rfl (fits9 (by first | decide | omega) (by decide)) rfl rfl hl.1 (Nat.le_of_ble_eq_true rfl) dX7_mark_124 ⟨Nat.zero_le _, Nat.zero_le _⟩) (fun H locs hP hS => ?_)
                cases hf
                exact rtI X hr hlk hP hS dX7_mark_127
              · rw [if_neg c18] at hf
                by_cases c22 : x2 = (4 : Int32)
                · rw [if_pos c22] at hf
                  refine W.eq (g2 := F0 m 46 ls [.int (4 : Int32)]) (by rw [c22]) ?_
                  refine lv_tableIn (x := (4 : Int32)) (off := 82) (tgt := 128) hx hb dX7_mark_46 (by decide) (by decide) rfl (by decide) ?_
                  refine lv_aload_n hx hb dX7_mark_128 rfl (lv_at hl 0 rfl) ?_
                  refine g_LP_book X hP  tw_62 dX7_mark_129 ?_
                  refine gN_Book_pages X hP (by decide) tw_22 dX7_mark_132 ?_
                  refine lv_iload_n hx hb dX7_mark_135 rfl (lv_at hl 1 rfl) ?_
                  obtain ⟨g23, hf⟩ := grd_some hf
                  refine q_pages X hP (by decide) g23 dX7_mark_136 ?_
                  refine gN_Page_day X hP (by decide) (ixb_lt g23) tw_18 dX7_mark_137 ?_
                  refine lv_iconst (v := (2 : Int32)) hx hb dX7_mark_140 (by decide) ?_
                  refine lv_iadd hx hb dX7_mark_141 ?_
                  cases hf
                  exact rtI X hr hlk hP hS dX7_mark_142
                · rw [if_neg c22] at hf
                  have z9 : ∀ k : Int32, ¬ x2 = k → ¬ (x2).toInt = k.toInt := fun k h q => h (Int32.toInt_inj.mp q)
                  have a0 : ¬ (x2).toInt = 1 := z9 (1 : Int32) c10
                  have a1 : ¬ (x2).toInt = 2 := z9 (2 : Int32) c14
                  have a2 : ¬ (x2).toInt = 3 := z9 (3 : Int32) c18
                  have a3 : ¬ (x2).toInt = 4 := z9 (4 : Int32) c22
                  have z8 : (x2).toInt < 1 ∨ 4 < (x2).toInt := by omega
                  refine lv_tableOut (tgt := 143) hx hb dX7_mark_46 z8 (by decide) ?_
                  refine lv_aload_n hx hb dX7_mark_143 rfl (lv_at hl 0 rfl) ?_
                  refine g_LP_book X hP  tw_62 dX7_mark_144 ?_
                  refine lv_iload_n hx hb dX7_mark_147 rfl (lv_at hl 1 rfl) ?_
                  obtain ⟨q24, e25, hf⟩ := bind_some hf
                  refine aftI hS (cV (rest := []) X hP hS [.int x1] (m_X0_firstDayOf (by decide) e25) cw_X0_firstDayOf tw_178 tw_455 tw_659 (bk_lt (by decide)) (cf_Book (by decide)) rfl (fits9 (by first | decide | omega) (by decide)) rfl rfl hl.1 (Nat.le_of_ble_eq_true rfl) dX7_mark_148 ⟨Nat.zero_le _, Nat.zero_le _⟩) (fun H locs hP hS => ?_)
                  cases hf
                  exact rtI X hr hlk hP hS dX7_mark_151
        · rw [if_pos c9] at hf
          refine lv_aload_n hx hb dX7_mark_39 rfl (lv_at hl 0 rfl) ?_
          refine lv_iconst (v := (3 : Int32)) hx hb dX7_mark_40 (by decide) ?_
          obtain ⟨q26, e27, hf⟩ := bind_some hf
          refine aftI hS (cV (rest := []) X hP hS [.int (3 : Int32)] (m_X7_refuse  e27) cw_X7_refuse tw_126 tw_406 tw_754 (by decide) (cf_LP ) rfl (fits9 (by first | decide | omega) (by decide)) rfl rfl hl.1 (Nat.le_of_ble_eq_true rfl) dX7_mark_41 ⟨Nat.zero_le _, Nat.zero_le _⟩) (fun H locs hP hS => ?_)
          cases hf
          exact rtI X hr hlk hP hS dX7_mark_44
      · rw [if_neg c5] at hf
        refine lv_iconst (v := (-1 : Int32)) hx hb dX7_mark_21 (by decide) ?_
        cases hf
        exact rtI X hr hlk hP hS dX7_mark_22
/-! X7_meanings -/
section
variable {p : Program} {l : Launch} {e : Env} {s : State} {m : MethodId} {args : Array Value} {below : List Frame} {meth : Method} {c : Code}
variable {D : va_G} {cI cP cB cA : ClassId} {ad : Nat → Nat} {tL tC : Nat}
end
set_option maxHeartbeats 4000000 in
set_option maxRecDepth 100000 in
theorem m_X7_meanings {l : Launch} {D : va_G} {cI cP cB cA : ClassId} {ad : Nat → Nat} {tL tC : Nat} {x1 : Int32} {S : Stt} {res : Int32 × Stt} (hf : f_X7_meanings x1 S = some res) : Ct l D cI cP cB cA 79 ad tL tC yX7_meanings cX7_meanings 3 (some .int) 4 [.ref (ad 0), .int x1] (cfC ad cI cP cB cA S) (QI D 79 ad res.1 (cfC ad cI cP cB cA res.2)) := by
  refine ctOf (by decide) (Nat.le_of_ble_eq_true rfl) ?_
  intro p e s m args below meth c ls X hr hlk hP hl
  have hS : va_S (Ar 79 ad) s.heap s.heap [] := va_S.rf
  have hx := X.1.1
  have hb := X.1.2.1
  have hl : lv_has ls 3 [(0, .ref (ad 0)), (1, .int x1)] := hl
  unfold f_X7_meanings at hf
  refine lv_iload_n hx hb dX7_meanings_0 rfl (lv_at hl 1 rfl) ?_
  obtain ⟨q1, e2, hf⟩ := bind_some hf
  refine aftI hS (cS (rest := []) X hP hS [.int x1] (m_X7_isDay  e2) cw_X7_isDay tw_194 tw_468 (fits9 (by first | decide | omega) (by decide)) rfl rfl hl.1 (Nat.le_of_ble_eq_true rfl) dX7_meanings_1 ⟨Nat.zero_le _, Nat.zero_le _⟩) (fun H locs hP hS => ?_)
  refine lv_if_ne (tgt := 9) hx hb dX7_meanings_4 (by decide) (fun c3 => ?_) (fun c3 => ?_)
  · rw [if_neg c3] at hf
    refine lv_aload_n hx hb dX7_meanings_9 rfl (lv_at hl 0 rfl) ?_
    refine g_LP_book X hP  tw_62 dX7_meanings_10 ?_
    refine lv_iload_n hx hb dX7_meanings_13 rfl (lv_at hl 1 rfl) ?_
    obtain ⟨q4, e5, hf⟩ := bind_some hf
    refine aftI hS (cV (rest := []) X hP hS [.int x1] (m_X0_bound (by decide) e5) cw_X0_bound tw_195 tw_469 tw_661 (bk_lt (by decide)) (cf_Book (by decide)) rfl (fits9 (by first | decide | omega) (by decide)) rfl rfl hl.1 (Nat.le_of_ble_eq_true rfl) dX7_meanings_14 ⟨Nat.zero_le _, Nat.zero_le _⟩) (fun H locs hP hS => ?_)
    refine lv_istore_n (lv' := [(2, .int q4.1), (0, .ref (ad 0)), (1, .int x1)]) hx hb dX7_meanings_17 rfl hl (by decide) rfl (fun ls hl => ?_)
    refine lv_aload_n hx hb dX7_meanings_18 rfl (lv_at hl 1 rfl) ?_
    refine g_LP_book X hP  tw_62 dX7_meanings_19 ?_
    refine lv_iconst (v := (5 : Int32)) hx hb dX7_meanings_22 (by decide) ?_
    refine lv_iload_n hx hb dX7_meanings_23 rfl (lv_at hl 0 rfl) ?_
    obtain ⟨q6, e7, hf⟩ := bind_some hf
    refine aftI hS (cV (rest := []) X hP hS [.int (5 : Int32), .int q4.1] (m_X0_factsFor (by decide) e7) cw_X0_factsFor tw_197 tw_471 tw_662 (bk_lt (by decide)) (cf_Book (by decide)) rfl (fits9 (by first | decide | omega) (by decide)) rfl rfl hl.1 (Nat.le_of_ble_eq_true rfl) dX7_meanings_24 ⟨Nat.zero_le _, Nat.zero_le _⟩) (fun H locs hP hS => ?_)
    obtain ⟨q8, e9, hf⟩ := bind_some hf
    refine aftI hS (cS (rest := []) X hP hS [.int q6.1] (m_J6_bitCount_0f7a4  e9) cw_J6_bitCount_0f7a4 tw_200 tw_438 (fits9 (by first | decide | omega) (by decide)) rfl rfl hl.1 (Nat.le_of_ble_eq_true rfl) dX7_meanings_27 ⟨Nat.zero_le _, Nat.zero_le _⟩) (fun H locs hP hS => ?_)
    refine lv_aload_n hx hb dX7_meanings_30 rfl (lv_at hl 1 rfl) ?_
    refine g_LP_book X hP  tw_62 dX7_meanings_31 ?_
    refine lv_bipush (v := (6 : Int32)) hx hb dX7_meanings_34 (by decide) ?_
    refine lv_iload_n hx hb dX7_meanings_36 rfl (lv_at hl 0 rfl) ?_
    obtain ⟨q10, e11, hf⟩ := bind_some hf
    refine aftI hS (cV (rest := [.int q8.1]) X hP hS [.int (6 : Int32), .int q4.1] (m_X0_factsFor (by decide) e11) cw_X0_factsFor tw_197 tw_471 tw_662 (bk_lt (by decide)) (cf_Book (by decide)) rfl (fits9 (by first | decide | omega) (by decide)) rfl rfl hl.1 (Nat.le_of_ble_eq_true rfl) dX7_meanings_37 ⟨Nat.zero_le _, Nat.zero_le _⟩) (fun H locs hP hS => ?_)
    obtain ⟨q12, e13, hf⟩ := bind_some hf
    refine aftI hS (cS (rest := [.int q8.1]) X hP hS [.int q10.1] (m_J6_bitCount_0f7a4  e13) cw_J6_bitCount_0f7a4 tw_200 tw_438 (fits9 (by first | decide | omega) (by decide)) rfl rfl hl.1 (Nat.le_of_ble_eq_true rfl) dX7_meanings_40 ⟨Nat.zero_le _, Nat.zero_le _⟩) (fun H locs hP hS => ?_)
    refine lv_imul hx hb dX7_meanings_43 ?_
    cases hf
    exact rtI X hr hlk hP hS dX7_meanings_44
  · rw [if_pos c3] at hf
    refine lv_iconst (v := (-1 : Int32)) hx hb dX7_meanings_7 (by decide) ?_
    cases hf
    exact rtI X hr hlk hP hS dX7_meanings_8
/-! X7_means -/
section
variable {p : Program} {l : Launch} {e : Env} {s : State} {m : MethodId} {args : Array Value} {below : List Frame} {meth : Method} {c : Code}
variable {D : va_G} {cI cP cB cA : ClassId} {ad : Nat → Nat} {tL tC : Nat}
set_option maxHeartbeats 4000000 in
set_option maxRecDepth 100000 in
theorem vj_X7_means_11 (X : Cx D cI cP cB cA 79 ad tL tC p s m c cX7_means 3 args RX7) (hr : meth.sig.returnType = (some .int)) (hlk : meth.locks = false) {res : Int32 × Stt} : ∀ (x1 : Int32) (x2 : Int32) (S : Stt) (H : Heap) (locs : List Loc) (ls : Array Slot), fj_X7_means_11 x1 x2 S = some res → va_P D vwCl (wl 79 ad (cfC ad cI cP cB cA S)) H → va_S (Ar 79 ad) s.heap H locs → lv_has ls 3 [(0, .ref (ad 0)), (1, .int x1), (2, .int x2)] → W p l e (rmD 4) s m args below meth c H locs 0 0 (MQ below (QI D 79 ad res.1 (cfC ad cI cP cB cA res.2)) args s 0 0 (Ar 79 ad)) (F0 m 11 ls []) := by
  intro x1 x2 S H locs ls hf hP hS hl
  have hx := X.1.1
  have hb := X.1.2.1
  unfold fj_X7_means_11 at hf
  refine lv_iload_n hx hb dX7_means_11 rfl (lv_at hl 2 rfl) ?_
  obtain ⟨q2, e3, hf⟩ := bind_some hf
  refine aftI hS (cS (rest := []) X hP hS [.int x2] (m_X7_isDay  e3) cw_X7_isDay tw_194 tw_468 (fits9 (by first | decide | omega) (by decide)) rfl rfl hl.1 (Nat.le_of_ble_eq_true rfl) dX7_means_12 ⟨Nat.zero_le _, Nat.zero_le _⟩) (fun H locs hP hS => ?_)
  refine lv_if_ne (tgt := 20) hx hb dX7_means_15 (by decide) (fun c4 => ?_) (fun c4 => ?_)
  · rw [if_neg c4] at hf
    refine lv_aload_n hx hb dX7_means_20 rfl (lv_at hl 0 rfl) ?_
    refine g_LP_book X hP  tw_62 dX7_means_21 ?_
    refine lv_iload_n hx hb dX7_means_24 rfl (lv_at hl 1 rfl) ?_
    refine lv_aload_n hx hb dX7_means_25 rfl (lv_at hl 0 rfl) ?_
    refine g_LP_book X hP  tw_62 dX7_means_26 ?_
    refine lv_iload_n hx hb dX7_means_29 rfl (lv_at hl 2 rfl) ?_
    obtain ⟨q5, e6, hf⟩ := bind_some hf
    refine aftI hS (cV (rest := [.int x1, .ref (ad (34 + 0))]) X hP hS [.int x2] (m_X0_bound (by decide) e6) cw_X0_bound tw_195 tw_469 tw_661 (bk_lt (by decide)) (cf_Book (by decide)) rfl (fits9 (by first | decide | omega) (by decide)) rfl rfl hl.1 (Nat.le_of_ble_eq_true rfl) dX7_means_30 ⟨Nat.zero_le _, Nat.zero_le _⟩) (fun H locs hP hS => ?_)
    obtain ⟨q7, e8, hf⟩ := bind_some hf
    refine aftI hS (cV (rest := []) X hP hS [.int x1, .int q5.1] (m_X0_factsFor (by decide) e8) cw_X0_factsFor tw_197 tw_471 tw_662 (bk_lt (by decide)) (cf_Book (by decide)) rfl (fits9 (by first | decide | omega) (by decide)) rfl rfl hl.1 (Nat.le_of_ble_eq_true rfl) dX7_means_33 ⟨Nat.zero_le _, Nat.zero_le _⟩) (fun H locs hP hS => ?_)
    cases hf
    exact rtI X hr hlk hP hS dX7_means_36
  · rw [if_pos c4] at hf
    refine lv_iconst (v := (-1 : Int32)) hx hb dX7_means_18 (by decide) ?_
    cases hf
    exact rtI X hr hlk hP hS dX7_means_19
end
set_option maxHeartbeats 4000000 in
set_option maxRecDepth 100000 in
theorem m_X7_means {l : Launch} {D : va_G} {cI cP cB cA : ClassId} {ad : Nat → Nat} {tL tC : Nat} {x1 : Int32} {x2 : Int32} {S : Stt} {res : Int32 × Stt} (hf : f_X7_means x1 x2 S = some res) : Ct l D cI cP cB cA 79 ad tL tC yX7_means cX7_means 3 (some .int) 4 [.ref (ad 0), .int x1, .int x2] (cfC ad cI cP cB cA S) (QI D 79 ad res.1 (cfC ad cI cP cB cA res.2)) := by
  refine ctOf (by decide) (Nat.le_of_ble_eq_true rfl) ?_
  intro p e s m args below meth c ls X hr hlk hP hl
  have hS : va_S (Ar 79 ad) s.heap s.heap [] := va_S.rf
  have hx := X.1.1
  have hb := X.1.2.1
  have hl : lv_has ls 3 [(0, .ref (ad 0)), (1, .int x1), (2, .int x2)] := hl
  unfold f_X7_means at hf
  refine lv_iload_n hx hb dX7_means_0 rfl (lv_at hl 1 rfl) ?_
  refine lv_iconst (v := (5 : Int32)) hx hb dX7_means_1 (by decide) ?_
  refine lv_icmp_eq (tgt := 11) hx hb dX7_means_2 (by decide) (fun c1 => ?_) (fun c1 => ?_)
  · rw [if_pos c1] at hf
    exact vj_X7_means_11 X hr hlk _ _ _ _ _ ls hf  hP hS (lv_sub hl [0, 1, 2] rfl)
  · rw [if_neg c1] at hf
    refine lv_iload_n hx hb dX7_means_5 rfl (lv_at hl 1 rfl) ?_
    refine lv_bipush (v := (6 : Int32)) hx hb dX7_means_6 (by decide) ?_
    refine lv_icmp_ne (tgt := 18) hx hb dX7_means_8 (by decide) (fun c9 => ?_) (fun c9 => ?_)
    · rw [if_neg c9] at hf
      refine lv_iconst (v := (-1 : Int32)) hx hb dX7_means_18 (by decide) ?_
      cases hf
      exact rtI X hr hlk hP hS dX7_means_19
    · rw [if_pos c9] at hf
      exact vj_X7_means_11 X hr hlk _ _ _ _ _ ls hf  hP hS (lv_sub hl [0, 1, 2] rfl)
/-! X7_never -/
section
variable {p : Program} {l : Launch} {e : Env} {s : State} {m : MethodId} {args : Array Value} {below : List Frame} {meth : Method} {c : Code}
variable {D : va_G} {cI cP cB cA : ClassId} {ad : Nat → Nat} {tL tC : Nat}
set_option maxHeartbeats 4000000 in
set_option maxRecDepth 100000 in
theorem vb_X7_never_6 (X : Cx D cI cP cB cA 79 ad tL tC p s m c cX7_never 4 args RX7) (hr : meth.sig.returnType = (some .int)) (hlk : meth.locks = false) {res : Int32 × Stt} (kb : Int32 → Int32 → Int32 → Stt → Option (Int32 × Stt)) (ke : Int32 → Int32 → Stt → Option (Int32 × Stt)) (hkb : ∀ (x1 : Int32) (x2 : Int32) (x3 : Int32) (S : Stt) (H : Heap) (locs : List Loc) (ls : Array Slot), kb x1 x2 x3 S = some res → va_P D vwCl (wl 79 ad (cfC ad cI cP cB cA S)) H → va_S (Ar 79 ad) s.heap H locs → lv_has ls 4 [(0, .ref (ad 0)), (1, .int x1), (2, .int x2), (3, .int x3)] → W p l e (rmD 4) s m args below meth c H locs 0 0 (MQ below (QI D 79 ad res.1 (cfC ad cI cP cB cA res.2)) args s 0 0 (Ar 79 ad)) (F0 m 6 ls [])) (hke : ∀ (x1 : Int32) (x2 : Int32) (S : Stt) (H : Heap) (locs : List Loc) (ls : Array Slot), ke x1 x2 S = some res → va_P D vwCl (wl 79 ad (cfC ad cI cP cB cA S)) H → va_S (Ar 79 ad) s.heap H locs → lv_has ls 4 [(0, .ref (ad 0)), (1, .int x1), (2, .int x2)] → W p l e (rmD 4) s m args below meth c H locs 0 0 (MQ below (QI D 79 ad res.1 (cfC ad cI cP cB cA res.2)) args s 0 0 (Ar 79 ad)) (F0 m 62 ls [])) : ∀ (x1 : Int32) (x2 : Int32) (x3 : Int32) (S : Stt) (H : Heap) (locs : List Loc) (ls : Array Slot), fb_X7_never_6 kb ke x1 x2 x3 S = some res → va_P D vwCl (wl 79 ad (cfC ad cI cP cB cA S)) H → va_S (Ar 79 ad) s.heap H locs → lv_has ls 4 [(0, .ref (ad 0)), (1, .int x1), (2, .int x2), (3, .int x3)] → W p l e (rmD 4) s m args below meth c H locs 0 0 (MQ below (QI D 79 ad res.1 (cfC ad cI cP cB cA res.2)) args s 0 0 (Ar 79 ad)) (F0 m 6 ls []) := by
  intro x1 x2 x3 S H locs ls hf hP hS hl
  have hx := X.1.1
  have hb := X.1.2.1
  unfold fb_X7_never_6 at hf
  refine lv_iload_n hx hb dX7_never_6 rfl (lv_at hl 3 rfl) ?_
  refine lv_aload_n hx hb dX7_never_7 rfl (lv_at hl 0 rfl) ?_
  refine g_LP_book X hP  tw_62 dX7_never_8 ?_
  refine gN_Book_count X hP (by decide) tw_28 dX7_never_11 ?_
  refine lv_icmp_ge (tgt := 62) hx hb dX7_never_14 (by decide) (fun c1 => ?_) (fun c1 => ?_)
  · rw [if_pos c1] at hf
    exact hke _ _ _ _ _ ls hf  hP hS (lv_sub hl [0, 1, 2] rfl)
  · rw [if_neg c1] at hf
    refine lv_aload_n hx hb dX7_never_17 rfl (lv_at hl 0 rfl) ?_
    refine g_LP_book X hP  tw_62 dX7_never_18 ?_
    refine lv_iload_n hx hb dX7_never_21 rfl (lv_at hl 3 rfl) ?_
    obtain ⟨q2, e3, hf⟩ := bind_some hf
    refine aftI hS (cV (rest := []) X hP hS [.int x3] (m_X0_firstDayOf (by decide) e3) cw_X0_firstDayOf tw_178 tw_455 tw_659 (bk_lt (by decide)) (cf_Book (by decide)) rfl (fits9 (by first | decide | omega) (by decide)) rfl rfl hl.1 (Nat.le_of_ble_eq_true rfl) dX7_never_22 ⟨Nat.zero_le _, Nat.zero_le _⟩) (fun H locs hP hS => ?_)
    refine lv_bipush (v := (-9 : Int32)) hx hb dX7_never_25 (by decide) ?_
    refine lv_icmp_eq (tgt := 33) hx hb dX7_never_27 (by decide) (fun c4 => ?_) (fun c4 => ?_)
    · rw [if_pos c4] at hf
      refine lv_iload_n hx hb dX7_never_33 rfl (lv_at hl 1 rfl) ?_
      refine lv_iconst (v := (1 : Int32)) hx hb dX7_never_34 (by decide) ?_
      refine lv_iload_n hx hb dX7_never_35 rfl (lv_at hl 3 rfl) ?_
      refine lv_ishl hx hb dX7_never_36 ?_
      refine lv_ior hx hb dX7_never_37 ?_
      refine lv_istore_n (lv' := [(1, .int (x1 ||| ((1 : Int32) <<< (x3 &&& 31)))), (0, .ref (ad 0)), (2, .int x2), (3, .int x3)]) hx hb dX7_never_38 rfl hl (by decide) rfl (fun ls hl => ?_)
      refine lv_aload_n hx hb dX7_never_39 rfl (lv_at hl 1 rfl) ?_
      refine g_LP_book X hP  tw_62 dX7_never_40 ?_
      refine lv_iload_n hx hb dX7_never_43 rfl (lv_at hl 3 rfl) ?_
      obtain ⟨q5, e6, hf⟩ := bind_some hf
      refine aftI hS (cV (rest := []) X hP hS [.int x3] (m_X0_isInRing (by decide) e6) cw_X0_isInRing tw_202 tw_474 tw_660 (bk_lt (by decide)) (cf_Book (by decide)) rfl (fits9 (by first | decide | omega) (by decide)) rfl rfl hl.1 (Nat.le_of_ble_eq_true rfl) dX7_never_44 ⟨Nat.zero_le _, Nat.zero_le _⟩) (fun H locs hP hS => ?_)
      refine lv_if_eq (tgt := 56) hx hb dX7_never_47 (by decide) (fun c7 => ?_) (fun c7 => ?_)
      · rw [if_pos c7] at hf
        refine lv_iinc (v := (x3 + (1 : Int32))) (lv' := [(3, .int (x3 + (1 : Int32))), (1, .int (x1 ||| ((1 : Int32) <<< (x3 &&& 31)))), (0, .ref (ad 0)), (2, .int x2)]) hx hb dX7_never_56 hl (k := 3) rfl rfl (by decide) rfl (fun ls hl => ?_)
        refine lv_goto (tgt := 6) hx hb dX7_never_59 (by decide) ?_
        exact hkb _ _ _ _ _ _ ls hf  hP hS (lv_sub hl [2, 1, 3, 0] rfl)
      · rw [if_neg c7] at hf
        refine lv_iload_n hx hb dX7_never_50 rfl (lv_at hl 2 rfl) ?_
        refine lv_iconst (v := (1 : Int32)) hx hb dX7_never_51 (by decide) ?_
        refine lv_iload_n hx hb dX7_never_52 rfl (lv_at hl 3 rfl) ?_
        refine lv_ishl hx hb dX7_never_53 ?_
        refine lv_ior hx hb dX7_never_54 ?_
        refine lv_istore_n (lv' := [(2, .int (x2 ||| ((1 : Int32) <<< (x3 &&& 31)))), (1, .int (x1 ||| ((1 : Int32) <<< (x3 &&& 31)))), (0, .ref (ad 0)), (3, .int x3)]) hx hb dX7_never_55 rfl hl (by decide) rfl (fun ls hl => ?_)
        refine lv_iinc (v := (x3 + (1 : Int32))) (lv' := [(3, .int (x3 + (1 : Int32))), (2, .int (x2 ||| ((1 : Int32) <<< (x3 &&& 31)))), (1, .int (x1 ||| ((1 : Int32) <<< (x3 &&& 31)))), (0, .ref (ad 0))]) hx hb dX7_never_56 hl (k := 3) rfl rfl (by decide) rfl (fun ls hl => ?_)
        refine lv_goto (tgt := 6) hx hb dX7_never_59 (by decide) ?_
        exact hkb _ _ _ _ _ _ ls hf  hP hS (lv_sub hl [3, 2, 1, 0] rfl)
    · rw [if_neg c4] at hf
      refine lv_goto (tgt := 56) hx hb dX7_never_30 (by decide) ?_
      refine lv_iinc (v := (x3 + (1 : Int32))) (lv' := [(3, .int (x3 + (1 : Int32))), (0, .ref (ad 0)), (1, .int x1), (2, .int x2)]) hx hb dX7_never_56 hl (k := 3) rfl rfl (by decide) rfl (fun ls hl => ?_)
      refine lv_goto (tgt := 6) hx hb dX7_never_59 (by decide) ?_
      exact hkb _ _ _ _ _ _ ls hf  hP hS (lv_sub hl [1, 2, 3, 0] rfl)
set_option maxHeartbeats 4000000 in
set_option maxRecDepth 100000 in
theorem vl_X7_never_6 (X : Cx D cI cP cB cA 79 ad tL tC p s m c cX7_never 4 args RX7) (hr : meth.sig.returnType = (some .int)) (hlk : meth.locks = false) {res : Int32 × Stt} (ke : Int32 → Int32 → Stt → Option (Int32 × Stt)) (hke : ∀ (x1 : Int32) (x2 : Int32) (S : Stt) (H : Heap) (locs : List Loc) (ls : Array Slot), ke x1 x2 S = some res → va_P D vwCl (wl 79 ad (cfC ad cI cP cB cA S)) H → va_S (Ar 79 ad) s.heap H locs → lv_has ls 4 [(0, .ref (ad 0)), (1, .int x1), (2, .int x2)] → W p l e (rmD 4) s m args below meth c H locs 0 0 (MQ below (QI D 79 ad res.1 (cfC ad cI cP cB cA res.2)) args s 0 0 (Ar 79 ad)) (F0 m 62 ls [])) : ∀ (n : Nat), ∀ (x1 : Int32) (x2 : Int32) (x3 : Int32) (S : Stt) (H : Heap) (locs : List Loc) (ls : Array Slot), fl_X7_never_6 ke n x1 x2 x3 S = some res → va_P D vwCl (wl 79 ad (cfC ad cI cP cB cA S)) H → va_S (Ar 79 ad) s.heap H locs → lv_has ls 4 [(0, .ref (ad 0)), (1, .int x1), (2, .int x2), (3, .int x3)] → W p l e (rmD 4) s m args below meth c H locs 0 0 (MQ below (QI D 79 ad res.1 (cfC ad cI cP cB cA res.2)) args s 0 0 (Ar 79 ad)) (F0 m 6 ls []) := by
  intro n
  induction n with
  | zero =>
    intro x1 x2 x3 S H locs ls hf hP hS hl
    cases hf
  | succ n ih =>
    intro x1 x2 x3 S H locs ls hf hP hS hl
    exact vb_X7_never_6 X hr hlk _ ke ih hke x1 x2 x3 S H locs ls hf  hP hS hl
end
set_option maxHeartbeats 4000000 in
set_option maxRecDepth 100000 in
theorem m_X7_never {l : Launch} {D : va_G} {cI cP cB cA : ClassId} {ad : Nat → Nat} {tL tC : Nat} {S : Stt} {res : Int32 × Stt} (hf : f_X7_never  S = some res) : Ct l D cI cP cB cA 79 ad tL tC yX7_never cX7_never 4 (some .int) 4 [.ref (ad 0)] (cfC ad cI cP cB cA S) (QI D 79 ad res.1 (cfC ad cI cP cB cA res.2)) := by
  refine ctOf (by decide) (Nat.le_of_ble_eq_true rfl) ?_
  intro p e s m args below meth c ls X hr hlk hP hl
  have hS : va_S (Ar 79 ad) s.heap s.heap [] := va_S.rf
  have hx := X.1.1
  have hb := X.1.2.1
  have hl : lv_has ls 4 [(0, .ref (ad 0))] := hl
  unfold f_X7_never at hf
  refine lv_iconst (v := (0 : Int32)) hx hb dX7_never_0 (by decide) ?_
  refine lv_istore_n (lv' := [(1, .int (0 : Int32)), (0, .ref (ad 0))]) hx hb dX7_never_1 rfl hl (by decide) rfl (fun ls hl => ?_)
  refine lv_iconst (v := (0 : Int32)) hx hb dX7_never_2 (by decide) ?_
  refine lv_istore_n (lv' := [(2, .int (0 : Int32)), (1, .int (0 : Int32)), (0, .ref (ad 0))]) hx hb dX7_never_3 rfl hl (by decide) rfl (fun ls hl => ?_)
  refine lv_iconst (v := (0 : Int32)) hx hb dX7_never_4 (by decide) ?_
  refine lv_istore_n (lv' := [(3, .int (0 : Int32)), (2, .int (0 : Int32)), (1, .int (0 : Int32)), (0, .ref (ad 0))]) hx hb dX7_never_5 rfl hl (by decide) rfl (fun ls hl => ?_)
  refine vl_X7_never_6 X hr hlk _ ?_ 300 _ _ _ _ _ _ ls hf  hP hS (lv_sub hl [3, 2, 1, 0] rfl)
  intro x1 x2 S H locs ls hf hP hS hl
  refine lv_aload_n hx hb dX7_never_62 rfl (lv_at hl 0 rfl) ?_
  refine lv_iload_n hx hb dX7_never_63 rfl (lv_at hl 2 rfl) ?_
  refine p_LP_lastAsked X hP hS  tw_71 dX7_never_64 (fun H locs hP hS => ?_)
  refine lv_iload_n hx hb dX7_never_67 rfl (lv_at hl 1 rfl) ?_
  cases hf
  exact rtI X hr hlk hP hS dX7_never_68
/-! X8_askedDeeds -/
section
variable {p : Program} {l : Launch} {e : Env} {s : State} {m : MethodId} {args : Array Value} {below : List Frame} {meth : Method} {c : Code}
variable {D : va_G} {cI cP cB cA : ClassId} {ad : Nat → Nat} {tL tC : Nat}
set_option maxHeartbeats 4000000 in
set_option maxRecDepth 100000 in
theorem vb_X8_askedDeeds_31 (X : Cx D cI cP cB cA 19 ad tL tC p s m c cX8_askedDeeds 5 args RX8) (hr : meth.sig.returnType = (some .int)) (hlk : meth.locks = false) {res : Int32 × Stt} (kb : Int32 → Int32 → Stt → Option (Int32 × Stt)) (ke : Stt → Option (Int32 × Stt)) (hkb : ∀ (x1 : Int32) (x4 : Int32) (S : Stt) (H : Heap) (locs : List Loc) (ls : Array Slot), kb x1 x4 S = some res → va_P D vwCl (wl 19 ad (cfM ad cI S)) H → va_S (Ar 19 ad) s.heap H locs → lv_has ls 5 [(0, .ref (ad 0)), (1, .int x1), (4, .int x4)] → W p l e (rmD 4) s m args below meth c H locs 0 0 (MQ below (QI D 19 ad res.1 (cfM ad cI res.2)) args s 0 0 (Ar 19 ad)) (F0 m 31 ls [])) (hke : ∀ (S : Stt) (H : Heap) (locs : List Loc) (ls : Array Slot), ke S = some res → va_P D vwCl (wl 19 ad (cfM ad cI S)) H → va_S (Ar 19 ad) s.heap H locs → lv_has ls 5 [] → W p l e (rmD 4) s m args below meth c H locs 0 0 (MQ below (QI D 19 ad res.1 (cfM ad cI res.2)) args s 0 0 (Ar 19 ad)) (F0 m 67 ls [])) : ∀ (x1 : Int32) (x4 : Int32) (S : Stt) (H : Heap) (locs : List Loc) (ls : Array Slot), fb_X8_askedDeeds_31 kb ke x1 x4 S = some res → va_P D vwCl (wl 19 ad (cfM ad cI S)) H → va_S (Ar 19 ad) s.heap H locs → lv_has ls 5 [(0, .ref (ad 0)), (1, .int x1), (4, .int x4)] → W p l e (rmD 4) s m args below meth c H locs 0 0 (MQ below (QI D 19 ad res.1 (cfM ad cI res.2)) args s 0 0 (Ar 19 ad)) (F0 m 31 ls []) := by
  intro x1 x4 S H locs ls hf hP hS hl
  have hx := X.1.1
  have hb := X.1.2.1
  unfold fb_X8_askedDeeds_31 at hf
  refine lv_iload hx hb dX8_askedDeeds_31 (lv_at hl 2 rfl) ?_
  refine lv_aload_n hx hb dX8_askedDeeds_33 rfl (lv_at hl 0 rfl) ?_
  refine g_M_sizes X hP  tw_81 dX8_askedDeeds_34 ?_
  refine lv_iload_n hx hb dX8_askedDeeds_37 rfl (lv_at hl 1 rfl) ?_
  obtain ⟨g6, hf⟩ := grd_some hf
  refine r_m_sizes X hP  g6 dX8_askedDeeds_38 ?_
  refine lv_icmp_ge (tgt := 67) hx hb dX8_askedDeeds_39 (by decide) (fun c7 => ?_) (fun c7 => ?_)
  · rw [if_pos c7] at hf
    exact hke  _ _ _ ls hf  hP hS (lv_sub hl [] rfl)
  · rw [if_neg c7] at hf
    refine lv_aload_n hx hb dX8_askedDeeds_42 rfl (lv_at hl 0 rfl) ?_
    refine lv_iload_n hx hb dX8_askedDeeds_43 rfl (lv_at hl 1 rfl) ?_
    refine lv_iload hx hb dX8_askedDeeds_44 (lv_at hl 2 rfl) ?_
    obtain ⟨q8, e9, hf⟩ := bind_some hf
    refine aftI hS (cV (rest := []) X hP hS [.int x1, .int x4] (m_X8_rowAt  e9) cw_X8_rowAt tw_293 tw_551 tw_766 (by decide) (cf_M ) rfl (fits9 (by first | decide | omega) (by decide)) rfl rfl hl.1 (Nat.le_of_ble_eq_true rfl) dX8_askedDeeds_46 ⟨Nat.zero_le _, Nat.zero_le _⟩) (fun H locs hP hS => ?_)
    obtain ⟨q10, e11, hf⟩ := bind_some hf
    refine aftI hS (cS (rest := []) X hP hS [.int q8.1] (m_X8_isCase  e11) cw_X8_isCase tw_338 tw_595 (fits9 (by first | decide | omega) (by decide)) rfl rfl hl.1 (Nat.le_of_ble_eq_true rfl) dX8_askedDeeds_49 ⟨Nat.zero_le _, Nat.zero_le _⟩) (fun H locs hP hS => ?_)
    refine lv_if_ne (tgt := 61) hx hb dX8_askedDeeds_52 (by decide) (fun c12 => ?_) (fun c12 => ?_)
    · rw [if_neg c12] at hf
      refine lv_iinc (v := (x4 + (1 : Int32))) (lv' := [(4, .int (x4 + (1 : Int32))), (0, .ref (ad 0)), (1, .int x1)]) hx hb dX8_askedDeeds_61 hl (k := 2) rfl rfl (by decide) rfl (fun ls hl => ?_)
      refine lv_goto (tgt := 31) hx hb dX8_askedDeeds_64 (by decide) ?_
      exact hkb _ _ _ _ _ ls hf  hP hS (lv_sub hl [1, 2, 0] rfl)
    · rw [if_pos c12] at hf
      refine lv_aload_n hx hb dX8_askedDeeds_55 rfl (lv_at hl 0 rfl) ?_
      refine lv_iconst (v := (3 : Int32)) hx hb dX8_askedDeeds_56 (by decide) ?_
      obtain ⟨q13, e14, hf⟩ := bind_some hf
      refine aftI hS (cV (rest := []) X hP hS [.int (3 : Int32)] (m_X8_meet  e14) cw_X8_meet tw_289 tw_547 tw_762 (by decide) (cf_M ) rfl (fits9 (by first | decide | omega) (by decide)) rfl rfl hl.1 (Nat.le_of_ble_eq_true rfl) dX8_askedDeeds_57 ⟨Nat.zero_le _, Nat.zero_le _⟩) (fun H locs hP hS => ?_)
      cases hf
      exact rtI X hr hlk hP hS dX8_askedDeeds_60
set_option maxHeartbeats 4000000 in
set_option maxRecDepth 100000 in
theorem vl_X8_askedDeeds_31 (X : Cx D cI cP cB cA 19 ad tL tC p s m c cX8_askedDeeds 5 args RX8) (hr : meth.sig.returnType = (some .int)) (hlk : meth.locks = false) {res : Int32 × Stt} (ke : Stt → Option (Int32 × Stt)) (hke : ∀ (S : Stt) (H : Heap) (locs : List Loc) (ls : Array Slot), ke S = some res → va_P D vwCl (wl 19 ad (cfM ad cI S)) H → va_S (Ar 19 ad) s.heap H locs → lv_has ls 5 [] → W p l e (rmD 4) s m args below meth c H locs 0 0 (MQ below (QI D 19 ad res.1 (cfM ad cI res.2)) args s 0 0 (Ar 19 ad)) (F0 m 67 ls [])) : ∀ (n : Nat), ∀ (x1 : Int32) (x4 : Int32) (S : Stt) (H : Heap) (locs : List Loc) (ls : Array Slot), fl_X8_askedDeeds_31 ke n x1 x4 S = some res → va_P D vwCl (wl 19 ad (cfM ad cI S)) H → va_S (Ar 19 ad) s.heap H locs → lv_has ls 5 [(0, .ref (ad 0)), (1, .int x1), (4, .int x4)] → W p l e (rmD 4) s m args below meth c H locs 0 0 (MQ below (QI D 19 ad res.1 (cfM ad cI res.2)) args s 0 0 (Ar 19 ad)) (F0 m 31 ls []) := by
  intro n
  induction n with
  | zero =>
    intro x1 x4 S H locs ls hf hP hS hl
    cases hf
  | succ n ih =>
    intro x1 x4 S H locs ls hf hP hS hl
    exact vb_X8_askedDeeds_31 X hr hlk _ ke ih hke x1 x4 S H locs ls hf  hP hS hl
end
set_option maxHeartbeats 4000000 in
set_option maxRecDepth 100000 in
theorem m_X8_askedDeeds {l : Launch} {D : va_G} {cI cP cB cA : ClassId} {ad : Nat → Nat} {tL tC : Nat} {x1 : Int32} {x2 : Int32} {S : Stt} {res : Int32 × Stt} (hf : f_X8_askedDeeds x1 x2 S = some res) : Ct l D cI cP cB cA 19 ad tL tC yX8_askedDeeds cX8_askedDeeds 5 (some .int) 4 [.ref (ad 0), .int x1, .int x2] (cfM ad cI S) (QI D 19 ad res.1 (cfM ad cI res.2)) := by
  refine ctOf (by decide) (Nat.le_of_ble_eq_true rfl) ?_
  intro p e s m args below meth c ls X hr hlk hP hl
  have hS : va_S (Ar 19 ad) s.heap s.heap [] := va_S.rf
  have hx := X.1.1
  have hb := X.1.2.1
  have hl : lv_has ls 5 [(0, .ref (ad 0)), (1, .int x1), (2, .int x2)] := hl
  unfold f_X8_askedDeeds at hf
  refine lv_aload_n hx hb dX8_askedDeeds_0 rfl (lv_at hl 0 rfl) ?_
  refine lv_iload_n hx hb dX8_askedDeeds_1 rfl (lv_at hl 1 rfl) ?_
  obtain ⟨q1, e2, hf⟩ := bind_some hf
  refine aftI hS (cV (rest := []) X hP hS [.int x1] (m_X8_askedRow  e2) cw_X8_askedRow tw_292 tw_550 tw_764 (by decide) (cf_M ) rfl (fits9 (by first | decide | omega) (by decide)) rfl rfl hl.1 (Nat.le_of_ble_eq_true rfl) dX8_askedDeeds_2 ⟨Nat.zero_le _, Nat.zero_le _⟩) (fun H locs hP hS => ?_)
  refine lv_istore_n (lv' := [(3, .int q1.1), (0, .ref (ad 0)), (1, .int x1), (2, .int x2)]) hx hb dX8_askedDeeds_5 rfl hl (by decide) rfl (fun ls hl => ?_)
  refine lv_iload_n hx hb dX8_askedDeeds_6 rfl (lv_at hl 0 rfl) ?_
  refine lv_if_ge (tgt := 12) hx hb dX8_askedDeeds_7 (by decide) (fun c3 => ?_) (fun c3 => ?_)
  · rw [if_pos c3] at hf
    refine lv_aload_n hx hb dX8_askedDeeds_12 rfl (lv_at hl 1 rfl) ?_
    refine g_M_sizes X hP  tw_81 dX8_askedDeeds_13 ?_
    refine lv_iload_n hx hb dX8_askedDeeds_16 rfl (lv_at hl 2 rfl) ?_
    obtain ⟨g4, hf⟩ := grd_some hf
    refine r_m_sizes X hP  g4 dX8_askedDeeds_17 ?_
    refine lv_iload_n hx hb dX8_askedDeeds_18 rfl (lv_at hl 3 rfl) ?_
    refine lv_icmp_le (tgt := 28) hx hb dX8_askedDeeds_19 (by decide) (fun c5 => ?_) (fun c5 => ?_)
    · rw [if_pos c5] at hf
      refine lv_iconst (v := (0 : Int32)) hx hb dX8_askedDeeds_28 (by decide) ?_
      refine lv_istore (lv' := [(4, .int (0 : Int32)), (3, .int q1.1), (0, .ref (ad 0)), (1, .int x1), (2, .int x2)]) hx hb dX8_askedDeeds_29 hl (by decide) rfl (fun ls hl => ?_)
      refine vl_X8_askedDeeds_31 X hr hlk _ ?_ 300 _ _ _ _ _ ls hf  hP hS (lv_sub hl [2, 3, 0] rfl)
      intro S H locs ls hf hP hS hl
      refine lv_iconst (v := (0 : Int32)) hx hb dX8_askedDeeds_67 (by decide) ?_
      cases hf
      exact rtI X hr hlk hP hS dX8_askedDeeds_68
    · rw [if_neg c5] at hf
      refine lv_aload_n hx hb dX8_askedDeeds_22 rfl (lv_at hl 1 rfl) ?_
      refine lv_iconst (v := (5 : Int32)) hx hb dX8_askedDeeds_23 (by decide) ?_
      obtain ⟨q15, e16, hf⟩ := bind_some hf
      refine aftI hS (cV (rest := []) X hP hS [.int (5 : Int32)] (m_X8_meet  e16) cw_X8_meet tw_289 tw_547 tw_762 (by decide) (cf_M ) rfl (fits9 (by first | decide | omega) (by decide)) rfl rfl hl.1 (Nat.le_of_ble_eq_true rfl) dX8_askedDeeds_24 ⟨Nat.zero_le _, Nat.zero_le _⟩) (fun H locs hP hS => ?_)
      cases hf
      exact rtI X hr hlk hP hS dX8_askedDeeds_27
  · rw [if_neg c3] at hf
    refine lv_iload_n hx hb dX8_askedDeeds_10 rfl (lv_at hl 0 rfl) ?_
    cases hf
    exact rtI X hr hlk hP hS dX8_askedDeeds_11
