/-! X7_all -/
section
variable {p : Program} {l : Launch} {e : Env} {s : State} {m : MethodId} {args : Array Value} {below : List Frame} {meth : Method} {c : Code}
variable {D : va_G} {cI cP cB cA : ClassId} {ad : Nat → Nat} {tL tC : Nat}
end
set_option maxHeartbeats 4000000 in
set_option maxRecDepth 100000 in
theorem m_X7_all {l : Launch} {D : va_G} {cI cP cB cA : ClassId} {ad : Nat → Nat} {tL tC : Nat} {S : Stt} {res : Int32 × Stt} (hf : f_X7_all  S = some res) : Ct l D cI cP cB cA 79 ad tL tC yX7_all cX7_all 1 (some .int) 6 [.ref (ad 0)] (cfC ad cI cP cB cA S) (QI D 79 ad res.1 (cfC ad cI cP cB cA res.2)) := by
  refine ctOf (by decide) (Nat.le_of_ble_eq_true rfl) ?_
  intro p e s m args below meth c ls X hr hlk hP hl
  have hS : va_S (Ar 79 ad) s.heap s.heap [] := va_S.rf
  have hx := X.1.1
  have hb := X.1.2.1
  have hl : lv_has ls 1 [(0, .ref (ad 0))] := hl
  unfold f_X7_all at hf
  refine lv_aload_n hx hb dX7_all_0 rfl (lv_at hl 0 rfl) ?_
  refine g_LP_court X hP  tw_66 dX7_all_1 ?_
  refine lv_aload_n hx hb dX7_all_4 rfl (lv_at hl 0 rfl) ?_
  refine g_LP_book X hP  tw_62 dX7_all_5 ?_
  obtain ⟨q1, e2, hf⟩ := bind_some hf
  refine aftI hS (cV (rest := []) X hP hS [.ref (ad (34 + 0))] (m_X1_waitingInAll (by decide) e2) cw_X1_waitingInAll tw_221 tw_490 tw_670 (by decide) (cf_Court ) rfl (fits9 (by first | decide | omega) (by decide)) rfl rfl hl.1 (Nat.le_of_ble_eq_true rfl) dX7_all_8 ⟨Nat.zero_le _, Nat.zero_le _⟩) (fun H locs hP hS => ?_)
  cases hf
  exact rtI X hr hlk hP hS dX7_all_11
/-! X7_deeds -/
section
variable {p : Program} {l : Launch} {e : Env} {s : State} {m : MethodId} {args : Array Value} {below : List Frame} {meth : Method} {c : Code}
variable {D : va_G} {cI cP cB cA : ClassId} {ad : Nat → Nat} {tL tC : Nat}
end
set_option maxHeartbeats 4000000 in
set_option maxRecDepth 100000 in
theorem m_X7_deeds {l : Launch} {D : va_G} {cI cP cB cA : ClassId} {ad : Nat → Nat} {tL tC : Nat} {x1 : Int32} {x2 : Int32} {S : Stt} {res : Int32 × Stt} (hf : f_X7_deeds x1 x2 S = some res) : Ct l D cI cP cB cA 79 ad tL tC yX7_deeds cX7_deeds 4 (some .int) 6 [.ref (ad 0), .int x1, .int x2] (cfC ad cI cP cB cA S) (QI D 79 ad res.1 (cfC ad cI cP cB cA res.2)) := by
  refine ctOf (by decide) (Nat.le_of_ble_eq_true rfl) ?_
  intro p e s m args below meth c ls X hr hlk hP hl
  have hS : va_S (Ar 79 ad) s.heap s.heap [] := va_S.rf
  have hx := X.1.1
  have hb := X.1.2.1
  have hl : lv_has ls 4 [(0, .ref (ad 0)), (1, .int x1), (2, .int x2)] := hl
  unfold f_X7_deeds at hf
  refine lv_aload_n hx hb dX7_deeds_0 rfl (lv_at hl 0 rfl) ?_
  refine lv_iload_n hx hb dX7_deeds_1 rfl (lv_at hl 1 rfl) ?_
  refine lv_iload_n hx hb dX7_deeds_2 rfl (lv_at hl 2 rfl) ?_
  refine lv_bipush (v := (8 : Int32)) hx hb dX7_deeds_3 (by decide) ?_
  obtain ⟨q1, e2, hf⟩ := bind_some hf
  refine aftI hS (cV (rest := []) X hP hS [.int x1, .int x2, .int (8 : Int32)] (m_X7_refusalOfDeeds  e2) cw_X7_refusalOfDeeds tw_227 tw_493 tw_758 (by decide) (cf_LP ) rfl (fits9 (by first | decide | omega) (by decide)) rfl rfl hl.1 (Nat.le_of_ble_eq_true rfl) dX7_deeds_5 ⟨Nat.zero_le _, Nat.zero_le _⟩) (fun H locs hP hS => ?_)
  refine lv_istore_n (lv' := [(3, .int q1.1), (0, .ref (ad 0)), (1, .int x1), (2, .int x2)]) hx hb dX7_deeds_8 rfl hl (by decide) rfl (fun ls hl => ?_)
  refine lv_iload_n hx hb dX7_deeds_9 rfl (lv_at hl 0 rfl) ?_
  refine lv_if_eq (tgt := 15) hx hb dX7_deeds_10 (by decide) (fun c3 => ?_) (fun c3 => ?_)
  · rw [if_pos c3] at hf
    refine lv_aload_n hx hb dX7_deeds_15 rfl (lv_at hl 1 rfl) ?_
    refine g_LP_planner X hP  tw_67 dX7_deeds_16 ?_
    refine lv_aload_n hx hb dX7_deeds_19 rfl (lv_at hl 1 rfl) ?_
    refine g_LP_rows X hP  tw_60 dX7_deeds_20 ?_
    refine lv_iload_n hx hb dX7_deeds_23 rfl (lv_at hl 2 rfl) ?_
    refine lv_aload_n hx hb dX7_deeds_24 rfl (lv_at hl 1 rfl) ?_
    refine g_LP_court X hP  tw_66 dX7_deeds_25 ?_
    refine lv_aload_n hx hb dX7_deeds_28 rfl (lv_at hl 1 rfl) ?_
    refine g_LP_book X hP  tw_62 dX7_deeds_29 ?_
    obtain ⟨q4, e5, hf⟩ := bind_some hf
    refine aftV hS (cV (rest := []) X hP hS [.ref (ad (1 + 0)), .int x1, .ref (ad 8), .ref (ad (34 + 0))] (m_X4_take (by decide) (by decide) e5) cw_X4_take tw_228 tw_494 tw_681 (by decide) (cf_Planner ) rfl (fits9 (by first | decide | omega) (by decide)) rfl rfl hl.1 (Nat.le_of_ble_eq_true rfl) dX7_deeds_32 ⟨Nat.zero_le _, Nat.zero_le _⟩) (fun H locs hP hS => ?_)
    refine lv_aload_n hx hb dX7_deeds_35 rfl (lv_at hl 1 rfl) ?_
    refine g_LP_planner X hP  tw_67 dX7_deeds_36 ?_
    obtain ⟨q6, e7, hf⟩ := bind_some hf
    refine aftI hS (cV (rest := []) X hP hS [] (m_X4_planAsTheyCome  e7) cw_X4_planAsTheyCome tw_233 tw_496 tw_683 (by decide) (cf_Planner ) rfl (fits9 (by first | decide | omega) (by decide)) rfl rfl hl.1 (Nat.le_of_ble_eq_true rfl) dX7_deeds_39 ⟨Nat.zero_le _, Nat.zero_le _⟩) (fun H locs hP hS => ?_)
    refine lv_if_ne (tgt := 48) hx hb dX7_deeds_42 (by decide) (fun c8 => ?_) (fun c8 => ?_)
    · rw [if_neg c8] at hf
      refine lv_aload_n hx hb dX7_deeds_48 rfl (lv_at hl 1 rfl) ?_
      refine g_LP_planner X hP  tw_67 dX7_deeds_49 ?_
      refine lv_aload_n hx hb dX7_deeds_52 rfl (lv_at hl 1 rfl) ?_
      refine g_LP_rows X hP  tw_60 dX7_deeds_53 ?_
      refine lv_iload_n hx hb dX7_deeds_56 rfl (lv_at hl 3 rfl) ?_
      obtain ⟨q9, e10, hf⟩ := bind_some hf
      refine aftV hS (cV (rest := []) X hP hS [.ref (ad (1 + 0)), .int x2] (m_X4_tellDays (by decide) e10) cw_X4_tellDays tw_236 tw_498 tw_686 (by decide) (cf_Planner ) rfl (fits9 (by first | decide | omega) (by decide)) rfl rfl hl.1 (Nat.le_of_ble_eq_true rfl) dX7_deeds_57 ⟨Nat.zero_le _, Nat.zero_le _⟩) (fun H locs hP hS => ?_)
      refine lv_aload_n hx hb dX7_deeds_60 rfl (lv_at hl 1 rfl) ?_
      refine g_LP_planner X hP  tw_67 dX7_deeds_61 ?_
      refine gN_Planner_soonest X hP  tw_54 dX7_deeds_64 ?_
      cases hf
      exact rtI X hr hlk hP hS dX7_deeds_67
    · rw [if_pos c8] at hf
      refine lv_bipush (v := (-6 : Int32)) hx hb dX7_deeds_45 (by decide) ?_
      cases hf
      exact rtI X hr hlk hP hS dX7_deeds_47
  · rw [if_neg c3] at hf
    refine lv_iload_n hx hb dX7_deeds_13 rfl (lv_at hl 0 rfl) ?_
    cases hf
    exact rtI X hr hlk hP hS dX7_deeds_14
/-! X7_flip -/
section
variable {p : Program} {l : Launch} {e : Env} {s : State} {m : MethodId} {args : Array Value} {below : List Frame} {meth : Method} {c : Code}
variable {D : va_G} {cI cP cB cA : ClassId} {ad : Nat → Nat} {tL tC : Nat}
end
set_option maxHeartbeats 4000000 in
set_option maxRecDepth 100000 in
theorem m_X7_flip {l : Launch} {D : va_G} {cI cP cB cA : ClassId} {ad : Nat → Nat} {tL tC : Nat} {x1 : Int32} {x2 : Int32} {S : Stt} {res : Int32 × Stt} (hf : f_X7_flip x1 x2 S = some res) : Ct l D cI cP cB cA 79 ad tL tC yX7_flip cX7_flip 3 (some .int) 6 [.ref (ad 0), .int x1, .int x2] (cfC ad cI cP cB cA S) (QI D 79 ad res.1 (cfC ad cI cP cB cA res.2)) := by
  refine ctOf (by decide) (Nat.le_of_ble_eq_true rfl) ?_
  intro p e s m args below meth c ls X hr hlk hP hl
  have hS : va_S (Ar 79 ad) s.heap s.heap [] := va_S.rf
  have hx := X.1.1
  have hb := X.1.2.1
  have hl : lv_has ls 3 [(0, .ref (ad 0)), (1, .int x1), (2, .int x2)] := hl
  unfold f_X7_flip at hf
  refine lv_iload_n hx hb dX7_flip_0 rfl (lv_at hl 1 rfl) ?_
  obtain ⟨q1, e2, hf⟩ := bind_some hf
  refine aftI hS (cS (rest := []) X hP hS [.int x1] (m_X7_isCase  e2) cw_X7_isCase tw_204 tw_476 (fits9 (by first | decide | omega) (by decide)) rfl rfl hl.1 (Nat.le_of_ble_eq_true rfl) dX7_flip_1 ⟨Nat.zero_le _, Nat.zero_le _⟩) (fun H locs hP hS => ?_)
  refine lv_if_eq (tgt := 11) hx hb dX7_flip_4 (by decide) (fun c3 => ?_) (fun c3 => ?_)
  · rw [if_pos c3] at hf
    refine lv_iconst (v := (-1 : Int32)) hx hb dX7_flip_11 (by decide) ?_
    cases hf
    exact rtI X hr hlk hP hS dX7_flip_12
  · rw [if_neg c3] at hf
    refine lv_iload_n hx hb dX7_flip_7 rfl (lv_at hl 2 rfl) ?_
    refine lv_if_ge (tgt := 13) hx hb dX7_flip_8 (by decide) (fun c4 => ?_) (fun c4 => ?_)
    · rw [if_pos c4] at hf
      refine lv_aload_n hx hb dX7_flip_13 rfl (lv_at hl 0 rfl) ?_
      refine g_LP_court X hP  tw_66 dX7_flip_14 ?_
      refine lv_aload_n hx hb dX7_flip_17 rfl (lv_at hl 0 rfl) ?_
      refine g_LP_book X hP  tw_62 dX7_flip_18 ?_
      obtain ⟨q5, e6, hf⟩ := bind_some hf
      refine aftV hS (cV (rest := []) X hP hS [.ref (ad (34 + 0))] (m_X1_hearReading (by decide) e6) cw_X1_hearReading tw_245 tw_504 tw_671 (by decide) (cf_Court ) rfl (fits9 (by first | decide | omega) (by decide)) rfl rfl hl.1 (Nat.le_of_ble_eq_true rfl) dX7_flip_21 ⟨Nat.zero_le _, Nat.zero_le _⟩) (fun H locs hP hS => ?_)
      refine lv_iload_n hx hb dX7_flip_24 rfl (lv_at hl 2 rfl) ?_
      refine lv_aload_n hx hb dX7_flip_25 rfl (lv_at hl 0 rfl) ?_
      refine g_LP_court X hP  tw_66 dX7_flip_26 ?_
      refine lv_iload_n hx hb dX7_flip_29 rfl (lv_at hl 1 rfl) ?_
      obtain ⟨q7, e8, hf⟩ := bind_some hf
      refine aftI hS (cV (rest := [.int x2]) X hP hS [.int x1] (m_X1_trace  e8) cw_X1_trace tw_246 tw_505 tw_672 (by decide) (cf_Court ) rfl (fits9 (by first | decide | omega) (by decide)) rfl rfl hl.1 (Nat.le_of_ble_eq_true rfl) dX7_flip_30 ⟨Nat.zero_le _, Nat.zero_le _⟩) (fun H locs hP hS => ?_)
      refine lv_icmp_ge (tgt := 55) hx hb dX7_flip_33 (by decide) (fun c9 => ?_) (fun c9 => ?_)
      · rw [if_pos c9] at hf
        refine lv_bipush (v := (-9 : Int32)) hx hb dX7_flip_55 (by decide) ?_
        cases hf
        exact rtI X hr hlk hP hS dX7_flip_57
      · rw [if_neg c9] at hf
        refine lv_aload_n hx hb dX7_flip_36 rfl (lv_at hl 0 rfl) ?_
        refine g_LP_book X hP  tw_62 dX7_flip_37 ?_
        refine lv_aload_n hx hb dX7_flip_40 rfl (lv_at hl 0 rfl) ?_
        refine g_LP_court X hP  tw_66 dX7_flip_41 ?_
        refine gN_Court_flipDays X hP  tw_46 dX7_flip_44 ?_
        refine lv_iload_n hx hb dX7_flip_47 rfl (lv_at hl 2 rfl) ?_
        obtain ⟨g10, hf⟩ := grd_some hf
        refine r_flipDays X hP  g10 dX7_flip_48 ?_
        obtain ⟨q11, e12, hf⟩ := bind_some hf
        refine aftI hS (cV (rest := []) X hP hS [.int (q7.2.1 37 0 x2.toNatClampNeg)] (m_X0_pageReadOn (by decide) e12) cw_X0_pageReadOn tw_248 tw_507 tw_657 (bk_lt (by decide)) (cf_Book (by decide)) rfl (fits9 (by first | decide | omega) (by decide)) rfl rfl hl.1 (Nat.le_of_ble_eq_true rfl) dX7_flip_49 ⟨Nat.zero_le _, Nat.zero_le _⟩) (fun H locs hP hS => ?_)
        refine lv_goto (tgt := 57) hx hb dX7_flip_52 (by decide) ?_
        cases hf
        exact rtI X hr hlk hP hS dX7_flip_57
    · rw [if_neg c4] at hf
      refine lv_iconst (v := (-1 : Int32)) hx hb dX7_flip_11 (by decide) ?_
      cases hf
      exact rtI X hr hlk hP hS dX7_flip_12
/-! X7_flips -/
section
variable {p : Program} {l : Launch} {e : Env} {s : State} {m : MethodId} {args : Array Value} {below : List Frame} {meth : Method} {c : Code}
variable {D : va_G} {cI cP cB cA : ClassId} {ad : Nat → Nat} {tL tC : Nat}
end
set_option maxHeartbeats 4000000 in
set_option maxRecDepth 100000 in
theorem m_X7_flips {l : Launch} {D : va_G} {cI cP cB cA : ClassId} {ad : Nat → Nat} {tL tC : Nat} {x1 : Int32} {S : Stt} {res : Int32 × Stt} (hf : f_X7_flips x1 S = some res) : Ct l D cI cP cB cA 79 ad tL tC yX7_flips cX7_flips 2 (some .int) 6 [.ref (ad 0), .int x1] (cfC ad cI cP cB cA S) (QI D 79 ad res.1 (cfC ad cI cP cB cA res.2)) := by
  refine ctOf (by decide) (Nat.le_of_ble_eq_true rfl) ?_
  intro p e s m args below meth c ls X hr hlk hP hl
  have hS : va_S (Ar 79 ad) s.heap s.heap [] := va_S.rf
  have hx := X.1.1
  have hb := X.1.2.1
  have hl : lv_has ls 2 [(0, .ref (ad 0)), (1, .int x1)] := hl
  unfold f_X7_flips at hf
  refine lv_iload_n hx hb dX7_flips_0 rfl (lv_at hl 1 rfl) ?_
  obtain ⟨q1, e2, hf⟩ := bind_some hf
  refine aftI hS (cS (rest := []) X hP hS [.int x1] (m_X7_isCase  e2) cw_X7_isCase tw_204 tw_476 (fits9 (by first | decide | omega) (by decide)) rfl rfl hl.1 (Nat.le_of_ble_eq_true rfl) dX7_flips_1 ⟨Nat.zero_le _, Nat.zero_le _⟩) (fun H locs hP hS => ?_)
  refine lv_if_ne (tgt := 9) hx hb dX7_flips_4 (by decide) (fun c3 => ?_) (fun c3 => ?_)
  · rw [if_neg c3] at hf
    refine lv_aload_n hx hb dX7_flips_9 rfl (lv_at hl 0 rfl) ?_
    refine g_LP_court X hP  tw_66 dX7_flips_10 ?_
    refine lv_aload_n hx hb dX7_flips_13 rfl (lv_at hl 0 rfl) ?_
    refine g_LP_book X hP  tw_62 dX7_flips_14 ?_
    obtain ⟨q4, e5, hf⟩ := bind_some hf
    refine aftV hS (cV (rest := []) X hP hS [.ref (ad (34 + 0))] (m_X1_hearReading (by decide) e5) cw_X1_hearReading tw_245 tw_504 tw_671 (by decide) (cf_Court ) rfl (fits9 (by first | decide | omega) (by decide)) rfl rfl hl.1 (Nat.le_of_ble_eq_true rfl) dX7_flips_17 ⟨Nat.zero_le _, Nat.zero_le _⟩) (fun H locs hP hS => ?_)
    refine lv_aload_n hx hb dX7_flips_20 rfl (lv_at hl 0 rfl) ?_
    refine g_LP_court X hP  tw_66 dX7_flips_21 ?_
    refine lv_iload_n hx hb dX7_flips_24 rfl (lv_at hl 1 rfl) ?_
    obtain ⟨q6, e7, hf⟩ := bind_some hf
    refine aftI hS (cV (rest := []) X hP hS [.int x1] (m_X1_trace  e7) cw_X1_trace tw_246 tw_505 tw_672 (by decide) (cf_Court ) rfl (fits9 (by first | decide | omega) (by decide)) rfl rfl hl.1 (Nat.le_of_ble_eq_true rfl) dX7_flips_25 ⟨Nat.zero_le _, Nat.zero_le _⟩) (fun H locs hP hS => ?_)
    cases hf
    exact rtI X hr hlk hP hS dX7_flips_28
  · rw [if_pos c3] at hf
    refine lv_iconst (v := (-1 : Int32)) hx hb dX7_flips_7 (by decide) ?_
    cases hf
    exact rtI X hr hlk hP hS dX7_flips_8
/-! X7_front -/
section
variable {p : Program} {l : Launch} {e : Env} {s : State} {m : MethodId} {args : Array Value} {below : List Frame} {meth : Method} {c : Code}
variable {D : va_G} {cI cP cB cA : ClassId} {ad : Nat → Nat} {tL tC : Nat}
end
set_option maxHeartbeats 4000000 in
set_option maxRecDepth 100000 in
theorem m_X7_front {l : Launch} {D : va_G} {cI cP cB cA : ClassId} {ad : Nat → Nat} {tL tC : Nat} {S : Stt} {res : Int32 × Stt} (hf : f_X7_front  S = some res) : Ct l D cI cP cB cA 79 ad tL tC yX7_front cX7_front 1 (some .int) 6 [.ref (ad 0)] (cfC ad cI cP cB cA S) (QI D 79 ad res.1 (cfC ad cI cP cB cA res.2)) := by
  refine ctOf (by decide) (Nat.le_of_ble_eq_true rfl) ?_
  intro p e s m args below meth c ls X hr hlk hP hl
  have hS : va_S (Ar 79 ad) s.heap s.heap [] := va_S.rf
  have hx := X.1.1
  have hb := X.1.2.1
  have hl : lv_has ls 1 [(0, .ref (ad 0))] := hl
  unfold f_X7_front at hf
  refine lv_aload_n hx hb dX7_front_0 rfl (lv_at hl 0 rfl) ?_
  refine g_LP_trial X hP  tw_63 dX7_front_1 ?_
  refine lv_aload_n hx hb dX7_front_4 rfl (lv_at hl 0 rfl) ?_
  refine g_LP_book X hP  tw_62 dX7_front_5 ?_
  obtain ⟨q1, e2, hf⟩ := bind_some hf
  refine aftV hS (cV (rest := []) X hP hS [.ref (ad (34 + 0))] (m_X0_become (by decide) (by decide) e2) cw_X0_become tw_164 tw_446 tw_646 (bk_lt (by decide)) (cf_Book (by decide)) rfl (fits9 (by first | decide | omega) (by decide)) rfl rfl hl.1 (Nat.le_of_ble_eq_true rfl) dX7_front_8 ⟨Nat.zero_le _, Nat.zero_le _⟩) (fun H locs hP hS => ?_)
  refine lv_aload_n hx hb dX7_front_11 rfl (lv_at hl 0 rfl) ?_
  refine g_LP_trial X hP  tw_63 dX7_front_12 ?_
  obtain ⟨q3, e4, hf⟩ := bind_some hf
  refine aftV hS (cV (rest := []) X hP hS [] (m_X0_turnFromEnd (by decide) e4) cw_X0_turnFromEnd tw_166 tw_448 tw_651 (bk_lt (by decide)) (cf_Book (by decide)) rfl (fits9 (by first | decide | omega) (by decide)) rfl rfl hl.1 (Nat.le_of_ble_eq_true rfl) dX7_front_15 ⟨Nat.zero_le _, Nat.zero_le _⟩) (fun H locs hP hS => ?_)
  refine lv_aload_n hx hb dX7_front_18 rfl (lv_at hl 0 rfl) ?_
  refine lv_aload_n hx hb dX7_front_19 rfl (lv_at hl 0 rfl) ?_
  refine g_LP_court X hP  tw_66 dX7_front_20 ?_
  refine lv_aload_n hx hb dX7_front_23 rfl (lv_at hl 0 rfl) ?_
  refine g_LP_trial X hP  tw_63 dX7_front_24 ?_
  obtain ⟨q5, e6, hf⟩ := bind_some hf
  refine aftI hS (cV (rest := [.ref (ad 0)]) X hP hS [.ref (ad (34 + 1))] (m_X1_waitingInAll (by decide) e6) cw_X1_waitingInAll tw_221 tw_490 tw_670 (by decide) (cf_Court ) rfl (fits9 (by first | decide | omega) (by decide)) rfl rfl hl.1 (Nat.le_of_ble_eq_true rfl) dX7_front_27 ⟨Nat.zero_le _, Nat.zero_le _⟩) (fun H locs hP hS => ?_)
  refine p_LP_lastAsked X hP hS  tw_71 dX7_front_30 (fun H locs hP hS => ?_)
  refine lv_aload_n hx hb dX7_front_33 rfl (lv_at hl 0 rfl) ?_
  refine g_LP_trial X hP  tw_63 dX7_front_34 ?_
  obtain ⟨q7, e8, hf⟩ := bind_some hf
  refine aftV hS (cV (rest := []) X hP hS [] (m_X0_turnFromFront (by decide) e8) cw_X0_turnFromFront tw_262 tw_517 tw_652 (bk_lt (by decide)) (cf_Book (by decide)) rfl (fits9 (by first | decide | omega) (by decide)) rfl rfl hl.1 (Nat.le_of_ble_eq_true rfl) dX7_front_37 ⟨Nat.zero_le _, Nat.zero_le _⟩) (fun H locs hP hS => ?_)
  refine lv_aload_n hx hb dX7_front_40 rfl (lv_at hl 0 rfl) ?_
  refine g_LP_court X hP  tw_66 dX7_front_41 ?_
  refine lv_aload_n hx hb dX7_front_44 rfl (lv_at hl 0 rfl) ?_
  refine g_LP_trial X hP  tw_63 dX7_front_45 ?_
  obtain ⟨q9, e10, hf⟩ := bind_some hf
  refine aftI hS (cV (rest := []) X hP hS [.ref (ad (34 + 1))] (m_X1_waitingInAll (by decide) e10) cw_X1_waitingInAll tw_221 tw_490 tw_670 (by decide) (cf_Court ) rfl (fits9 (by first | decide | omega) (by decide)) rfl rfl hl.1 (Nat.le_of_ble_eq_true rfl) dX7_front_48 ⟨Nat.zero_le _, Nat.zero_le _⟩) (fun H locs hP hS => ?_)
  cases hf
  exact rtI X hr hlk hP hS dX7_front_51
/-! X7_kinds -/
section
variable {p : Program} {l : Launch} {e : Env} {s : State} {m : MethodId} {args : Array Value} {below : List Frame} {meth : Method} {c : Code}
variable {D : va_G} {cI cP cB cA : ClassId} {ad : Nat → Nat} {tL tC : Nat}
set_option maxHeartbeats 4000000 in
set_option maxRecDepth 100000 in
theorem vj_X7_kinds_72 (X : Cx D cI cP cB cA 79 ad tL tC p s m c cX7_kinds 6 args RX7) (hr : meth.sig.returnType = (some .int)) (hlk : meth.locks = false) {res : Int32 × Stt} : ∀ (x1 : Int32) (x2 : Int32) (x3 : Int32) (x4 : Int32) (S : Stt) (H : Heap) (locs : List Loc) (ls : Array Slot), fj_X7_kinds_72 x1 x2 x3 x4 S = some res → va_P D vwCl (wl 79 ad (cfC ad cI cP cB cA S)) H → va_S (Ar 79 ad) s.heap H locs → lv_has ls 6 [(0, .ref (ad 0)), (1, .int x1), (2, .int x2), (3, .int x3), (4, .int x4)] → W p l e (rmD 6) s m args below meth c H locs 0 0 (MQ below (QI D 79 ad res.1 (cfC ad cI cP cB cA res.2)) args s 0 0 (Ar 79 ad)) (F0 m 72 ls []) := by
  intro x1 x2 x3 x4 S H locs ls hf hP hS hl
  have hx := X.1.1
  have hb := X.1.2.1
  unfold fj_X7_kinds_72 at hf
  refine lv_aload_n hx hb dX7_kinds_72 rfl (lv_at hl 0 rfl) ?_
  refine lv_iconst (v := (0 : Int32)) hx hb dX7_kinds_73 (by decide) ?_
  refine lv_iload_n hx hb dX7_kinds_74 rfl (lv_at hl 1 rfl) ?_
  refine lv_iload_n hx hb dX7_kinds_75 rfl (lv_at hl 2 rfl) ?_
  refine lv_iload_n hx hb dX7_kinds_76 rfl (lv_at hl 3 rfl) ?_
  refine lv_iload hx hb dX7_kinds_77 (lv_at hl 4 rfl) ?_
  obtain ⟨q15, e16, hf⟩ := bind_some hf
  refine aftI hS (cV (rest := []) X hP hS [.int (0 : Int32), .int x1, .int x2, .int x3, .int x4] (m_X7_bitIfKind  e16) cw_X7_bitIfKind tw_268 tw_522 tw_761 (by decide) (cf_LP ) rfl (fits9 (by first | decide | omega) (by decide)) rfl rfl hl.1 (Nat.le_of_ble_eq_true rfl) dX7_kinds_79 ⟨Nat.zero_le _, Nat.zero_le _⟩) (fun H locs hP hS => ?_)
  refine lv_aload_n hx hb dX7_kinds_82 rfl (lv_at hl 0 rfl) ?_
  refine lv_iconst (v := (1 : Int32)) hx hb dX7_kinds_83 (by decide) ?_
  refine lv_iload_n hx hb dX7_kinds_84 rfl (lv_at hl 1 rfl) ?_
  refine lv_iload_n hx hb dX7_kinds_85 rfl (lv_at hl 2 rfl) ?_
  refine lv_iload_n hx hb dX7_kinds_86 rfl (lv_at hl 3 rfl) ?_
  refine lv_iload hx hb dX7_kinds_87 (lv_at hl 4 rfl) ?_
  obtain ⟨q17, e18, hf⟩ := bind_some hf
  refine aftI hS (cV (rest := [.int q15.1]) X hP hS [.int (1 : Int32), .int x1, .int x2, .int x3, .int x4] (m_X7_bitIfKind  e18) cw_X7_bitIfKind tw_268 tw_522 tw_761 (by decide) (cf_LP ) rfl (fits9 (by first | decide | omega) (by decide)) rfl rfl hl.1 (Nat.le_of_ble_eq_true rfl) dX7_kinds_89 ⟨Nat.zero_le _, Nat.zero_le _⟩) (fun H locs hP hS => ?_)
  refine lv_ior hx hb dX7_kinds_92 ?_
  refine lv_aload_n hx hb dX7_kinds_93 rfl (lv_at hl 0 rfl) ?_
  refine lv_iconst (v := (4 : Int32)) hx hb dX7_kinds_94 (by decide) ?_
  refine lv_iload_n hx hb dX7_kinds_95 rfl (lv_at hl 1 rfl) ?_
  refine lv_iload_n hx hb dX7_kinds_96 rfl (lv_at hl 2 rfl) ?_
  refine lv_iload_n hx hb dX7_kinds_97 rfl (lv_at hl 3 rfl) ?_
  refine lv_iload hx hb dX7_kinds_98 (lv_at hl 4 rfl) ?_
  obtain ⟨q19, e20, hf⟩ := bind_some hf
  refine aftI hS (cV (rest := [.int (q15.1 ||| q17.1)]) X hP hS [.int (4 : Int32), .int x1, .int x2, .int x3, .int x4] (m_X7_bitIfKind  e20) cw_X7_bitIfKind tw_268 tw_522 tw_761 (by decide) (cf_LP ) rfl (fits9 (by first | decide | omega) (by decide)) rfl rfl hl.1 (Nat.le_of_ble_eq_true rfl) dX7_kinds_100 ⟨Nat.zero_le _, Nat.zero_le _⟩) (fun H locs hP hS => ?_)
  refine lv_ior hx hb dX7_kinds_103 ?_
  cases hf
  exact rtI X hr hlk hP hS dX7_kinds_104
end
set_option maxHeartbeats 4000000 in
set_option maxRecDepth 100000 in
theorem m_X7_kinds {l : Launch} {D : va_G} {cI cP cB cA : ClassId} {ad : Nat → Nat} {tL tC : Nat} {x1 : Int32} {x2 : Int32} {x3 : Int32} {x4 : Int32} {S : Stt} {res : Int32 × Stt} (hf : f_X7_kinds x1 x2 x3 x4 S = some res) : Ct l D cI cP cB cA 79 ad tL tC yX7_kinds cX7_kinds 6 (some .int) 6 [.ref (ad 0), .int x1, .int x2, .int x3, .int x4] (cfC ad cI cP cB cA S) (QI D 79 ad res.1 (cfC ad cI cP cB cA res.2)) := by
  refine ctOf (by decide) (Nat.le_of_ble_eq_true rfl) ?_
  intro p e s m args below meth c ls X hr hlk hP hl
  have hS : va_S (Ar 79 ad) s.heap s.heap [] := va_S.rf
  have hx := X.1.1
  have hb := X.1.2.1
  have hl : lv_has ls 6 [(0, .ref (ad 0)), (1, .int x1), (2, .int x2), (3, .int x3), (4, .int x4)] := hl
  unfold f_X7_kinds at hf
  refine lv_aload_n hx hb dX7_kinds_0 rfl (lv_at hl 0 rfl) ?_
  refine g_LP_book X hP  tw_62 dX7_kinds_1 ?_
  refine lv_iload_n hx hb dX7_kinds_4 rfl (lv_at hl 1 rfl) ?_
  obtain ⟨q1, e2, hf⟩ := bind_some hf
  refine aftI hS (cV (rest := []) X hP hS [.int x1] (m_X0_isOne (by decide) e2) cw_X0_isOne tw_169 tw_450 tw_644 (bk_lt (by decide)) (cf_Book (by decide)) rfl (fits9 (by first | decide | omega) (by decide)) rfl rfl hl.1 (Nat.le_of_ble_eq_true rfl) dX7_kinds_5 ⟨Nat.zero_le _, Nat.zero_le _⟩) (fun H locs hP hS => ?_)
  refine lv_if_eq (tgt := 33) hx hb dX7_kinds_8 (by decide) (fun c3 => ?_) (fun c3 => ?_)
  · rw [if_pos c3] at hf
    refine lv_iconst (v := (-1 : Int32)) hx hb dX7_kinds_33 (by decide) ?_
    cases hf
    exact rtI X hr hlk hP hS dX7_kinds_34
  · rw [if_neg c3] at hf
    refine lv_iload_n hx hb dX7_kinds_11 rfl (lv_at hl 2 rfl) ?_
    obtain ⟨q4, e5, hf⟩ := bind_some hf
    refine aftI hS (cS (rest := []) X hP hS [.int x2] (m_X7_isCase  e5) cw_X7_isCase tw_204 tw_476 (fits9 (by first | decide | omega) (by decide)) rfl rfl hl.1 (Nat.le_of_ble_eq_true rfl) dX7_kinds_12 ⟨Nat.zero_le _, Nat.zero_le _⟩) (fun H locs hP hS => ?_)
    refine lv_if_eq (tgt := 33) hx hb dX7_kinds_15 (by decide) (fun c6 => ?_) (fun c6 => ?_)
    · rw [if_pos c6] at hf
      refine lv_iconst (v := (-1 : Int32)) hx hb dX7_kinds_33 (by decide) ?_
      cases hf
      exact rtI X hr hlk hP hS dX7_kinds_34
    · rw [if_neg c6] at hf
      refine lv_iload_n hx hb dX7_kinds_18 rfl (lv_at hl 3 rfl) ?_
      obtain ⟨q7, e8, hf⟩ := bind_some hf
      refine aftI hS (cS (rest := []) X hP hS [.int x3] (m_X7_isDay  e8) cw_X7_isDay tw_194 tw_468 (fits9 (by first | decide | omega) (by decide)) rfl rfl hl.1 (Nat.le_of_ble_eq_true rfl) dX7_kinds_19 ⟨Nat.zero_le _, Nat.zero_le _⟩) (fun H locs hP hS => ?_)
      refine lv_if_eq (tgt := 33) hx hb dX7_kinds_22 (by decide) (fun c9 => ?_) (fun c9 => ?_)
      · rw [if_pos c9] at hf
        refine lv_iconst (v := (-1 : Int32)) hx hb dX7_kinds_33 (by decide) ?_
        cases hf
        exact rtI X hr hlk hP hS dX7_kinds_34
      · rw [if_neg c9] at hf
        refine lv_iload hx hb dX7_kinds_25 (lv_at hl 4 rfl) ?_
        obtain ⟨q10, e11, hf⟩ := bind_some hf
        refine aftI hS (cS (rest := []) X hP hS [.int x4] (m_X7_isVerdict  e11) cw_X7_isVerdict tw_181 tw_457 (fits9 (by first | decide | omega) (by decide)) rfl rfl hl.1 (Nat.le_of_ble_eq_true rfl) dX7_kinds_27 ⟨Nat.zero_le _, Nat.zero_le _⟩) (fun H locs hP hS => ?_)
        refine lv_if_ne (tgt := 35) hx hb dX7_kinds_30 (by decide) (fun c12 => ?_) (fun c12 => ?_)
        · rw [if_neg c12] at hf
          refine lv_aload_n hx hb dX7_kinds_35 rfl (lv_at hl 0 rfl) ?_
          refine g_LP_book X hP  tw_62 dX7_kinds_36 ?_
          refine gN_Book_pages X hP (by decide) tw_22 dX7_kinds_39 ?_
          refine lv_iload_n hx hb dX7_kinds_42 rfl (lv_at hl 1 rfl) ?_
          obtain ⟨g13, hf⟩ := grd_some hf
          refine q_pages X hP (by decide) g13 dX7_kinds_43 ?_
          refine gN_Page_kind X hP (by decide) (ixb_lt g13) tw_4 dX7_kinds_44 ?_
          refine lv_istore (lv' := [(5, .int (q10.2.1 10 0 x1.toNatClampNeg)), (0, .ref (ad 0)), (1, .int x1), (2, .int x2), (3, .int x3), (4, .int x4)]) hx hb dX7_kinds_47 hl (by decide) rfl (fun ls hl => ?_)
          refine lv_iload hx hb dX7_kinds_49 (lv_at hl 0 rfl) ?_
          refine lv_if_eq (tgt := 72) hx hb dX7_kinds_51 (by decide) (fun c14 => ?_) (fun c14 => ?_)
          · rw [if_pos c14] at hf
            exact vj_X7_kinds_72 X hr hlk _ _ _ _ _ _ _ ls hf  hP hS (lv_sub hl [1, 2, 3, 4, 5] rfl)
          · rw [if_neg c14] at hf
            refine lv_iload hx hb dX7_kinds_54 (lv_at hl 0 rfl) ?_
            refine lv_iconst (v := (1 : Int32)) hx hb dX7_kinds_56 (by decide) ?_
            refine lv_icmp_eq (tgt := 72) hx hb dX7_kinds_57 (by decide) (fun c21 => ?_) (fun c21 => ?_)
            · rw [if_pos c21] at hf
              exact vj_X7_kinds_72 X hr hlk _ _ _ _ _ _ _ ls hf  hP hS (lv_sub hl [1, 2, 3, 4, 5] rfl)
            · rw [if_neg c21] at hf
              refine lv_iload hx hb dX7_kinds_60 (lv_at hl 0 rfl) ?_
              refine lv_iconst (v := (4 : Int32)) hx hb dX7_kinds_62 (by decide) ?_
              refine lv_icmp_eq (tgt := 72) hx hb dX7_kinds_63 (by decide) (fun c22 => ?_) (fun c22 => ?_)
              · rw [if_pos c22] at hf
                exact vj_X7_kinds_72 X hr hlk _ _ _ _ _ _ _ ls hf  hP hS (lv_sub hl [1, 2, 3, 4, 5] rfl)
              · rw [if_neg c22] at hf
                refine lv_aload_n hx hb dX7_kinds_66 rfl (lv_at hl 1 rfl) ?_
                refine lv_iconst (v := (3 : Int32)) hx hb dX7_kinds_67 (by decide) ?_
                obtain ⟨q23, e24, hf⟩ := bind_some hf
                refine aftI hS (cV (rest := []) X hP hS [.int (3 : Int32)] (m_X7_refuse  e24) cw_X7_refuse tw_126 tw_406 tw_754 (by decide) (cf_LP ) rfl (fits9 (by first | decide | omega) (by decide)) rfl rfl hl.1 (Nat.le_of_ble_eq_true rfl) dX7_kinds_68 ⟨Nat.zero_le _, Nat.zero_le _⟩) (fun H locs hP hS => ?_)
                cases hf
                exact rtI X hr hlk hP hS dX7_kinds_71
        · rw [if_pos c12] at hf
          refine lv_iconst (v := (-1 : Int32)) hx hb dX7_kinds_33 (by decide) ?_
          cases hf
          exact rtI X hr hlk hP hS dX7_kinds_34
/-! X7_matter -/
section
variable {p : Program} {l : Launch} {e : Env} {s : State} {m : MethodId} {args : Array Value} {below : List Frame} {meth : Method} {c : Code}
variable {D : va_G} {cI cP cB cA : ClassId} {ad : Nat → Nat} {tL tC : Nat}
end
set_option maxHeartbeats 4000000 in
set_option maxRecDepth 100000 in
theorem m_X7_matter {l : Launch} {D : va_G} {cI cP cB cA : ClassId} {ad : Nat → Nat} {tL tC : Nat} {x1 : Int32} {x2 : Int32} {S : Stt} {res : Int32 × Stt} (hf : f_X7_matter x1 x2 S = some res) : Ct l D cI cP cB cA 79 ad tL tC yX7_matter cX7_matter 5 (some .int) 6 [.ref (ad 0), .int x1, .int x2] (cfC ad cI cP cB cA S) (QI D 79 ad res.1 (cfC ad cI cP cB cA res.2)) := by
  refine ctOf (by decide) (Nat.le_of_ble_eq_true rfl) ?_
  intro p e s m args below meth c ls X hr hlk hP hl
  have hS : va_S (Ar 79 ad) s.heap s.heap [] := va_S.rf
  have hx := X.1.1
  have hb := X.1.2.1
  have hl : lv_has ls 5 [(0, .ref (ad 0)), (1, .int x1), (2, .int x2)] := hl
  unfold f_X7_matter at hf
  refine lv_aload_n hx hb dX7_matter_0 rfl (lv_at hl 0 rfl) ?_
  refine g_LP_book X hP  tw_62 dX7_matter_1 ?_
  refine lv_iload_n hx hb dX7_matter_4 rfl (lv_at hl 1 rfl) ?_
  obtain ⟨q1, e2, hf⟩ := bind_some hf
  refine aftI hS (cV (rest := []) X hP hS [.int x1] (m_X0_isOne (by decide) e2) cw_X0_isOne tw_169 tw_450 tw_644 (bk_lt (by decide)) (cf_Book (by decide)) rfl (fits9 (by first | decide | omega) (by decide)) rfl rfl hl.1 (Nat.le_of_ble_eq_true rfl) dX7_matter_5 ⟨Nat.zero_le _, Nat.zero_le _⟩) (fun H locs hP hS => ?_)
  refine lv_if_eq (tgt := 18) hx hb dX7_matter_8 (by decide) (fun c3 => ?_) (fun c3 => ?_)
  · rw [if_pos c3] at hf
    refine lv_iconst (v := (-1 : Int32)) hx hb dX7_matter_18 (by decide) ?_
    cases hf
    exact rtI X hr hlk hP hS dX7_matter_19
  · rw [if_neg c3] at hf
    refine lv_iload_n hx hb dX7_matter_11 rfl (lv_at hl 2 rfl) ?_
    obtain ⟨q4, e5, hf⟩ := bind_some hf
    refine aftI hS (cS (rest := []) X hP hS [.int x2] (m_X7_isDay  e5) cw_X7_isDay tw_194 tw_468 (fits9 (by first | decide | omega) (by decide)) rfl rfl hl.1 (Nat.le_of_ble_eq_true rfl) dX7_matter_12 ⟨Nat.zero_le _, Nat.zero_le _⟩) (fun H locs hP hS => ?_)
    refine lv_if_ne (tgt := 20) hx hb dX7_matter_15 (by decide) (fun c6 => ?_) (fun c6 => ?_)
    · rw [if_neg c6] at hf
      refine lv_aload_n hx hb dX7_matter_20 rfl (lv_at hl 0 rfl) ?_
      refine g_LP_court X hP  tw_66 dX7_matter_21 ?_
      refine lv_aload_n hx hb dX7_matter_24 rfl (lv_at hl 0 rfl) ?_
      refine g_LP_book X hP  tw_62 dX7_matter_25 ?_
      refine lv_iload_n hx hb dX7_matter_28 rfl (lv_at hl 2 rfl) ?_
      obtain ⟨q7, e8, hf⟩ := bind_some hf
      refine aftV hS (cV (rest := []) X hP hS [.ref (ad (34 + 0)), .int x2] (m_X1_hear (by decide) e8) cw_X1_hear tw_205 tw_477 tw_665 (by decide) (cf_Court ) rfl (fits9 (by first | decide | omega) (by decide)) rfl rfl hl.1 (Nat.le_of_ble_eq_true rfl) dX7_matter_29 ⟨Nat.zero_le _, Nat.zero_le _⟩) (fun H locs hP hS => ?_)
      refine lv_aload_n hx hb dX7_matter_32 rfl (lv_at hl 0 rfl) ?_
      refine g_LP_court X hP  tw_66 dX7_matter_33 ?_
      refine gN_Court_always X hP  tw_38 dX7_matter_36 ?_
      refine lv_istore_n (lv' := [(3, .int (q7.1 32 0 0)), (0, .ref (ad 0)), (1, .int x1), (2, .int x2)]) hx hb dX7_matter_39 rfl hl (by decide) rfl (fun ls hl => ?_)
      refine lv_aload_n hx hb dX7_matter_40 rfl (lv_at hl 1 rfl) ?_
      refine g_LP_court X hP  tw_66 dX7_matter_41 ?_
      refine gN_Court_ever X hP  tw_41 dX7_matter_44 ?_
      refine lv_istore (lv' := [(4, .int (q7.1 33 0 0)), (3, .int (q7.1 32 0 0)), (0, .ref (ad 0)), (1, .int x1), (2, .int x2)]) hx hb dX7_matter_47 hl (by decide) rfl (fun ls hl => ?_)
      refine lv_aload_n hx hb dX7_matter_49 rfl (lv_at hl 2 rfl) ?_
      refine g_LP_trial X hP  tw_63 dX7_matter_50 ?_
      refine lv_aload_n hx hb dX7_matter_53 rfl (lv_at hl 2 rfl) ?_
      refine g_LP_book X hP  tw_62 dX7_matter_54 ?_
      obtain ⟨q9, e10, hf⟩ := bind_some hf
      refine aftV hS (cV (rest := []) X hP hS [.ref (ad (34 + 0))] (m_X0_become (by decide) (by decide) e10) cw_X0_become tw_164 tw_446 tw_646 (bk_lt (by decide)) (cf_Book (by decide)) rfl (fits9 (by first | decide | omega) (by decide)) rfl rfl hl.1 (Nat.le_of_ble_eq_true rfl) dX7_matter_57 ⟨Nat.zero_le _, Nat.zero_le _⟩) (fun H locs hP hS => ?_)
      refine lv_aload_n hx hb dX7_matter_60 rfl (lv_at hl 2 rfl) ?_
      refine g_LP_trial X hP  tw_63 dX7_matter_61 ?_
      refine lv_iload_n hx hb dX7_matter_64 rfl (lv_at hl 3 rfl) ?_
      obtain ⟨q11, e12, hf⟩ := bind_some hf
      refine aftV hS (cV (rest := []) X hP hS [.int x1] (m_X0_leaveOut (by decide) e12) cw_X0_leaveOut tw_251 tw_510 tw_650 (bk_lt (by decide)) (cf_Book (by decide)) rfl (fits9 (by first | decide | omega) (by decide)) rfl rfl hl.1 (Nat.le_of_ble_eq_true rfl) dX7_matter_65 ⟨Nat.zero_le _, Nat.zero_le _⟩) (fun H locs hP hS => ?_)
      refine lv_aload_n hx hb dX7_matter_68 rfl (lv_at hl 2 rfl) ?_
      refine g_LP_court X hP  tw_66 dX7_matter_69 ?_
      refine lv_aload_n hx hb dX7_matter_72 rfl (lv_at hl 2 rfl) ?_
      refine g_LP_trial X hP  tw_63 dX7_matter_73 ?_
      refine lv_iload_n hx hb dX7_matter_76 rfl (lv_at hl 4 rfl) ?_
      obtain ⟨q13, e14, hf⟩ := bind_some hf
      refine aftV hS (cV (rest := []) X hP hS [.ref (ad (34 + 1)), .int x2] (m_X1_hear (by decide) e14) cw_X1_hear tw_205 tw_477 tw_665 (by decide) (cf_Court ) rfl (fits9 (by first | decide | omega) (by decide)) rfl rfl hl.1 (Nat.le_of_ble_eq_true rfl) dX7_matter_77 ⟨Nat.zero_le _, Nat.zero_le _⟩) (fun H locs hP hS => ?_)
      refine lv_iload_n hx hb dX7_matter_80 rfl (lv_at hl 1 rfl) ?_
      refine lv_aload_n hx hb dX7_matter_81 rfl (lv_at hl 2 rfl) ?_
      refine g_LP_court X hP  tw_66 dX7_matter_82 ?_
      refine gN_Court_always X hP  tw_38 dX7_matter_85 ?_
      refine lv_ixor hx hb dX7_matter_88 ?_
      refine lv_iload hx hb dX7_matter_89 (lv_at hl 0 rfl) ?_
      refine lv_aload_n hx hb dX7_matter_91 rfl (lv_at hl 2 rfl) ?_
      refine g_LP_court X hP  tw_66 dX7_matter_92 ?_
      refine gN_Court_ever X hP  tw_41 dX7_matter_95 ?_
      refine lv_ixor hx hb dX7_matter_98 ?_
      refine lv_ior hx hb dX7_matter_99 ?_
      obtain ⟨q15, e16, hf⟩ := bind_some hf
      refine aftI hS (cS (rest := []) X hP hS [.int (((q7.1 32 0 0) ^^^ (q13.1 32 0 0)) ||| ((q7.1 33 0 0) ^^^ (q13.1 33 0 0)))] (m_J6_bitCount_0f7a4  e16) cw_J6_bitCount_0f7a4 tw_200 tw_438 (fits9 (by first | decide | omega) (by decide)) rfl rfl hl.1 (Nat.le_of_ble_eq_true rfl) dX7_matter_100 ⟨Nat.zero_le _, Nat.zero_le _⟩) (fun H locs hP hS => ?_)
      cases hf
      exact rtI X hr hlk hP hS dX7_matter_103
    · rw [if_pos c6] at hf
      refine lv_iconst (v := (-1 : Int32)) hx hb dX7_matter_18 (by decide) ?_
      cases hf
      exact rtI X hr hlk hP hS dX7_matter_19
/-! X7_most -/
section
variable {p : Program} {l : Launch} {e : Env} {s : State} {m : MethodId} {args : Array Value} {below : List Frame} {meth : Method} {c : Code}
variable {D : va_G} {cI cP cB cA : ClassId} {ad : Nat → Nat} {tL tC : Nat}
set_option maxHeartbeats 4000000 in
set_option maxRecDepth 100000 in
theorem vb_X7_most_17 (X : Cx D cI cP cB cA 79 ad tL tC p s m c cX7_most 5 args RX7) (hr : meth.sig.returnType = (some .int)) (hlk : meth.locks = false) {res : Int32 × Stt} (kb : Int32 → Int32 → Int32 → Stt → Option (Int32 × Stt)) (ke : Int32 → Int32 → Stt → Option (Int32 × Stt)) (hkb : ∀ (x1 : Int32) (x2 : Int32) (x3 : Int32) (S : Stt) (H : Heap) (locs : List Loc) (ls : Array Slot), kb x1 x2 x3 S = some res → va_P D vwCl (wl 79 ad (cfC ad cI cP cB cA S)) H → va_S (Ar 79 ad) s.heap H locs → lv_has ls 5 [(0, .ref (ad 0)), (1, .int x1), (2, .int x2), (3, .int x3)] → W p l e (rmD 6) s m args below meth c H locs 0 0 (MQ below (QI D 79 ad res.1 (cfC ad cI cP cB cA res.2)) args s 0 0 (Ar 79 ad)) (F0 m 17 ls [])) (hke : ∀ (x1 : Int32) (x2 : Int32) (S : Stt) (H : Heap) (locs : List Loc) (ls : Array Slot), ke x1 x2 S = some res → va_P D vwCl (wl 79 ad (cfC ad cI cP cB cA S)) H → va_S (Ar 79 ad) s.heap H locs → lv_has ls 5 [(0, .ref (ad 0)), (1, .int x1), (2, .int x2)] → W p l e (rmD 6) s m args below meth c H locs 0 0 (MQ below (QI D 79 ad res.1 (cfC ad cI cP cB cA res.2)) args s 0 0 (Ar 79 ad)) (F0 m 50 ls [])) : ∀ (x1 : Int32) (x2 : Int32) (x3 : Int32) (S : Stt) (H : Heap) (locs : List Loc) (ls : Array Slot), fb_X7_most_17 kb ke x1 x2 x3 S = some res → va_P D vwCl (wl 79 ad (cfC ad cI cP cB cA S)) H → va_S (Ar 79 ad) s.heap H locs → lv_has ls 5 [(0, .ref (ad 0)), (1, .int x1), (2, .int x2), (3, .int x3)] → W p l e (rmD 6) s m args below meth c H locs 0 0 (MQ below (QI D 79 ad res.1 (cfC ad cI cP cB cA res.2)) args s 0 0 (Ar 79 ad)) (F0 m 17 ls []) := by
  intro x1 x2 x3 S H locs ls hf hP hS hl
  have hx := X.1.1
  have hb := X.1.2.1
  unfold fb_X7_most_17 at hf
  refine lv_iload_n hx hb dX7_most_17 rfl (lv_at hl 3 rfl) ?_
  refine lv_bipush (v := (32 : Int32)) hx hb dX7_most_18 (by decide) ?_
  refine lv_icmp_ge (tgt := 50) hx hb dX7_most_20 (by decide) (fun c3 => ?_) (fun c3 => ?_)
  · rw [if_pos c3] at hf
    exact hke _ _ _ _ _ ls hf  hP hS (lv_sub hl [0, 1, 2] rfl)
  · rw [if_neg c3] at hf
    refine lv_aload_n hx hb dX7_most_23 rfl (lv_at hl 0 rfl) ?_
    refine g_LP_court X hP  tw_66 dX7_most_24 ?_
    refine lv_iload_n hx hb dX7_most_27 rfl (lv_at hl 3 rfl) ?_
    obtain ⟨q4, e5, hf⟩ := bind_some hf
    refine aftI hS (cV (rest := []) X hP hS [.int x3] (m_X1_trace  e5) cw_X1_trace tw_246 tw_505 tw_672 (by decide) (cf_Court ) rfl (fits9 (by first | decide | omega) (by decide)) rfl rfl hl.1 (Nat.le_of_ble_eq_true rfl) dX7_most_28 ⟨Nat.zero_le _, Nat.zero_le _⟩) (fun H locs hP hS => ?_)
    refine lv_istore (lv' := [(4, .int q4.1), (0, .ref (ad 0)), (1, .int x1), (2, .int x2), (3, .int x3)]) hx hb dX7_most_31 hl (by decide) rfl (fun ls hl => ?_)
    refine lv_iload hx hb dX7_most_33 (lv_at hl 0 rfl) ?_
    refine lv_iload_n hx hb dX7_most_35 rfl (lv_at hl 3 rfl) ?_
    refine lv_icmp_le (tgt := 44) hx hb dX7_most_36 (by decide) (fun c6 => ?_) (fun c6 => ?_)
    · rw [if_pos c6] at hf
      refine lv_iinc (v := (x3 + (1 : Int32))) (lv' := [(3, .int (x3 + (1 : Int32))), (4, .int q4.1), (0, .ref (ad 0)), (1, .int x1), (2, .int x2)]) hx hb dX7_most_44 hl (k := 4) rfl rfl (by decide) rfl (fun ls hl => ?_)
      refine lv_goto (tgt := 17) hx hb dX7_most_47 (by decide) ?_
      exact hkb _ _ _ _ _ _ ls hf  hP hS (lv_sub hl [2, 3, 4, 0] rfl)
    · rw [if_neg c6] at hf
      refine lv_iload hx hb dX7_most_39 (lv_at hl 0 rfl) ?_
      refine lv_istore_n (lv' := [(2, .int q4.1), (4, .int q4.1), (0, .ref (ad 0)), (1, .int x1), (3, .int x3)]) hx hb dX7_most_41 rfl hl (by decide) rfl (fun ls hl => ?_)
      refine lv_iload_n hx hb dX7_most_42 rfl (lv_at hl 4 rfl) ?_
      refine lv_istore_n (lv' := [(1, .int x3), (2, .int q4.1), (4, .int q4.1), (0, .ref (ad 0)), (3, .int x3)]) hx hb dX7_most_43 rfl hl (by decide) rfl (fun ls hl => ?_)
      refine lv_iinc (v := (x3 + (1 : Int32))) (lv' := [(3, .int (x3 + (1 : Int32))), (1, .int x3), (2, .int q4.1), (4, .int q4.1), (0, .ref (ad 0))]) hx hb dX7_most_44 hl (k := 4) rfl rfl (by decide) rfl (fun ls hl => ?_)
      refine lv_goto (tgt := 17) hx hb dX7_most_47 (by decide) ?_
      exact hkb _ _ _ _ _ _ ls hf  hP hS (lv_sub hl [4, 1, 2, 0] rfl)
set_option maxHeartbeats 4000000 in
set_option maxRecDepth 100000 in
theorem vl_X7_most_17 (X : Cx D cI cP cB cA 79 ad tL tC p s m c cX7_most 5 args RX7) (hr : meth.sig.returnType = (some .int)) (hlk : meth.locks = false) {res : Int32 × Stt} (ke : Int32 → Int32 → Stt → Option (Int32 × Stt)) (hke : ∀ (x1 : Int32) (x2 : Int32) (S : Stt) (H : Heap) (locs : List Loc) (ls : Array Slot), ke x1 x2 S = some res → va_P D vwCl (wl 79 ad (cfC ad cI cP cB cA S)) H → va_S (Ar 79 ad) s.heap H locs → lv_has ls 5 [(0, .ref (ad 0)), (1, .int x1), (2, .int x2)] → W p l e (rmD 6) s m args below meth c H locs 0 0 (MQ below (QI D 79 ad res.1 (cfC ad cI cP cB cA res.2)) args s 0 0 (Ar 79 ad)) (F0 m 50 ls [])) : ∀ (n : Nat), ∀ (x1 : Int32) (x2 : Int32) (x3 : Int32) (S : Stt) (H : Heap) (locs : List Loc) (ls : Array Slot), fl_X7_most_17 ke n x1 x2 x3 S = some res → va_P D vwCl (wl 79 ad (cfC ad cI cP cB cA S)) H → va_S (Ar 79 ad) s.heap H locs → lv_has ls 5 [(0, .ref (ad 0)), (1, .int x1), (2, .int x2), (3, .int x3)] → W p l e (rmD 6) s m args below meth c H locs 0 0 (MQ below (QI D 79 ad res.1 (cfC ad cI cP cB cA res.2)) args s 0 0 (Ar 79 ad)) (F0 m 17 ls []) := by
  intro n
  induction n with
  | zero =>
    intro x1 x2 x3 S H locs ls hf hP hS hl
    cases hf
  | succ n ih =>
    intro x1 x2 x3 S H locs ls hf hP hS hl
    exact vb_X7_most_17 X hr hlk _ ke ih hke x1 x2 x3 S H locs ls hf  hP hS hl
end
set_option maxHeartbeats 4000000 in
set_option maxRecDepth 100000 in
theorem m_X7_most {l : Launch} {D : va_G} {cI cP cB cA : ClassId} {ad : Nat → Nat} {tL tC : Nat} {S : Stt} {res : Int32 × Stt} (hf : f_X7_most  S = some res) : Ct l D cI cP cB cA 79 ad tL tC yX7_most cX7_most 5 (some .int) 6 [.ref (ad 0)] (cfC ad cI cP cB cA S) (QI D 79 ad res.1 (cfC ad cI cP cB cA res.2)) := by
  refine ctOf (by decide) (Nat.le_of_ble_eq_true rfl) ?_
  intro p e s m args below meth c ls X hr hlk hP hl
  have hS : va_S (Ar 79 ad) s.heap s.heap [] := va_S.rf
  have hx := X.1.1
  have hb := X.1.2.1
  have hl : lv_has ls 5 [(0, .ref (ad 0))] := hl
  unfold f_X7_most at hf
  refine lv_aload_n hx hb dX7_most_0 rfl (lv_at hl 0 rfl) ?_
  refine g_LP_court X hP  tw_66 dX7_most_1 ?_
  refine lv_aload_n hx hb dX7_most_4 rfl (lv_at hl 0 rfl) ?_
  refine g_LP_book X hP  tw_62 dX7_most_5 ?_
  obtain ⟨q1, e2, hf⟩ := bind_some hf
  refine aftV hS (cV (rest := []) X hP hS [.ref (ad (34 + 0))] (m_X1_hearReading (by decide) e2) cw_X1_hearReading tw_245 tw_504 tw_671 (by decide) (cf_Court ) rfl (fits9 (by first | decide | omega) (by decide)) rfl rfl hl.1 (Nat.le_of_ble_eq_true rfl) dX7_most_8 ⟨Nat.zero_le _, Nat.zero_le _⟩) (fun H locs hP hS => ?_)
  refine lv_iconst (v := (0 : Int32)) hx hb dX7_most_11 (by decide) ?_
  refine lv_istore_n (lv' := [(1, .int (0 : Int32)), (0, .ref (ad 0))]) hx hb dX7_most_12 rfl hl (by decide) rfl (fun ls hl => ?_)
  refine lv_iconst (v := (0 : Int32)) hx hb dX7_most_13 (by decide) ?_
  refine lv_istore_n (lv' := [(2, .int (0 : Int32)), (1, .int (0 : Int32)), (0, .ref (ad 0))]) hx hb dX7_most_14 rfl hl (by decide) rfl (fun ls hl => ?_)
  refine lv_iconst (v := (0 : Int32)) hx hb dX7_most_15 (by decide) ?_
  refine lv_istore_n (lv' := [(3, .int (0 : Int32)), (2, .int (0 : Int32)), (1, .int (0 : Int32)), (0, .ref (ad 0))]) hx hb dX7_most_16 rfl hl (by decide) rfl (fun ls hl => ?_)
  refine vl_X7_most_17 X hr hlk _ ?_ 300 _ _ _ _ _ _ ls hf  hP hS (lv_sub hl [3, 2, 1, 0] rfl)
  intro x1 x2 S H locs ls hf hP hS hl
  refine lv_aload_n hx hb dX7_most_50 rfl (lv_at hl 0 rfl) ?_
  refine lv_iload_n hx hb dX7_most_51 rfl (lv_at hl 2 rfl) ?_
  refine p_LP_lastAsked X hP hS  tw_71 dX7_most_52 (fun H locs hP hS => ?_)
  refine lv_iload_n hx hb dX7_most_55 rfl (lv_at hl 1 rfl) ?_
  cases hf
  exact rtI X hr hlk hP hS dX7_most_56
/-! X8_isOn -/
section
variable {p : Program} {l : Launch} {e : Env} {s : State} {m : MethodId} {args : Array Value} {below : List Frame} {meth : Method} {c : Code}
variable {D : va_G} {cI cP cB cA : ClassId} {ad : Nat → Nat} {tL tC : Nat}
end
set_option maxHeartbeats 4000000 in
set_option maxRecDepth 100000 in
theorem m_X8_isOn {l : Launch} {D : va_G} {cI cP cB cA : ClassId} {ad : Nat → Nat} {tL tC : Nat} {x1 : Int32} {x2 : Int32} {S : Stt} {res : Int32 × Stt} (hf : f_X8_isOn x1 x2 S = some res) : Ct l D cI cP cB cA 19 ad tL tC yX8_isOn cX8_isOn 4 (some .int) 6 [.ref (ad 0), .int x1, .int x2] (cfM ad cI S) (QI D 19 ad res.1 (cfM ad cI res.2)) := by
  refine ctOf (by decide) (Nat.le_of_ble_eq_true rfl) ?_
  intro p e s m args below meth c ls X hr hlk hP hl
  have hS : va_S (Ar 19 ad) s.heap s.heap [] := va_S.rf
  have hx := X.1.1
  have hb := X.1.2.1
  have hl : lv_has ls 4 [(0, .ref (ad 0)), (1, .int x1), (2, .int x2)] := hl
  unfold f_X8_isOn at hf
  refine lv_aload_n hx hb dX8_isOn_0 rfl (lv_at hl 0 rfl) ?_
  refine lv_iload_n hx hb dX8_isOn_1 rfl (lv_at hl 1 rfl) ?_
  refine lv_aload_n hx hb dX8_isOn_2 rfl (lv_at hl 0 rfl) ?_
  refine lv_iload_n hx hb dX8_isOn_3 rfl (lv_at hl 2 rfl) ?_
  obtain ⟨q1, e2, hf⟩ := bind_some hf
  refine aftI hS (cV (rest := [.int x1, .ref (ad 0)]) X hP hS [.int x2] (m_X8_bindSet  e2) cw_X8_bindSet tw_318 tw_575 tw_788 (by decide) (cf_M ) rfl (fits9 (by first | decide | omega) (by decide)) rfl rfl hl.1 (Nat.le_of_ble_eq_true rfl) dX8_isOn_4 ⟨Nat.zero_le _, Nat.zero_le _⟩) (fun H locs hP hS => ?_)
  refine lv_aload_n hx hb dX8_isOn_7 rfl (lv_at hl 0 rfl) ?_
  refine lv_iconst (v := (5 : Int32)) hx hb dX8_isOn_8 (by decide) ?_
  refine lv_iload_n hx hb dX8_isOn_9 rfl (lv_at hl 2 rfl) ?_
  obtain ⟨q3, e4, hf⟩ := bind_some hf
  refine aftI hS (cV (rest := [.int q1.1, .int x1, .ref (ad 0)]) X hP hS [.int (5 : Int32), .int x2] (m_X8_meanOf  e4) cw_X8_meanOf tw_332 tw_589 tw_799 (by decide) (cf_M ) rfl (fits9 (by first | decide | omega) (by decide)) rfl rfl hl.1 (Nat.le_of_ble_eq_true rfl) dX8_isOn_10 ⟨Nat.zero_le _, Nat.zero_le _⟩) (fun H locs hP hS => ?_)
  refine lv_aload_n hx hb dX8_isOn_13 rfl (lv_at hl 0 rfl) ?_
  refine lv_bipush (v := (6 : Int32)) hx hb dX8_isOn_14 (by decide) ?_
  refine lv_iload_n hx hb dX8_isOn_16 rfl (lv_at hl 2 rfl) ?_
  obtain ⟨q5, e6, hf⟩ := bind_some hf
  refine aftI hS (cV (rest := [.int q3.1, .int q1.1, .int x1, .ref (ad 0)]) X hP hS [.int (6 : Int32), .int x2] (m_X8_meanOf  e6) cw_X8_meanOf tw_332 tw_589 tw_799 (by decide) (cf_M ) rfl (fits9 (by first | decide | omega) (by decide)) rfl rfl hl.1 (Nat.le_of_ble_eq_true rfl) dX8_isOn_17 ⟨Nat.zero_le _, Nat.zero_le _⟩) (fun H locs hP hS => ?_)
  obtain ⟨q7, e8, hf⟩ := bind_some hf
  refine aftI hS (cV (rest := []) X hP hS [.int x1, .int q1.1, .int q3.1, .int q5.1] (m_X8_onesOf  e8) cw_X8_onesOf tw_340 tw_597 tw_806 (by decide) (cf_M ) rfl (fits9 (by first | decide | omega) (by decide)) rfl rfl hl.1 (Nat.le_of_ble_eq_true rfl) dX8_isOn_20 ⟨Nat.zero_le _, Nat.zero_le _⟩) (fun H locs hP hS => ?_)
  refine lv_istore_n (lv' := [(3, .int q7.1), (0, .ref (ad 0)), (1, .int x1), (2, .int x2)]) hx hb dX8_isOn_23 rfl hl (by decide) rfl (fun ls hl => ?_)
  refine lv_iload_n hx hb dX8_isOn_24 rfl (lv_at hl 0 rfl) ?_
  refine lv_if_ne (tgt := 32) hx hb dX8_isOn_25 (by decide) (fun c9 => ?_) (fun c9 => ?_)
  · rw [if_neg c9] at hf
    refine lv_iload_n hx hb dX8_isOn_32 rfl (lv_at hl 0 rfl) ?_
    refine lv_aload_n hx hb dX8_isOn_33 rfl (lv_at hl 1 rfl) ?_
    refine g_M_ways X hP  tw_98 dX8_isOn_34 ?_
    refine lv_icmp_ne (tgt := 44) hx hb dX8_isOn_37 (by decide) (fun c10 => ?_) (fun c10 => ?_)
    · rw [if_neg c10] at hf
      refine lv_bipush (v := (-9 : Int32)) hx hb dX8_isOn_44 (by decide) ?_
      cases hf
      exact rtI X hr hlk hP hS dX8_isOn_46
    · rw [if_pos c10] at hf
      refine lv_iconst (v := (1 : Int32)) hx hb dX8_isOn_40 (by decide) ?_
      refine lv_goto (tgt := 46) hx hb dX8_isOn_41 (by decide) ?_
      cases hf
      exact rtI X hr hlk hP hS dX8_isOn_46
  · rw [if_pos c9] at hf
    refine lv_iconst (v := (0 : Int32)) hx hb dX8_isOn_28 (by decide) ?_
    refine lv_goto (tgt := 46) hx hb dX8_isOn_29 (by decide) ?_
    cases hf
    exact rtI X hr hlk hP hS dX8_isOn_46
/-! X8_odds -/
section
variable {p : Program} {l : Launch} {e : Env} {s : State} {m : MethodId} {args : Array Value} {below : List Frame} {meth : Method} {c : Code}
variable {D : va_G} {cI cP cB cA : ClassId} {ad : Nat → Nat} {tL tC : Nat}
set_option maxHeartbeats 4000000 in
set_option maxRecDepth 100000 in
theorem vb_X8_odds_49 (X : Cx D cI cP cB cA 19 ad tL tC p s m c cX8_odds 7 args RX8) (hr : meth.sig.returnType = (some .int)) (hlk : meth.locks = false) {res : Int32 × Stt} (kb : Int32 → Int32 → Int32 → Stt → Option (Int32 × Stt)) (ke : Int32 → Int32 → Stt → Option (Int32 × Stt)) (hkb : ∀ (x3 : Int32) (x4 : Int32) (x5 : Int32) (S : Stt) (H : Heap) (locs : List Loc) (ls : Array Slot), kb x3 x4 x5 S = some res → va_P D vwCl (wl 19 ad (cfM ad cI S)) H → va_S (Ar 19 ad) s.heap H locs → lv_has ls 7 [(0, .ref (ad 0)), (3, .int x3), (4, .int x4), (5, .int x5)] → W p l e (rmD 6) s m args below meth c H locs 0 0 (MQ below (QI D 19 ad res.1 (cfM ad cI res.2)) args s 0 0 (Ar 19 ad)) (F0 m 49 ls [])) (hke : ∀ (x3 : Int32) (x4 : Int32) (S : Stt) (H : Heap) (locs : List Loc) (ls : Array Slot), ke x3 x4 S = some res → va_P D vwCl (wl 19 ad (cfM ad cI S)) H → va_S (Ar 19 ad) s.heap H locs → lv_has ls 7 [(0, .ref (ad 0)), (3, .int x3), (4, .int x4)] → W p l e (rmD 6) s m args below meth c H locs 0 0 (MQ below (QI D 19 ad res.1 (cfM ad cI res.2)) args s 0 0 (Ar 19 ad)) (F0 m 72 ls [])) : ∀ (x3 : Int32) (x4 : Int32) (x5 : Int32) (S : Stt) (H : Heap) (locs : List Loc) (ls : Array Slot), fb_X8_odds_49 kb ke x3 x4 x5 S = some res → va_P D vwCl (wl 19 ad (cfM ad cI S)) H → va_S (Ar 19 ad) s.heap H locs → lv_has ls 7 [(0, .ref (ad 0)), (3, .int x3), (4, .int x4), (5, .int x5)] → W p l e (rmD 6) s m args below meth c H locs 0 0 (MQ below (QI D 19 ad res.1 (cfM ad cI res.2)) args s 0 0 (Ar 19 ad)) (F0 m 49 ls []) := by
  intro x3 x4 x5 S H locs ls hf hP hS hl
  have hx := X.1.1
  have hb := X.1.2.1
  unfold fb_X8_odds_49 at hf
  refine lv_iload hx hb dX8_odds_49 (lv_at hl 3 rfl) ?_
  refine lv_if_eq (tgt := 72) hx hb dX8_odds_51 (by decide) (fun c15 => ?_) (fun c15 => ?_)
  · rw [if_pos c15] at hf
    exact hke _ _ _ _ _ ls hf  hP hS (lv_sub hl [0, 1, 2] rfl)
  · rw [if_neg c15] at hf
    refine lv_iload hx hb dX8_odds_54 (lv_at hl 2 rfl) ?_
    refine lv_iload hx hb dX8_odds_56 (lv_at hl 3 rfl) ?_
    obtain ⟨g16, hf⟩ := grd_some hf
    refine lv_irem hx hb dX8_odds_58 (of_decide_eq_true g16) ?_
    refine lv_istore (lv' := [(6, .int (x4 - x4 / x5 * x5)), (0, .ref (ad 0)), (3, .int x3), (4, .int x4), (5, .int x5)]) hx hb dX8_odds_59 hl (by decide) rfl (fun ls hl => ?_)
    refine lv_iload hx hb dX8_odds_61 (lv_at hl 4 rfl) ?_
    refine lv_istore (lv' := [(4, .int x5), (6, .int (x4 - x4 / x5 * x5)), (0, .ref (ad 0)), (3, .int x3), (5, .int x5)]) hx hb dX8_odds_63 hl (by decide) rfl (fun ls hl => ?_)
    refine lv_iload hx hb dX8_odds_65 (lv_at hl 1 rfl) ?_
    refine lv_istore (lv' := [(5, .int (x4 - x4 / x5 * x5)), (4, .int x5), (6, .int (x4 - x4 / x5 * x5)), (0, .ref (ad 0)), (3, .int x3)]) hx hb dX8_odds_67 hl (by decide) rfl (fun ls hl => ?_)
    refine lv_goto (tgt := 49) hx hb dX8_odds_69 (by decide) ?_
    exact hkb _ _ _ _ _ _ ls hf  hP hS (lv_sub hl [3, 4, 1, 0] rfl)
set_option maxHeartbeats 4000000 in
set_option maxRecDepth 100000 in
theorem vl_X8_odds_49 (X : Cx D cI cP cB cA 19 ad tL tC p s m c cX8_odds 7 args RX8) (hr : meth.sig.returnType = (some .int)) (hlk : meth.locks = false) {res : Int32 × Stt} (ke : Int32 → Int32 → Stt → Option (Int32 × Stt)) (hke : ∀ (x3 : Int32) (x4 : Int32) (S : Stt) (H : Heap) (locs : List Loc) (ls : Array Slot), ke x3 x4 S = some res → va_P D vwCl (wl 19 ad (cfM ad cI S)) H → va_S (Ar 19 ad) s.heap H locs → lv_has ls 7 [(0, .ref (ad 0)), (3, .int x3), (4, .int x4)] → W p l e (rmD 6) s m args below meth c H locs 0 0 (MQ below (QI D 19 ad res.1 (cfM ad cI res.2)) args s 0 0 (Ar 19 ad)) (F0 m 72 ls [])) : ∀ (n : Nat), ∀ (x3 : Int32) (x4 : Int32) (x5 : Int32) (S : Stt) (H : Heap) (locs : List Loc) (ls : Array Slot), fl_X8_odds_49 ke n x3 x4 x5 S = some res → va_P D vwCl (wl 19 ad (cfM ad cI S)) H → va_S (Ar 19 ad) s.heap H locs → lv_has ls 7 [(0, .ref (ad 0)), (3, .int x3), (4, .int x4), (5, .int x5)] → W p l e (rmD 6) s m args below meth c H locs 0 0 (MQ below (QI D 19 ad res.1 (cfM ad cI res.2)) args s 0 0 (Ar 19 ad)) (F0 m 49 ls []) := by
  intro n
  induction n with
  | zero =>
    intro x3 x4 x5 S H locs ls hf hP hS hl
    cases hf
  | succ n ih =>
    intro x3 x4 x5 S H locs ls hf hP hS hl
    exact vb_X8_odds_49 X hr hlk _ ke ih hke x3 x4 x5 S H locs ls hf  hP hS hl
end
set_option maxHeartbeats 4000000 in
set_option maxRecDepth 100000 in
theorem m_X8_odds {l : Launch} {D : va_G} {cI cP cB cA : ClassId} {ad : Nat → Nat} {tL tC : Nat} {x1 : Int32} {x2 : Int32} {S : Stt} {res : Int32 × Stt} (hf : f_X8_odds x1 x2 S = some res) : Ct l D cI cP cB cA 19 ad tL tC yX8_odds cX8_odds 7 (some .int) 6 [.ref (ad 0), .int x1, .int x2] (cfM ad cI S) (QI D 19 ad res.1 (cfM ad cI res.2)) := by
  refine ctOf (by decide) (Nat.le_of_ble_eq_true rfl) ?_
  intro p e s m args below meth c ls X hr hlk hP hl
  have hS : va_S (Ar 19 ad) s.heap s.heap [] := va_S.rf
  have hx := X.1.1
  have hb := X.1.2.1
  have hl : lv_has ls 7 [(0, .ref (ad 0)), (1, .int x1), (2, .int x2)] := hl
  unfold f_X8_odds at hf
  refine lv_iload_n hx hb dX8_odds_0 rfl (lv_at hl 1 rfl) ?_
  obtain ⟨q1, e2, hf⟩ := bind_some hf
  refine aftI hS (cS (rest := []) X hP hS [.int x1] (m_X8_isCase  e2) cw_X8_isCase tw_338 tw_595 (fits9 (by first | decide | omega) (by decide)) rfl rfl hl.1 (Nat.le_of_ble_eq_true rfl) dX8_odds_1 ⟨Nat.zero_le _, Nat.zero_le _⟩) (fun H locs hP hS => ?_)
  refine lv_if_eq (tgt := 14) hx hb dX8_odds_4 (by decide) (fun c3 => ?_) (fun c3 => ?_)
  · rw [if_pos c3] at hf
    refine lv_iconst (v := (-1 : Int32)) hx hb dX8_odds_14 (by decide) ?_
    cases hf
    exact rtI X hr hlk hP hS dX8_odds_15
  · rw [if_neg c3] at hf
    refine lv_iload_n hx hb dX8_odds_7 rfl (lv_at hl 2 rfl) ?_
    obtain ⟨q4, e5, hf⟩ := bind_some hf
    refine aftI hS (cS (rest := []) X hP hS [.int x2] (m_X8_isDay  e5) cw_X8_isDay tw_317 tw_574 (fits9 (by first | decide | omega) (by decide)) rfl rfl hl.1 (Nat.le_of_ble_eq_true rfl) dX8_odds_8 ⟨Nat.zero_le _, Nat.zero_le _⟩) (fun H locs hP hS => ?_)
    refine lv_if_ne (tgt := 16) hx hb dX8_odds_11 (by decide) (fun c6 => ?_) (fun c6 => ?_)
    · rw [if_neg c6] at hf
      refine lv_aload_n hx hb dX8_odds_16 rfl (lv_at hl 0 rfl) ?_
      refine lv_iload_n hx hb dX8_odds_17 rfl (lv_at hl 1 rfl) ?_
      refine lv_aload_n hx hb dX8_odds_18 rfl (lv_at hl 0 rfl) ?_
      refine lv_iload_n hx hb dX8_odds_19 rfl (lv_at hl 2 rfl) ?_
      obtain ⟨q7, e8, hf⟩ := bind_some hf
      refine aftI hS (cV (rest := [.int x1, .ref (ad 0)]) X hP hS [.int x2] (m_X8_bindSet  e8) cw_X8_bindSet tw_318 tw_575 tw_788 (by decide) (cf_M ) rfl (fits9 (by first | decide | omega) (by decide)) rfl rfl hl.1 (Nat.le_of_ble_eq_true rfl) dX8_odds_20 ⟨Nat.zero_le _, Nat.zero_le _⟩) (fun H locs hP hS => ?_)
      refine lv_aload_n hx hb dX8_odds_23 rfl (lv_at hl 0 rfl) ?_
      refine lv_iconst (v := (5 : Int32)) hx hb dX8_odds_24 (by decide) ?_
      refine lv_iload_n hx hb dX8_odds_25 rfl (lv_at hl 2 rfl) ?_
      obtain ⟨q9, e10, hf⟩ := bind_some hf
      refine aftI hS (cV (rest := [.int q7.1, .int x1, .ref (ad 0)]) X hP hS [.int (5 : Int32), .int x2] (m_X8_meanOf  e10) cw_X8_meanOf tw_332 tw_589 tw_799 (by decide) (cf_M ) rfl (fits9 (by first | decide | omega) (by decide)) rfl rfl hl.1 (Nat.le_of_ble_eq_true rfl) dX8_odds_26 ⟨Nat.zero_le _, Nat.zero_le _⟩) (fun H locs hP hS => ?_)
      refine lv_aload_n hx hb dX8_odds_29 rfl (lv_at hl 0 rfl) ?_
      refine lv_bipush (v := (6 : Int32)) hx hb dX8_odds_30 (by decide) ?_
      refine lv_iload_n hx hb dX8_odds_32 rfl (lv_at hl 2 rfl) ?_
      obtain ⟨q11, e12, hf⟩ := bind_some hf
      refine aftI hS (cV (rest := [.int q9.1, .int q7.1, .int x1, .ref (ad 0)]) X hP hS [.int (6 : Int32), .int x2] (m_X8_meanOf  e12) cw_X8_meanOf tw_332 tw_589 tw_799 (by decide) (cf_M ) rfl (fits9 (by first | decide | omega) (by decide)) rfl rfl hl.1 (Nat.le_of_ble_eq_true rfl) dX8_odds_33 ⟨Nat.zero_le _, Nat.zero_le _⟩) (fun H locs hP hS => ?_)
      obtain ⟨q13, e14, hf⟩ := bind_some hf
      refine aftI hS (cV (rest := []) X hP hS [.int x1, .int q7.1, .int q9.1, .int q11.1] (m_X8_onesOf  e14) cw_X8_onesOf tw_340 tw_597 tw_806 (by decide) (cf_M ) rfl (fits9 (by first | decide | omega) (by decide)) rfl rfl hl.1 (Nat.le_of_ble_eq_true rfl) dX8_odds_36 ⟨Nat.zero_le _, Nat.zero_le _⟩) (fun H locs hP hS => ?_)
      refine lv_istore_n (lv' := [(3, .int q13.1), (0, .ref (ad 0)), (1, .int x1), (2, .int x2)]) hx hb dX8_odds_39 rfl hl (by decide) rfl (fun ls hl => ?_)
      refine lv_iload_n hx hb dX8_odds_40 rfl (lv_at hl 0 rfl) ?_
      refine lv_istore (lv' := [(4, .int q13.1), (3, .int q13.1), (0, .ref (ad 0)), (1, .int x1), (2, .int x2)]) hx hb dX8_odds_41 hl (by decide) rfl (fun ls hl => ?_)
      refine lv_aload_n hx hb dX8_odds_43 rfl (lv_at hl 2 rfl) ?_
      refine g_M_ways X hP  tw_98 dX8_odds_44 ?_
      refine lv_istore (lv' := [(5, .int (q13.2.1 0 22 0)), (4, .int q13.1), (3, .int q13.1), (0, .ref (ad 0)), (1, .int x1), (2, .int x2)]) hx hb dX8_odds_47 hl (by decide) rfl (fun ls hl => ?_)
      refine vl_X8_odds_49 X hr hlk _ ?_ 300 _ _ _ _ _ _ ls hf  hP hS (lv_sub hl [3, 2, 1, 0] rfl)
      intro x3 x4 S H locs ls hf hP hS hl
      refine lv_aload_n hx hb dX8_odds_72 rfl (lv_at hl 0 rfl) ?_
      refine lv_iload_n hx hb dX8_odds_73 rfl (lv_at hl 1 rfl) ?_
      refine lv_iload hx hb dX8_odds_74 (lv_at hl 2 rfl) ?_
      obtain ⟨g17, hf⟩ := grd_some hf
      refine lv_idiv hx hb dX8_odds_76 (of_decide_eq_true g17) ?_
      refine lv_i2l hx hb dX8_odds_77 rfl ?_
      refine p_M_upper X hP hS  tw_79 dX8_odds_78 (fun H locs hP hS => ?_)
      refine lv_aload_n hx hb dX8_odds_81 rfl (lv_at hl 0 rfl) ?_
      refine lv_aload_n hx hb dX8_odds_82 rfl (lv_at hl 0 rfl) ?_
      refine g_M_ways X hP  tw_98 dX8_odds_83 ?_
      refine lv_iload hx hb dX8_odds_86 (lv_at hl 2 rfl) ?_
      obtain ⟨g18, hf⟩ := grd_some hf
      refine lv_idiv hx hb dX8_odds_88 (of_decide_eq_true g18) ?_
      refine lv_i2l hx hb dX8_odds_89 rfl ?_
      refine p_M_lower X hP hS  tw_80 dX8_odds_90 (fun H locs hP hS => ?_)
      refine lv_iconst (v := (1 : Int32)) hx hb dX8_odds_93 (by decide) ?_
      cases hf
      exact rtI X hr hlk hP hS dX8_odds_94
    · rw [if_pos c6] at hf
      refine lv_iconst (v := (-1 : Int32)) hx hb dX8_odds_14 (by decide) ?_
      cases hf
      exact rtI X hr hlk hP hS dX8_odds_15
/-! X8_waitsOn -/
section
variable {p : Program} {l : Launch} {e : Env} {s : State} {m : MethodId} {args : Array Value} {below : List Frame} {meth : Method} {c : Code}
variable {D : va_G} {cI cP cB cA : ClassId} {ad : Nat → Nat} {tL tC : Nat}
set_option maxHeartbeats 4000000 in
set_option maxRecDepth 100000 in
theorem vj_X8_waitsOn_73_29 (X : Cx D cI cP cB cA 19 ad tL tC p s m c cX8_waitsOn 10 args RX8) (hr : meth.sig.returnType = (some .int)) (hlk : meth.locks = false) {res : Int32 × Stt} (kb : Int32 → Int32 → Int32 → Int32 → Int32 → Int32 → Stt → Option (Int32 × Stt)) (ke : Int32 → Stt → Option (Int32 × Stt)) (hkb : ∀ (x2 : Int32) (x3 : Int32) (x4 : Int32) (x5 : Int32) (x6 : Int32) (x7 : Int32) (S : Stt) (H : Heap) (locs : List Loc) (ls : Array Slot), kb x2 x3 x4 x5 x6 x7 S = some res → va_P D vwCl (wl 19 ad (cfM ad cI S)) H → va_S (Ar 19 ad) s.heap H locs → lv_has ls 10 [(0, .ref (ad 0)), (2, .int x2), (3, .int x3), (4, .int x4), (5, .int x5), (6, .int x6), (7, .int x7)] → W p l e (rmD 6) s m args below meth c H locs 0 0 (MQ below (QI D 19 ad res.1 (cfM ad cI res.2)) args s 0 0 (Ar 19 ad)) (F0 m 29 ls [])) (hke : ∀ (x6 : Int32) (S : Stt) (H : Heap) (locs : List Loc) (ls : Array Slot), ke x6 S = some res → va_P D vwCl (wl 19 ad (cfM ad cI S)) H → va_S (Ar 19 ad) s.heap H locs → lv_has ls 10 [(6, .int x6)] → W p l e (rmD 6) s m args below meth c H locs 0 0 (MQ below (QI D 19 ad res.1 (cfM ad cI res.2)) args s 0 0 (Ar 19 ad)) (F0 m 97 ls [])) : ∀ (x2 : Int32) (x3 : Int32) (x4 : Int32) (x5 : Int32) (x6 : Int32) (x7 : Int32) (xt0 : Int32) (S : Stt) (H : Heap) (locs : List Loc) (ls : Array Slot), fj_X8_waitsOn_73_29 kb ke x2 x3 x4 x5 x6 x7 xt0 S = some res → va_P D vwCl (wl 19 ad (cfM ad cI S)) H → va_S (Ar 19 ad) s.heap H locs → lv_has ls 10 [(0, .ref (ad 0)), (2, .int x2), (3, .int x3), (4, .int x4), (5, .int x5), (6, .int x6), (7, .int x7)] → W p l e (rmD 6) s m args below meth c H locs 0 0 (MQ below (QI D 19 ad res.1 (cfM ad cI res.2)) args s 0 0 (Ar 19 ad)) (F0 m 73 ls [.int xt0]) := by
  intro x2 x3 x4 x5 x6 x7 xt0 S H locs ls hf hP hS hl
  have hx := X.1.1
  have hb := X.1.2.1
  unfold fj_X8_waitsOn_73_29 at hf
  refine lv_istore (lv' := [(9, .int xt0), (0, .ref (ad 0)), (2, .int x2), (3, .int x3), (4, .int x4), (5, .int x5), (6, .int x6), (7, .int x7)]) hx hb dX8_waitsOn_73 hl (by decide) rfl (fun ls hl => ?_)
  refine lv_iload hx hb dX8_waitsOn_75 (lv_at hl 6 rfl) ?_
  refine lv_iload hx hb dX8_waitsOn_77 (lv_at hl 0 rfl) ?_
  refine lv_iload_n hx hb dX8_waitsOn_79 rfl (lv_at hl 2 rfl) ?_
  refine lv_icmp_ne (tgt := 87) hx hb dX8_waitsOn_80 (by decide) (fun c12 => ?_) (fun c12 => ?_)
  · rw [if_neg c12] at hf
    refine lv_iconst (v := (0 : Int32)) hx hb dX8_waitsOn_87 (by decide) ?_
    refine lv_iadd hx hb dX8_waitsOn_88 ?_
    refine lv_istore (lv' := [(6, .int (x6 + (0 : Int32))), (9, .int xt0), (0, .ref (ad 0)), (2, .int x2), (3, .int x3), (4, .int x4), (5, .int x5), (7, .int x7)]) hx hb dX8_waitsOn_89 hl (by decide) rfl (fun ls hl => ?_)
    refine lv_iinc (v := (x7 + (1 : Int32))) (lv' := [(7, .int (x7 + (1 : Int32))), (6, .int (x6 + (0 : Int32))), (9, .int xt0), (0, .ref (ad 0)), (2, .int x2), (3, .int x3), (4, .int x4), (5, .int x5)]) hx hb dX8_waitsOn_91 hl (k := 7) rfl rfl (by decide) rfl (fun ls hl => ?_)
    refine lv_goto (tgt := 29) hx hb dX8_waitsOn_94 (by decide) ?_
    exact hkb _ _ _ _ _ _ _ _ _ ls hf  hP hS (lv_sub hl [3, 4, 5, 6, 7, 1, 0] rfl)
  · rw [if_pos c12] at hf
    refine lv_iconst (v := (1 : Int32)) hx hb dX8_waitsOn_83 (by decide) ?_
    refine lv_goto (tgt := 88) hx hb dX8_waitsOn_84 (by decide) ?_
    refine lv_iadd hx hb dX8_waitsOn_88 ?_
    refine lv_istore (lv' := [(6, .int (x6 + (1 : Int32))), (9, .int xt0), (0, .ref (ad 0)), (2, .int x2), (3, .int x3), (4, .int x4), (5, .int x5), (7, .int x7)]) hx hb dX8_waitsOn_89 hl (by decide) rfl (fun ls hl => ?_)
    refine lv_iinc (v := (x7 + (1 : Int32))) (lv' := [(7, .int (x7 + (1 : Int32))), (6, .int (x6 + (1 : Int32))), (9, .int xt0), (0, .ref (ad 0)), (2, .int x2), (3, .int x3), (4, .int x4), (5, .int x5)]) hx hb dX8_waitsOn_91 hl (k := 7) rfl rfl (by decide) rfl (fun ls hl => ?_)
    refine lv_goto (tgt := 29) hx hb dX8_waitsOn_94 (by decide) ?_
    exact hkb _ _ _ _ _ _ _ _ _ ls hf  hP hS (lv_sub hl [3, 4, 5, 6, 7, 1, 0] rfl)
set_option maxHeartbeats 4000000 in
set_option maxRecDepth 100000 in
theorem vb_X8_waitsOn_29 (X : Cx D cI cP cB cA 19 ad tL tC p s m c cX8_waitsOn 10 args RX8) (hr : meth.sig.returnType = (some .int)) (hlk : meth.locks = false) {res : Int32 × Stt} (kb : Int32 → Int32 → Int32 → Int32 → Int32 → Int32 → Stt → Option (Int32 × Stt)) (ke : Int32 → Stt → Option (Int32 × Stt)) (hkb : ∀ (x2 : Int32) (x3 : Int32) (x4 : Int32) (x5 : Int32) (x6 : Int32) (x7 : Int32) (S : Stt) (H : Heap) (locs : List Loc) (ls : Array Slot), kb x2 x3 x4 x5 x6 x7 S = some res → va_P D vwCl (wl 19 ad (cfM ad cI S)) H → va_S (Ar 19 ad) s.heap H locs → lv_has ls 10 [(0, .ref (ad 0)), (2, .int x2), (3, .int x3), (4, .int x4), (5, .int x5), (6, .int x6), (7, .int x7)] → W p l e (rmD 6) s m args below meth c H locs 0 0 (MQ below (QI D 19 ad res.1 (cfM ad cI res.2)) args s 0 0 (Ar 19 ad)) (F0 m 29 ls [])) (hke : ∀ (x6 : Int32) (S : Stt) (H : Heap) (locs : List Loc) (ls : Array Slot), ke x6 S = some res → va_P D vwCl (wl 19 ad (cfM ad cI S)) H → va_S (Ar 19 ad) s.heap H locs → lv_has ls 10 [(6, .int x6)] → W p l e (rmD 6) s m args below meth c H locs 0 0 (MQ below (QI D 19 ad res.1 (cfM ad cI res.2)) args s 0 0 (Ar 19 ad)) (F0 m 97 ls [])) : ∀ (x2 : Int32) (x3 : Int32) (x4 : Int32) (x5 : Int32) (x6 : Int32) (x7 : Int32) (S : Stt) (H : Heap) (locs : List Loc) (ls : Array Slot), fb_X8_waitsOn_29 kb ke x2 x3 x4 x5 x6 x7 S = some res → va_P D vwCl (wl 19 ad (cfM ad cI S)) H → va_S (Ar 19 ad) s.heap H locs → lv_has ls 10 [(0, .ref (ad 0)), (2, .int x2), (3, .int x3), (4, .int x4), (5, .int x5), (6, .int x6), (7, .int x7)] → W p l e (rmD 6) s m args below meth c H locs 0 0 (MQ below (QI D 19 ad res.1 (cfM ad cI res.2)) args s 0 0 (Ar 19 ad)) (F0 m 29 ls []) := by
  intro x2 x3 x4 x5 x6 x7 S H locs ls hf hP hS hl
  have hx := X.1.1
  have hb := X.1.2.1
  unfold fb_X8_waitsOn_29 at hf
  refine lv_iload hx hb dX8_waitsOn_29 (lv_at hl 6 rfl) ?_
  refine lv_bipush (v := (32 : Int32)) hx hb dX8_waitsOn_31 (by decide) ?_
  refine lv_icmp_ge (tgt := 97) hx hb dX8_waitsOn_33 (by decide) (fun c7 => ?_) (fun c7 => ?_)
  · rw [if_pos c7] at hf
    exact hke _ _ _ _ ls hf  hP hS (lv_sub hl [5] rfl)
  · rw [if_neg c7] at hf
    refine lv_aload_n hx hb dX8_waitsOn_36 rfl (lv_at hl 0 rfl) ?_
    refine lv_iload hx hb dX8_waitsOn_37 (lv_at hl 6 rfl) ?_
    refine lv_iload_n hx hb dX8_waitsOn_39 rfl (lv_at hl 2 rfl) ?_
    refine lv_iload hx hb dX8_waitsOn_40 (lv_at hl 3 rfl) ?_
    refine lv_iload hx hb dX8_waitsOn_42 (lv_at hl 4 rfl) ?_
    obtain ⟨q8, e9, hf⟩ := bind_some hf
    refine aftI hS (cV (rest := []) X hP hS [.int x7, .int x3, .int x4, .int x5] (m_X8_onesOf  e9) cw_X8_onesOf tw_340 tw_597 tw_806 (by decide) (cf_M ) rfl (fits9 (by first | decide | omega) (by decide)) rfl rfl hl.1 (Nat.le_of_ble_eq_true rfl) dX8_waitsOn_44 ⟨Nat.zero_le _, Nat.zero_le _⟩) (fun H locs hP hS => ?_)
    refine lv_istore (lv' := [(8, .int q8.1), (0, .ref (ad 0)), (2, .int x2), (3, .int x3), (4, .int x4), (5, .int x5), (6, .int x6), (7, .int x7)]) hx hb dX8_waitsOn_47 hl (by decide) rfl (fun ls hl => ?_)
    refine lv_iload hx hb dX8_waitsOn_49 (lv_at hl 0 rfl) ?_
    refine lv_if_ne (tgt := 58) hx hb dX8_waitsOn_51 (by decide) (fun c10 => ?_) (fun c10 => ?_)
    · rw [if_neg c10] at hf
      refine lv_iload hx hb dX8_waitsOn_58 (lv_at hl 0 rfl) ?_
      refine lv_aload_n hx hb dX8_waitsOn_60 rfl (lv_at hl 1 rfl) ?_
      refine g_M_ways X hP  tw_98 dX8_waitsOn_61 ?_
      refine lv_icmp_ne (tgt := 71) hx hb dX8_waitsOn_64 (by decide) (fun c11 => ?_) (fun c11 => ?_)
      · rw [if_neg c11] at hf
        refine lv_bipush (v := (-9 : Int32)) hx hb dX8_waitsOn_71 (by decide) ?_
        exact vj_X8_waitsOn_73_29 X hr hlk _ _ hkb hke _ _ _ _ _ _ _ _ _ _ ls hf  hP hS (lv_sub hl [1, 2, 3, 4, 5, 6, 7] rfl)
      · rw [if_pos c11] at hf
        refine lv_iconst (v := (1 : Int32)) hx hb dX8_waitsOn_67 (by decide) ?_
        refine lv_goto (tgt := 73) hx hb dX8_waitsOn_68 (by decide) ?_
        exact vj_X8_waitsOn_73_29 X hr hlk _ _ hkb hke _ _ _ _ _ _ _ _ _ _ ls hf  hP hS (lv_sub hl [1, 2, 3, 4, 5, 6, 7] rfl)
    · rw [if_pos c10] at hf
      refine lv_iconst (v := (0 : Int32)) hx hb dX8_waitsOn_54 (by decide) ?_
      refine lv_goto (tgt := 73) hx hb dX8_waitsOn_55 (by decide) ?_
      exact vj_X8_waitsOn_73_29 X hr hlk _ _ hkb hke _ _ _ _ _ _ _ _ _ _ ls hf  hP hS (lv_sub hl [1, 2, 3, 4, 5, 6, 7] rfl)
set_option maxHeartbeats 4000000 in
set_option maxRecDepth 100000 in
theorem vl_X8_waitsOn_29 (X : Cx D cI cP cB cA 19 ad tL tC p s m c cX8_waitsOn 10 args RX8) (hr : meth.sig.returnType = (some .int)) (hlk : meth.locks = false) {res : Int32 × Stt} (ke : Int32 → Stt → Option (Int32 × Stt)) (hke : ∀ (x6 : Int32) (S : Stt) (H : Heap) (locs : List Loc) (ls : Array Slot), ke x6 S = some res → va_P D vwCl (wl 19 ad (cfM ad cI S)) H → va_S (Ar 19 ad) s.heap H locs → lv_has ls 10 [(6, .int x6)] → W p l e (rmD 6) s m args below meth c H locs 0 0 (MQ below (QI D 19 ad res.1 (cfM ad cI res.2)) args s 0 0 (Ar 19 ad)) (F0 m 97 ls [])) : ∀ (n : Nat), ∀ (x2 : Int32) (x3 : Int32) (x4 : Int32) (x5 : Int32) (x6 : Int32) (x7 : Int32) (S : Stt) (H : Heap) (locs : List Loc) (ls : Array Slot), fl_X8_waitsOn_29 ke n x2 x3 x4 x5 x6 x7 S = some res → va_P D vwCl (wl 19 ad (cfM ad cI S)) H → va_S (Ar 19 ad) s.heap H locs → lv_has ls 10 [(0, .ref (ad 0)), (2, .int x2), (3, .int x3), (4, .int x4), (5, .int x5), (6, .int x6), (7, .int x7)] → W p l e (rmD 6) s m args below meth c H locs 0 0 (MQ below (QI D 19 ad res.1 (cfM ad cI res.2)) args s 0 0 (Ar 19 ad)) (F0 m 29 ls []) := by
  intro n
  induction n with
  | zero =>
    intro x2 x3 x4 x5 x6 x7 S H locs ls hf hP hS hl
    cases hf
  | succ n ih =>
    intro x2 x3 x4 x5 x6 x7 S H locs ls hf hP hS hl
    exact vb_X8_waitsOn_29 X hr hlk _ ke ih hke x2 x3 x4 x5 x6 x7 S H locs ls hf  hP hS hl
end
set_option maxHeartbeats 4000000 in
set_option maxRecDepth 100000 in
theorem m_X8_waitsOn {l : Launch} {D : va_G} {cI cP cB cA : ClassId} {ad : Nat → Nat} {tL tC : Nat} {x1 : Int32} {x2 : Int32} {S : Stt} {res : Int32 × Stt} (hf : f_X8_waitsOn x1 x2 S = some res) : Ct l D cI cP cB cA 19 ad tL tC yX8_waitsOn cX8_waitsOn 10 (some .int) 6 [.ref (ad 0), .int x1, .int x2] (cfM ad cI S) (QI D 19 ad res.1 (cfM ad cI res.2)) := by
  refine ctOf (by decide) (Nat.le_of_ble_eq_true rfl) ?_
  intro p e s m args below meth c ls X hr hlk hP hl
  have hS : va_S (Ar 19 ad) s.heap s.heap [] := va_S.rf
  have hx := X.1.1
  have hb := X.1.2.1
  have hl : lv_has ls 10 [(0, .ref (ad 0)), (1, .int x1), (2, .int x2)] := hl
  unfold f_X8_waitsOn at hf
  refine lv_aload_n hx hb dX8_waitsOn_0 rfl (lv_at hl 0 rfl) ?_
  refine lv_iload_n hx hb dX8_waitsOn_1 rfl (lv_at hl 1 rfl) ?_
  obtain ⟨q1, e2, hf⟩ := bind_some hf
  refine aftI hS (cV (rest := []) X hP hS [.int x1] (m_X8_bindSet  e2) cw_X8_bindSet tw_318 tw_575 tw_788 (by decide) (cf_M ) rfl (fits9 (by first | decide | omega) (by decide)) rfl rfl hl.1 (Nat.le_of_ble_eq_true rfl) dX8_waitsOn_2 ⟨Nat.zero_le _, Nat.zero_le _⟩) (fun H locs hP hS => ?_)
  refine lv_istore_n (lv' := [(3, .int q1.1), (0, .ref (ad 0)), (1, .int x1), (2, .int x2)]) hx hb dX8_waitsOn_5 rfl hl (by decide) rfl (fun ls hl => ?_)
  refine lv_aload_n hx hb dX8_waitsOn_6 rfl (lv_at hl 1 rfl) ?_
  refine lv_iconst (v := (5 : Int32)) hx hb dX8_waitsOn_7 (by decide) ?_
  refine lv_iload_n hx hb dX8_waitsOn_8 rfl (lv_at hl 2 rfl) ?_
  obtain ⟨q3, e4, hf⟩ := bind_some hf
  refine aftI hS (cV (rest := []) X hP hS [.int (5 : Int32), .int x1] (m_X8_meanOf  e4) cw_X8_meanOf tw_332 tw_589 tw_799 (by decide) (cf_M ) rfl (fits9 (by first | decide | omega) (by decide)) rfl rfl hl.1 (Nat.le_of_ble_eq_true rfl) dX8_waitsOn_9 ⟨Nat.zero_le _, Nat.zero_le _⟩) (fun H locs hP hS => ?_)
  refine lv_istore (lv' := [(4, .int q3.1), (3, .int q1.1), (0, .ref (ad 0)), (1, .int x1), (2, .int x2)]) hx hb dX8_waitsOn_12 hl (by decide) rfl (fun ls hl => ?_)
  refine lv_aload_n hx hb dX8_waitsOn_14 rfl (lv_at hl 2 rfl) ?_
  refine lv_bipush (v := (6 : Int32)) hx hb dX8_waitsOn_15 (by decide) ?_
  refine lv_iload_n hx hb dX8_waitsOn_17 rfl (lv_at hl 3 rfl) ?_
  obtain ⟨q5, e6, hf⟩ := bind_some hf
  refine aftI hS (cV (rest := []) X hP hS [.int (6 : Int32), .int x1] (m_X8_meanOf  e6) cw_X8_meanOf tw_332 tw_589 tw_799 (by decide) (cf_M ) rfl (fits9 (by first | decide | omega) (by decide)) rfl rfl hl.1 (Nat.le_of_ble_eq_true rfl) dX8_waitsOn_18 ⟨Nat.zero_le _, Nat.zero_le _⟩) (fun H locs hP hS => ?_)
  refine lv_istore (lv' := [(5, .int q5.1), (4, .int q3.1), (3, .int q1.1), (0, .ref (ad 0)), (1, .int x1), (2, .int x2)]) hx hb dX8_waitsOn_21 hl (by decide) rfl (fun ls hl => ?_)
  refine lv_iconst (v := (0 : Int32)) hx hb dX8_waitsOn_23 (by decide) ?_
  refine lv_istore (lv' := [(6, .int (0 : Int32)), (5, .int q5.1), (4, .int q3.1), (3, .int q1.1), (0, .ref (ad 0)), (1, .int x1), (2, .int x2)]) hx hb dX8_waitsOn_24 hl (by decide) rfl (fun ls hl => ?_)
  refine lv_iconst (v := (0 : Int32)) hx hb dX8_waitsOn_26 (by decide) ?_
  refine lv_istore (lv' := [(7, .int (0 : Int32)), (6, .int (0 : Int32)), (5, .int q5.1), (4, .int q3.1), (3, .int q1.1), (0, .ref (ad 0)), (1, .int x1), (2, .int x2)]) hx hb dX8_waitsOn_27 hl (by decide) rfl (fun ls hl => ?_)
  refine vl_X8_waitsOn_29 X hr hlk _ ?_ 300 _ _ _ _ _ _ _ _ _ ls hf  hP hS (lv_sub hl [5, 7, 4, 3, 2, 1, 0] rfl)
  intro x6 S H locs ls hf hP hS hl
  refine lv_iload hx hb dX8_waitsOn_97 (lv_at hl 0 rfl) ?_
  cases hf
  exact rtI X hr hlk hP hS dX8_waitsOn_99
/-! X7_book -/
section
variable {p : Program} {l : Launch} {e : Env} {s : State} {m : MethodId} {args : Array Value} {below : List Frame} {meth : Method} {c : Code}
variable {D : va_G} {cI cP cB cA : ClassId} {ad : Nat → Nat} {tL tC : Nat}
set_option maxHeartbeats 4000000 in
set_option maxRecDepth 100000 in
theorem vb_X7_book_74 (X : Cx D cI cP cB cA 79 ad tL tC p s m c cX7_book 3 args RX7) (hr : meth.sig.returnType = (some .int)) (hlk : meth.locks = false) {res : Int32 × Stt} (kb : Int32 → Stt → Option (Int32 × Stt)) (ke : Stt → Option (Int32 × Stt)) (hkb : ∀ (x2 : Int32) (S : Stt) (H : Heap) (locs : List Loc) (ls : Array Slot), kb x2 S = some res → va_P D vwCl (wl 79 ad (cfC ad cI cP cB cA S)) H → va_S (Ar 79 ad) s.heap H locs → lv_has ls 3 [(0, .ref (ad 0)), (2, .int x2)] → W p l e (rmD 7) s m args below meth c H locs 0 0 (MQ below (QI D 79 ad res.1 (cfC ad cI cP cB cA res.2)) args s 0 0 (Ar 79 ad)) (F0 m 74 ls [])) (hke : ∀ (S : Stt) (H : Heap) (locs : List Loc) (ls : Array Slot), ke S = some res → va_P D vwCl (wl 79 ad (cfC ad cI cP cB cA S)) H → va_S (Ar 79 ad) s.heap H locs → lv_has ls 3 [(0, .ref (ad 0))] → W p l e (rmD 7) s m args below meth c H locs 0 0 (MQ below (QI D 79 ad res.1 (cfC ad cI cP cB cA res.2)) args s 0 0 (Ar 79 ad)) (F0 m 94 ls [])) : ∀ (x2 : Int32) (S : Stt) (H : Heap) (locs : List Loc) (ls : Array Slot), fb_X7_book_74 kb ke x2 S = some res → va_P D vwCl (wl 79 ad (cfC ad cI cP cB cA S)) H → va_S (Ar 79 ad) s.heap H locs → lv_has ls 3 [(0, .ref (ad 0)), (2, .int x2)] → W p l e (rmD 7) s m args below meth c H locs 0 0 (MQ below (QI D 79 ad res.1 (cfC ad cI cP cB cA res.2)) args s 0 0 (Ar 79 ad)) (F0 m 74 ls []) := by
  intro x2 S H locs ls hf hP hS hl
  have hx := X.1.1
  have hb := X.1.2.1
  unfold fb_X7_book_74 at hf
  refine lv_iload_n hx hb dX7_book_74 rfl (lv_at hl 1 rfl) ?_
  refine lv_iconst (v := (3 : Int32)) hx hb dX7_book_75 (by decide) ?_
  refine lv_icmp_ge (tgt := 94) hx hb dX7_book_76 (by decide) (fun c14 => ?_) (fun c14 => ?_)
  · rw [if_pos c14] at hf
    exact hke  _ _ _ ls hf  hP hS (lv_sub hl [0] rfl)
  · rw [if_neg c14] at hf
    refine lv_aload_n hx hb dX7_book_79 rfl (lv_at hl 0 rfl) ?_
    refine g_LP_kept X hP  tw_64 dX7_book_80 ?_
    refine lv_iload_n hx hb dX7_book_83 rfl (lv_at hl 1 rfl) ?_
    obtain ⟨g15, hf⟩ := grd_some hf
    refine q_kept X hP  g15 dX7_book_84 ?_
    obtain ⟨q16, e17, hf⟩ := bind_some hf
    refine aftV hS (cV (rest := []) X hP hS [] (m_X0_empty (by have := ixb_lt g15; omega) e17) cw_X0_empty tw_167 tw_428 tw_645 (bk_lt (by have := ixb_lt g15; omega)) (cf_Book (by have := ixb_lt g15; omega)) rfl (fits9 (by first | decide | omega) (by decide)) rfl rfl hl.1 (Nat.le_of_ble_eq_true rfl) dX7_book_85 ⟨Nat.zero_le _, Nat.zero_le _⟩) (fun H locs hP hS => ?_)
    refine lv_iinc (v := (x2 + (1 : Int32))) (lv' := [(2, .int (x2 + (1 : Int32))), (0, .ref (ad 0))]) hx hb dX7_book_88 hl (k := 1) rfl rfl (by decide) rfl (fun ls hl => ?_)
    refine lv_goto (tgt := 74) hx hb dX7_book_91 (by decide) ?_
    exact hkb _ _ _ _ ls hf  hP hS (lv_sub hl [1, 0] rfl)
set_option maxHeartbeats 4000000 in
set_option maxRecDepth 100000 in
theorem vl_X7_book_74 (X : Cx D cI cP cB cA 79 ad tL tC p s m c cX7_book 3 args RX7) (hr : meth.sig.returnType = (some .int)) (hlk : meth.locks = false) {res : Int32 × Stt} (ke : Stt → Option (Int32 × Stt)) (hke : ∀ (S : Stt) (H : Heap) (locs : List Loc) (ls : Array Slot), ke S = some res → va_P D vwCl (wl 79 ad (cfC ad cI cP cB cA S)) H → va_S (Ar 79 ad) s.heap H locs → lv_has ls 3 [(0, .ref (ad 0))] → W p l e (rmD 7) s m args below meth c H locs 0 0 (MQ below (QI D 79 ad res.1 (cfC ad cI cP cB cA res.2)) args s 0 0 (Ar 79 ad)) (F0 m 94 ls [])) : ∀ (n : Nat), ∀ (x2 : Int32) (S : Stt) (H : Heap) (locs : List Loc) (ls : Array Slot), fl_X7_book_74 ke n x2 S = some res → va_P D vwCl (wl 79 ad (cfC ad cI cP cB cA S)) H → va_S (Ar 79 ad) s.heap H locs → lv_has ls 3 [(0, .ref (ad 0)), (2, .int x2)] → W p l e (rmD 7) s m args below meth c H locs 0 0 (MQ below (QI D 79 ad res.1 (cfC ad cI cP cB cA res.2)) args s 0 0 (Ar 79 ad)) (F0 m 74 ls []) := by
  intro n
  induction n with
  | zero =>
    intro x2 S H locs ls hf hP hS hl
    cases hf
  | succ n ih =>
    intro x2 S H locs ls hf hP hS hl
    exact vb_X7_book_74 X hr hlk _ ke ih hke x2 S H locs ls hf  hP hS hl
end
set_option maxHeartbeats 4000000 in
set_option maxRecDepth 100000 in
theorem m_X7_book {l : Launch} {D : va_G} {cI cP cB cA : ClassId} {ad : Nat → Nat} {tL tC : Nat} {x1 : Int32} {S : Stt} {res : Int32 × Stt} (hf : f_X7_book x1 S = some res) : Ct l D cI cP cB cA 79 ad tL tC yX7_book cX7_book 3 (some .int) 7 [.ref (ad 0), .int x1] (cfC ad cI cP cB cA S) (QI D 79 ad res.1 (cfC ad cI cP cB cA res.2)) := by
  refine ctOf (by decide) (Nat.le_of_ble_eq_true rfl) ?_
  intro p e s m args below meth c ls X hr hlk hP hl
  have hS : va_S (Ar 79 ad) s.heap s.heap [] := va_S.rf
  have hx := X.1.1
  have hb := X.1.2.1
  have hl : lv_has ls 3 [(0, .ref (ad 0)), (1, .int x1)] := hl
  unfold f_X7_book at hf
  refine lv_aload_n hx hb dX7_book_0 rfl (lv_at hl 0 rfl) ?_
  refine g_LP_texts X hP  tw_61 dX7_book_1 ?_
  refine lv_iload_n hx hb dX7_book_4 rfl (lv_at hl 1 rfl) ?_
  obtain ⟨q1, e2, hf⟩ := bind_some hf
  refine aftI hS (cV (rest := []) X hP hS [.int x1] (m_X6_isOne (by decide) e2) cw_X6_isOne tw_125 tw_405 tw_694 (sh_lt (by decide)) (cf_Shelf (by decide)) rfl (fits9 (by first | decide | omega) (by decide)) rfl rfl hl.1 (Nat.le_of_ble_eq_true rfl) dX7_book_5 ⟨Nat.zero_le _, Nat.zero_le _⟩) (fun H locs hP hS => ?_)
  refine lv_if_ne (tgt := 13) hx hb dX7_book_8 (by decide) (fun c3 => ?_) (fun c3 => ?_)
  · rw [if_neg c3] at hf
    refine lv_aload_n hx hb dX7_book_13 rfl (lv_at hl 0 rfl) ?_
    refine g_LP_texts X hP  tw_61 dX7_book_14 ?_
    refine lv_iload_n hx hb dX7_book_17 rfl (lv_at hl 1 rfl) ?_
    obtain ⟨q4, e5, hf⟩ := bind_some hf
    refine aftI hS (cV (rest := []) X hP hS [.int x1] (m_X6_isThere (by decide) e5) cw_X6_isThere tw_129 tw_409 tw_695 (sh_lt (by decide)) (cf_Shelf (by decide)) rfl (fits9 (by first | decide | omega) (by decide)) rfl rfl hl.1 (Nat.le_of_ble_eq_true rfl) dX7_book_18 ⟨Nat.zero_le _, Nat.zero_le _⟩) (fun H locs hP hS => ?_)
    refine lv_if_ne (tgt := 30) hx hb dX7_book_21 (by decide) (fun c6 => ?_) (fun c6 => ?_)
    · rw [if_neg c6] at hf
      refine lv_aload_n hx hb dX7_book_30 rfl (lv_at hl 0 rfl) ?_
      refine g_LP_scribe X hP  tw_65 dX7_book_31 ?_
      refine lv_aload_n hx hb dX7_book_34 rfl (lv_at hl 0 rfl) ?_
      refine g_LP_texts X hP  tw_61 dX7_book_35 ?_
      refine lv_iload_n hx hb dX7_book_38 rfl (lv_at hl 1 rfl) ?_
      refine lv_aload_n hx hb dX7_book_39 rfl (lv_at hl 0 rfl) ?_
      refine g_LP_trial X hP  tw_63 dX7_book_40 ?_
      obtain ⟨q7, e8, hf⟩ := bind_some hf
      refine aftI hS (cV (rest := []) X hP hS [.ref (ad (1 + 1)), .int x1, .ref (ad (34 + 1))] (m_X5_faultOf (by decide) e8) cw_X5_faultOf tw_146 tw_427 tw_688 (by decide) (cf_Scribe ) rfl (fits9 (by first | decide | omega) (by decide)) rfl rfl hl.1 (Nat.le_of_ble_eq_true rfl) dX7_book_43 ⟨Nat.zero_le _, Nat.zero_le _⟩) (fun H locs hP hS => ?_)
      refine lv_bipush (v := (-9 : Int32)) hx hb dX7_book_46 (by decide) ?_
      refine lv_icmp_eq (tgt := 54) hx hb dX7_book_48 (by decide) (fun c9 => ?_) (fun c9 => ?_)
      · rw [if_pos c9] at hf
        refine lv_aload_n hx hb dX7_book_54 rfl (lv_at hl 0 rfl) ?_
        refine g_LP_book X hP  tw_62 dX7_book_55 ?_
        refine lv_aload_n hx hb dX7_book_58 rfl (lv_at hl 0 rfl) ?_
        refine g_LP_trial X hP  tw_63 dX7_book_59 ?_
        obtain ⟨q10, e11, hf⟩ := bind_some hf
        refine aftV hS (cV (rest := []) X hP hS [.ref (ad (34 + 1))] (m_X0_become (by decide) (by decide) e11) cw_X0_become tw_164 tw_446 tw_646 (bk_lt (by decide)) (cf_Book (by decide)) rfl (fits9 (by first | decide | omega) (by decide)) rfl rfl hl.1 (Nat.le_of_ble_eq_true rfl) dX7_book_62 ⟨Nat.zero_le _, Nat.zero_le _⟩) (fun H locs hP hS => ?_)
        refine lv_aload_n hx hb dX7_book_65 rfl (lv_at hl 0 rfl) ?_
        refine g_LP_book X hP  tw_62 dX7_book_66 ?_
        obtain ⟨q12, e13, hf⟩ := bind_some hf
        refine aftV hS (cV (rest := []) X hP hS [] (m_X0_turnFromEnd (by decide) e13) cw_X0_turnFromEnd tw_166 tw_448 tw_651 (bk_lt (by decide)) (cf_Book (by decide)) rfl (fits9 (by first | decide | omega) (by decide)) rfl rfl hl.1 (Nat.le_of_ble_eq_true rfl) dX7_book_69 ⟨Nat.zero_le _, Nat.zero_le _⟩) (fun H locs hP hS => ?_)
        refine lv_iconst (v := (0 : Int32)) hx hb dX7_book_72 (by decide) ?_
        refine lv_istore_n (lv' := [(2, .int (0 : Int32)), (0, .ref (ad 0)), (1, .int x1)]) hx hb dX7_book_73 rfl hl (by decide) rfl (fun ls hl => ?_)
        refine vl_X7_book_74 X hr hlk _ ?_ 300 _ _ _ _ ls hf  hP hS (lv_sub hl [1, 0] rfl)
        intro S H locs ls hf hP hS hl
        refine lv_aload_n hx hb dX7_book_94 rfl (lv_at hl 0 rfl) ?_
        refine g_LP_book X hP  tw_62 dX7_book_95 ?_
        refine gN_Book_count X hP (by decide) tw_28 dX7_book_98 ?_
        cases hf
        exact rtI X hr hlk hP hS dX7_book_101
      · rw [if_neg c9] at hf
        refine lv_bipush (v := (-4 : Int32)) hx hb dX7_book_51 (by decide) ?_
        cases hf
        exact rtI X hr hlk hP hS dX7_book_53
    · rw [if_pos c6] at hf
      refine lv_aload_n hx hb dX7_book_24 rfl (lv_at hl 0 rfl) ?_
      refine lv_iconst (v := (1 : Int32)) hx hb dX7_book_25 (by decide) ?_
      obtain ⟨q18, e19, hf⟩ := bind_some hf
      refine aftI hS (cV (rest := []) X hP hS [.int (1 : Int32)] (m_X7_refuse  e19) cw_X7_refuse tw_126 tw_406 tw_754 (by decide) (cf_LP ) rfl (fits9 (by first | decide | omega) (by decide)) rfl rfl hl.1 (Nat.le_of_ble_eq_true rfl) dX7_book_26 ⟨Nat.zero_le _, Nat.zero_le _⟩) (fun H locs hP hS => ?_)
      cases hf
      exact rtI X hr hlk hP hS dX7_book_29
  · rw [if_pos c3] at hf
    refine lv_iconst (v := (-1 : Int32)) hx hb dX7_book_11 (by decide) ?_
    cases hf
    exact rtI X hr hlk hP hS dX7_book_12
/-! X7_fault -/
section
variable {p : Program} {l : Launch} {e : Env} {s : State} {m : MethodId} {args : Array Value} {below : List Frame} {meth : Method} {c : Code}
variable {D : va_G} {cI cP cB cA : ClassId} {ad : Nat → Nat} {tL tC : Nat}
end
set_option maxHeartbeats 4000000 in
set_option maxRecDepth 100000 in
theorem m_X7_fault {l : Launch} {D : va_G} {cI cP cB cA : ClassId} {ad : Nat → Nat} {tL tC : Nat} {x1 : Int32} {S : Stt} {res : Int32 × Stt} (hf : f_X7_fault x1 S = some res) : Ct l D cI cP cB cA 79 ad tL tC yX7_fault cX7_fault 2 (some .int) 7 [.ref (ad 0), .int x1] (cfC ad cI cP cB cA S) (QI D 79 ad res.1 (cfC ad cI cP cB cA res.2)) := by
  refine ctOf (by decide) (Nat.le_of_ble_eq_true rfl) ?_
  intro p e s m args below meth c ls X hr hlk hP hl
  have hS : va_S (Ar 79 ad) s.heap s.heap [] := va_S.rf
  have hx := X.1.1
  have hb := X.1.2.1
  have hl : lv_has ls 2 [(0, .ref (ad 0)), (1, .int x1)] := hl
  unfold f_X7_fault at hf
  refine lv_aload_n hx hb dX7_fault_0 rfl (lv_at hl 0 rfl) ?_
  refine g_LP_texts X hP  tw_61 dX7_fault_1 ?_
  refine lv_iload_n hx hb dX7_fault_4 rfl (lv_at hl 1 rfl) ?_
  obtain ⟨q1, e2, hf⟩ := bind_some hf
  refine aftI hS (cV (rest := []) X hP hS [.int x1] (m_X6_isOne (by decide) e2) cw_X6_isOne tw_125 tw_405 tw_694 (sh_lt (by decide)) (cf_Shelf (by decide)) rfl (fits9 (by first | decide | omega) (by decide)) rfl rfl hl.1 (Nat.le_of_ble_eq_true rfl) dX7_fault_5 ⟨Nat.zero_le _, Nat.zero_le _⟩) (fun H locs hP hS => ?_)
  refine lv_if_ne (tgt := 13) hx hb dX7_fault_8 (by decide) (fun c3 => ?_) (fun c3 => ?_)
  · rw [if_neg c3] at hf
    refine lv_aload_n hx hb dX7_fault_13 rfl (lv_at hl 0 rfl) ?_
    refine g_LP_texts X hP  tw_61 dX7_fault_14 ?_
    refine lv_iload_n hx hb dX7_fault_17 rfl (lv_at hl 1 rfl) ?_
    obtain ⟨q4, e5, hf⟩ := bind_some hf
    refine aftI hS (cV (rest := []) X hP hS [.int x1] (m_X6_isThere (by decide) e5) cw_X6_isThere tw_129 tw_409 tw_695 (sh_lt (by decide)) (cf_Shelf (by decide)) rfl (fits9 (by first | decide | omega) (by decide)) rfl rfl hl.1 (Nat.le_of_ble_eq_true rfl) dX7_fault_18 ⟨Nat.zero_le _, Nat.zero_le _⟩) (fun H locs hP hS => ?_)
    refine lv_if_ne (tgt := 30) hx hb dX7_fault_21 (by decide) (fun c6 => ?_) (fun c6 => ?_)
    · rw [if_neg c6] at hf
      refine lv_aload_n hx hb dX7_fault_30 rfl (lv_at hl 0 rfl) ?_
      refine g_LP_scribe X hP  tw_65 dX7_fault_31 ?_
      refine lv_aload_n hx hb dX7_fault_34 rfl (lv_at hl 0 rfl) ?_
      refine g_LP_texts X hP  tw_61 dX7_fault_35 ?_
      refine lv_iload_n hx hb dX7_fault_38 rfl (lv_at hl 1 rfl) ?_
      refine lv_aload_n hx hb dX7_fault_39 rfl (lv_at hl 0 rfl) ?_
      refine g_LP_trial X hP  tw_63 dX7_fault_40 ?_
      obtain ⟨q7, e8, hf⟩ := bind_some hf
      refine aftI hS (cV (rest := []) X hP hS [.ref (ad (1 + 1)), .int x1, .ref (ad (34 + 1))] (m_X5_faultOf (by decide) e8) cw_X5_faultOf tw_146 tw_427 tw_688 (by decide) (cf_Scribe ) rfl (fits9 (by first | decide | omega) (by decide)) rfl rfl hl.1 (Nat.le_of_ble_eq_true rfl) dX7_fault_43 ⟨Nat.zero_le _, Nat.zero_le _⟩) (fun H locs hP hS => ?_)
      cases hf
      exact rtI X hr hlk hP hS dX7_fault_46
    · rw [if_pos c6] at hf
      refine lv_aload_n hx hb dX7_fault_24 rfl (lv_at hl 0 rfl) ?_
      refine lv_iconst (v := (1 : Int32)) hx hb dX7_fault_25 (by decide) ?_
      obtain ⟨q9, e10, hf⟩ := bind_some hf
      refine aftI hS (cV (rest := []) X hP hS [.int (1 : Int32)] (m_X7_refuse  e10) cw_X7_refuse tw_126 tw_406 tw_754 (by decide) (cf_LP ) rfl (fits9 (by first | decide | omega) (by decide)) rfl rfl hl.1 (Nat.le_of_ble_eq_true rfl) dX7_fault_26 ⟨Nat.zero_le _, Nat.zero_le _⟩) (fun H locs hP hS => ?_)
      cases hf
      exact rtI X hr hlk hP hS dX7_fault_29
  · rw [if_pos c3] at hf
    refine lv_iconst (v := (-1 : Int32)) hx hb dX7_fault_11 (by decide) ?_
    cases hf
    exact rtI X hr hlk hP hS dX7_fault_12
/-! X8_allWaits -/
section
variable {p : Program} {l : Launch} {e : Env} {s : State} {m : MethodId} {args : Array Value} {below : List Frame} {meth : Method} {c : Code}
variable {D : va_G} {cI cP cB cA : ClassId} {ad : Nat → Nat} {tL tC : Nat}
set_option maxHeartbeats 4000000 in
set_option maxRecDepth 100000 in
theorem vb_X8_allWaits_4 (X : Cx D cI cP cB cA 19 ad tL tC p s m c cX8_allWaits 3 args RX8) (hr : meth.sig.returnType = (some .int)) (hlk : meth.locks = false) {res : Int32 × Stt} (kb : Int32 → Int32 → Stt → Option (Int32 × Stt)) (ke : Int32 → Stt → Option (Int32 × Stt)) (hkb : ∀ (x1 : Int32) (x2 : Int32) (S : Stt) (H : Heap) (locs : List Loc) (ls : Array Slot), kb x1 x2 S = some res → va_P D vwCl (wl 19 ad (cfM ad cI S)) H → va_S (Ar 19 ad) s.heap H locs → lv_has ls 3 [(0, .ref (ad 0)), (1, .int x1), (2, .int x2)] → W p l e (rmD 7) s m args below meth c H locs 0 0 (MQ below (QI D 19 ad res.1 (cfM ad cI res.2)) args s 0 0 (Ar 19 ad)) (F0 m 4 ls [])) (hke : ∀ (x1 : Int32) (S : Stt) (H : Heap) (locs : List Loc) (ls : Array Slot), ke x1 S = some res → va_P D vwCl (wl 19 ad (cfM ad cI S)) H → va_S (Ar 19 ad) s.heap H locs → lv_has ls 3 [(1, .int x1)] → W p l e (rmD 7) s m args below meth c H locs 0 0 (MQ below (QI D 19 ad res.1 (cfM ad cI res.2)) args s 0 0 (Ar 19 ad)) (F0 m 28 ls [])) : ∀ (x1 : Int32) (x2 : Int32) (S : Stt) (H : Heap) (locs : List Loc) (ls : Array Slot), fb_X8_allWaits_4 kb ke x1 x2 S = some res → va_P D vwCl (wl 19 ad (cfM ad cI S)) H → va_S (Ar 19 ad) s.heap H locs → lv_has ls 3 [(0, .ref (ad 0)), (1, .int x1), (2, .int x2)] → W p l e (rmD 7) s m args below meth c H locs 0 0 (MQ below (QI D 19 ad res.1 (cfM ad cI res.2)) args s 0 0 (Ar 19 ad)) (F0 m 4 ls []) := by
  intro x1 x2 S H locs ls hf hP hS hl
  have hx := X.1.1
  have hb := X.1.2.1
  unfold fb_X8_allWaits_4 at hf
  refine lv_iload_n hx hb dX8_allWaits_4 rfl (lv_at hl 2 rfl) ?_
  refine lv_aload_n hx hb dX8_allWaits_5 rfl (lv_at hl 0 rfl) ?_
  refine g_M_many X hP  tw_86 dX8_allWaits_6 ?_
  refine lv_icmp_ge (tgt := 28) hx hb dX8_allWaits_9 (by decide) (fun c1 => ?_) (fun c1 => ?_)
  · rw [if_pos c1] at hf
    exact hke _ _ _ _ ls hf  hP hS (lv_sub hl [1] rfl)
  · rw [if_neg c1] at hf
    refine lv_iload_n hx hb dX8_allWaits_12 rfl (lv_at hl 1 rfl) ?_
    refine lv_aload_n hx hb dX8_allWaits_13 rfl (lv_at hl 0 rfl) ?_
    refine lv_iload_n hx hb dX8_allWaits_14 rfl (lv_at hl 2 rfl) ?_
    refine lv_bipush (v := (-9 : Int32)) hx hb dX8_allWaits_15 (by decide) ?_
    obtain ⟨q2, e3, hf⟩ := bind_some hf
    refine aftI hS (cV (rest := [.int x1]) X hP hS [.int x2, .int (-9 : Int32)] (m_X8_waitsOn  e3) cw_X8_waitsOn tw_347 tw_604 tw_811 (by decide) (cf_M ) rfl (fits9 (by first | decide | omega) (by decide)) rfl rfl hl.1 (Nat.le_of_ble_eq_true rfl) dX8_allWaits_17 ⟨Nat.zero_le _, Nat.zero_le _⟩) (fun H locs hP hS => ?_)
    refine lv_iadd hx hb dX8_allWaits_20 ?_
    refine lv_istore_n (lv' := [(1, .int (x1 + q2.1)), (0, .ref (ad 0)), (2, .int x2)]) hx hb dX8_allWaits_21 rfl hl (by decide) rfl (fun ls hl => ?_)
    refine lv_iinc (v := (x2 + (1 : Int32))) (lv' := [(2, .int (x2 + (1 : Int32))), (1, .int (x1 + q2.1)), (0, .ref (ad 0))]) hx hb dX8_allWaits_22 hl (k := 2) rfl rfl (by decide) rfl (fun ls hl => ?_)
    refine lv_goto (tgt := 4) hx hb dX8_allWaits_25 (by decide) ?_
    exact hkb _ _ _ _ _ ls hf  hP hS (lv_sub hl [2, 1, 0] rfl)
set_option maxHeartbeats 4000000 in
set_option maxRecDepth 100000 in
theorem vl_X8_allWaits_4 (X : Cx D cI cP cB cA 19 ad tL tC p s m c cX8_allWaits 3 args RX8) (hr : meth.sig.returnType = (some .int)) (hlk : meth.locks = false) {res : Int32 × Stt} (ke : Int32 → Stt → Option (Int32 × Stt)) (hke : ∀ (x1 : Int32) (S : Stt) (H : Heap) (locs : List Loc) (ls : Array Slot), ke x1 S = some res → va_P D vwCl (wl 19 ad (cfM ad cI S)) H → va_S (Ar 19 ad) s.heap H locs → lv_has ls 3 [(1, .int x1)] → W p l e (rmD 7) s m args below meth c H locs 0 0 (MQ below (QI D 19 ad res.1 (cfM ad cI res.2)) args s 0 0 (Ar 19 ad)) (F0 m 28 ls [])) : ∀ (n : Nat), ∀ (x1 : Int32) (x2 : Int32) (S : Stt) (H : Heap) (locs : List Loc) (ls : Array Slot), fl_X8_allWaits_4 ke n x1 x2 S = some res → va_P D vwCl (wl 19 ad (cfM ad cI S)) H → va_S (Ar 19 ad) s.heap H locs → lv_has ls 3 [(0, .ref (ad 0)), (1, .int x1), (2, .int x2)] → W p l e (rmD 7) s m args below meth c H locs 0 0 (MQ below (QI D 19 ad res.1 (cfM ad cI res.2)) args s 0 0 (Ar 19 ad)) (F0 m 4 ls []) := by
  intro n
  induction n with
  | zero =>
    intro x1 x2 S H locs ls hf hP hS hl
    cases hf
  | succ n ih =>
    intro x1 x2 S H locs ls hf hP hS hl
    exact vb_X8_allWaits_4 X hr hlk _ ke ih hke x1 x2 S H locs ls hf  hP hS hl
end
set_option maxHeartbeats 4000000 in
set_option maxRecDepth 100000 in
theorem m_X8_allWaits {l : Launch} {D : va_G} {cI cP cB cA : ClassId} {ad : Nat → Nat} {tL tC : Nat} {S : Stt} {res : Int32 × Stt} (hf : f_X8_allWaits  S = some res) : Ct l D cI cP cB cA 19 ad tL tC yX8_allWaits cX8_allWaits 3 (some .int) 7 [.ref (ad 0)] (cfM ad cI S) (QI D 19 ad res.1 (cfM ad cI res.2)) := by
  refine ctOf (by decide) (Nat.le_of_ble_eq_true rfl) ?_
  intro p e s m args below meth c ls X hr hlk hP hl
  have hS : va_S (Ar 19 ad) s.heap s.heap [] := va_S.rf
  have hx := X.1.1
  have hb := X.1.2.1
  have hl : lv_has ls 3 [(0, .ref (ad 0))] := hl
  unfold f_X8_allWaits at hf
  refine lv_iconst (v := (0 : Int32)) hx hb dX8_allWaits_0 (by decide) ?_
  refine lv_istore_n (lv' := [(1, .int (0 : Int32)), (0, .ref (ad 0))]) hx hb dX8_allWaits_1 rfl hl (by decide) rfl (fun ls hl => ?_)
  refine lv_iconst (v := (0 : Int32)) hx hb dX8_allWaits_2 (by decide) ?_
  refine lv_istore_n (lv' := [(2, .int (0 : Int32)), (1, .int (0 : Int32)), (0, .ref (ad 0))]) hx hb dX8_allWaits_3 rfl hl (by decide) rfl (fun ls hl => ?_)
  refine vl_X8_allWaits_4 X hr hlk _ ?_ 300 _ _ _ _ _ ls hf  hP hS (lv_sub hl [2, 1, 0] rfl)
  intro x1 S H locs ls hf hP hS hl
  refine lv_iload_n hx hb dX8_allWaits_28 rfl (lv_at hl 0 rfl) ?_
  cases hf
  exact rtI X hr hlk hP hS dX8_allWaits_29
/-! X8_flipsOf -/
section
variable {p : Program} {l : Launch} {e : Env} {s : State} {m : MethodId} {args : Array Value} {below : List Frame} {meth : Method} {c : Code}
variable {D : va_G} {cI cP cB cA : ClassId} {ad : Nat → Nat} {tL tC : Nat}
set_option maxHeartbeats 4000000 in
set_option maxRecDepth 100000 in
theorem vj_X8_flipsOf_80_15 (X : Cx D cI cP cB cA 19 ad tL tC p s m c cX8_flipsOf 8 args RX8) (hr : meth.sig.returnType = (some .int)) (hlk : meth.locks = false) {res : Int32 × Stt} (kb : Int32 → Int32 → Int32 → Int32 → Int32 → Stt → Option (Int32 × Stt)) (ke : Int32 → Stt → Option (Int32 × Stt)) (hkb : ∀ (x1 : Int32) (x2 : Int32) (x3 : Int32) (x4 : Int32) (x5 : Int32) (S : Stt) (H : Heap) (locs : List Loc) (ls : Array Slot), kb x1 x2 x3 x4 x5 S = some res → va_P D vwCl (wl 19 ad (cfM ad cI S)) H → va_S (Ar 19 ad) s.heap H locs → lv_has ls 8 [(0, .ref (ad 0)), (1, .int x1), (2, .int x2), (3, .int x3), (4, .int x4), (5, .int x5)] → W p l e (rmD 7) s m args below meth c H locs 0 0 (MQ below (QI D 19 ad res.1 (cfM ad cI res.2)) args s 0 0 (Ar 19 ad)) (F0 m 15 ls [])) (hke : ∀ (x4 : Int32) (S : Stt) (H : Heap) (locs : List Loc) (ls : Array Slot), ke x4 S = some res → va_P D vwCl (wl 19 ad (cfM ad cI S)) H → va_S (Ar 19 ad) s.heap H locs → lv_has ls 8 [(4, .int x4)] → W p l e (rmD 7) s m args below meth c H locs 0 0 (MQ below (QI D 19 ad res.1 (cfM ad cI res.2)) args s 0 0 (Ar 19 ad)) (F0 m 107 ls [])) : ∀ (x1 : Int32) (x2 : Int32) (x4 : Int32) (x5 : Int32) (x6 : Int32) (x7 : Int32) (xt1 : Int32) (S : Stt) (H : Heap) (locs : List Loc) (ls : Array Slot), fj_X8_flipsOf_80_15 kb ke x1 x2 x4 x5 x6 x7 xt1 S = some res → va_P D vwCl (wl 19 ad (cfM ad cI S)) H → va_S (Ar 19 ad) s.heap H locs → lv_has ls 8 [(0, .ref (ad 0)), (1, .int x1), (2, .int x2), (4, .int x4), (5, .int x5), (6, .int x6), (7, .int x7)] → W p l e (rmD 7) s m args below meth c H locs 0 0 (MQ below (QI D 19 ad res.1 (cfM ad cI res.2)) args s 0 0 (Ar 19 ad)) (F0 m 80 ls [.int xt1, .ref (ad 0)]) := by
  intro x1 x2 x4 x5 x6 x7 xt1 S H locs ls hf hP hS hl
  have hx := X.1.1
  have hb := X.1.2.1
  unfold fj_X8_flipsOf_80_15 at hf
  refine p_M_flipDay X hP hS  tw_102 dX8_flipsOf_80 (fun H locs hP hS => ?_)
  refine lv_iload hx hb dX8_flipsOf_83 (lv_at hl 3 rfl) ?_
  refine lv_iload hx hb dX8_flipsOf_85 (lv_at hl 6 rfl) ?_
  refine lv_if_eq (tgt := 94) hx hb dX8_flipsOf_87 (by decide) (fun c7 => ?_) (fun c7 => ?_)
  · rw [if_pos c7] at hf
    refine lv_iconst (v := (0 : Int32)) hx hb dX8_flipsOf_94 (by decide) ?_
    refine lv_iadd hx hb dX8_flipsOf_95 ?_
    refine lv_istore (lv' := [(4, .int (x4 + (0 : Int32))), (0, .ref (ad 0)), (1, .int x1), (2, .int x2), (5, .int x5), (6, .int x6), (7, .int x7)]) hx hb dX8_flipsOf_96 hl (by decide) rfl (fun ls hl => ?_)
    refine lv_iload hx hb dX8_flipsOf_98 (lv_at hl 5 rfl) ?_
    refine lv_istore_n (lv' := [(3, .int x6), (4, .int (x4 + (0 : Int32))), (0, .ref (ad 0)), (1, .int x1), (2, .int x2), (5, .int x5), (6, .int x6), (7, .int x7)]) hx hb dX8_flipsOf_100 rfl hl (by decide) rfl (fun ls hl => ?_)
    refine lv_iinc (v := (x5 + (1 : Int32))) (lv' := [(5, .int (x5 + (1 : Int32))), (3, .int x6), (4, .int (x4 + (0 : Int32))), (0, .ref (ad 0)), (1, .int x1), (2, .int x2), (6, .int x6), (7, .int x7)]) hx hb dX8_flipsOf_101 hl (k := 5) rfl rfl (by decide) rfl (fun ls hl => ?_)
    refine lv_goto (tgt := 15) hx hb dX8_flipsOf_104 (by decide) ?_
    exact hkb _ _ _ _ _ _ _ _ ls hf  hP hS (lv_sub hl [3, 4, 5, 1, 2, 0] rfl)
  · rw [if_neg c7] at hf
    refine lv_iconst (v := (1 : Int32)) hx hb dX8_flipsOf_90 (by decide) ?_
    refine lv_goto (tgt := 95) hx hb dX8_flipsOf_91 (by decide) ?_
    refine lv_iadd hx hb dX8_flipsOf_95 ?_
    refine lv_istore (lv' := [(4, .int (x4 + (1 : Int32))), (0, .ref (ad 0)), (1, .int x1), (2, .int x2), (5, .int x5), (6, .int x6), (7, .int x7)]) hx hb dX8_flipsOf_96 hl (by decide) rfl (fun ls hl => ?_)
    refine lv_iload hx hb dX8_flipsOf_98 (lv_at hl 5 rfl) ?_
    refine lv_istore_n (lv' := [(3, .int x6), (4, .int (x4 + (1 : Int32))), (0, .ref (ad 0)), (1, .int x1), (2, .int x2), (5, .int x5), (6, .int x6), (7, .int x7)]) hx hb dX8_flipsOf_100 rfl hl (by decide) rfl (fun ls hl => ?_)
    refine lv_iinc (v := (x5 + (1 : Int32))) (lv' := [(5, .int (x5 + (1 : Int32))), (3, .int x6), (4, .int (x4 + (1 : Int32))), (0, .ref (ad 0)), (1, .int x1), (2, .int x2), (6, .int x6), (7, .int x7)]) hx hb dX8_flipsOf_101 hl (k := 5) rfl rfl (by decide) rfl (fun ls hl => ?_)
    refine lv_goto (tgt := 15) hx hb dX8_flipsOf_104 (by decide) ?_
    exact hkb _ _ _ _ _ _ _ _ ls hf  hP hS (lv_sub hl [3, 4, 5, 1, 2, 0] rfl)
set_option maxHeartbeats 4000000 in
set_option maxRecDepth 100000 in
theorem vj_X8_flipsOf_76_15 (X : Cx D cI cP cB cA 19 ad tL tC p s m c cX8_flipsOf 8 args RX8) (hr : meth.sig.returnType = (some .int)) (hlk : meth.locks = false) {res : Int32 × Stt} (kb : Int32 → Int32 → Int32 → Int32 → Int32 → Stt → Option (Int32 × Stt)) (ke : Int32 → Stt → Option (Int32 × Stt)) (hkb : ∀ (x1 : Int32) (x2 : Int32) (x3 : Int32) (x4 : Int32) (x5 : Int32) (S : Stt) (H : Heap) (locs : List Loc) (ls : Array Slot), kb x1 x2 x3 x4 x5 S = some res → va_P D vwCl (wl 19 ad (cfM ad cI S)) H → va_S (Ar 19 ad) s.heap H locs → lv_has ls 8 [(0, .ref (ad 0)), (1, .int x1), (2, .int x2), (3, .int x3), (4, .int x4), (5, .int x5)] → W p l e (rmD 7) s m args below meth c H locs 0 0 (MQ below (QI D 19 ad res.1 (cfM ad cI res.2)) args s 0 0 (Ar 19 ad)) (F0 m 15 ls [])) (hke : ∀ (x4 : Int32) (S : Stt) (H : Heap) (locs : List Loc) (ls : Array Slot), ke x4 S = some res → va_P D vwCl (wl 19 ad (cfM ad cI S)) H → va_S (Ar 19 ad) s.heap H locs → lv_has ls 8 [(4, .int x4)] → W p l e (rmD 7) s m args below meth c H locs 0 0 (MQ below (QI D 19 ad res.1 (cfM ad cI res.2)) args s 0 0 (Ar 19 ad)) (F0 m 107 ls [])) : ∀ (x1 : Int32) (x2 : Int32) (x4 : Int32) (x5 : Int32) (x6 : Int32) (x7 : Int32) (S : Stt) (H : Heap) (locs : List Loc) (ls : Array Slot), fj_X8_flipsOf_76_15 kb ke x1 x2 x4 x5 x6 x7 S = some res → va_P D vwCl (wl 19 ad (cfM ad cI S)) H → va_S (Ar 19 ad) s.heap H locs → lv_has ls 8 [(0, .ref (ad 0)), (1, .int x1), (2, .int x2), (4, .int x4), (5, .int x5), (6, .int x6), (7, .int x7)] → W p l e (rmD 7) s m args below meth c H locs 0 0 (MQ below (QI D 19 ad res.1 (cfM ad cI res.2)) args s 0 0 (Ar 19 ad)) (F0 m 76 ls [.ref (ad 0)]) := by
  intro x1 x2 x4 x5 x6 x7 S H locs ls hf hP hS hl
  have hx := X.1.1
  have hb := X.1.2.1
  unfold fj_X8_flipsOf_76_15 at hf
  refine lv_aload_n hx hb dX8_flipsOf_76 rfl (lv_at hl 0 rfl) ?_
  refine g_M_flipDay X hP  tw_102 dX8_flipsOf_77 ?_
  exact vj_X8_flipsOf_80_15 X hr hlk _ _ hkb hke _ _ _ _ _ _ _ _ _ _ ls hf  hP hS (lv_sub hl [0, 1, 2, 3, 4, 5, 6] rfl)
set_option maxHeartbeats 4000000 in
set_option maxRecDepth 100000 in
theorem vj_X8_flipsOf_57_15 (X : Cx D cI cP cB cA 19 ad tL tC p s m c cX8_flipsOf 8 args RX8) (hr : meth.sig.returnType = (some .int)) (hlk : meth.locks = false) {res : Int32 × Stt} (kb : Int32 → Int32 → Int32 → Int32 → Int32 → Stt → Option (Int32 × Stt)) (ke : Int32 → Stt → Option (Int32 × Stt)) (hkb : ∀ (x1 : Int32) (x2 : Int32) (x3 : Int32) (x4 : Int32) (x5 : Int32) (S : Stt) (H : Heap) (locs : List Loc) (ls : Array Slot), kb x1 x2 x3 x4 x5 S = some res → va_P D vwCl (wl 19 ad (cfM ad cI S)) H → va_S (Ar 19 ad) s.heap H locs → lv_has ls 8 [(0, .ref (ad 0)), (1, .int x1), (2, .int x2), (3, .int x3), (4, .int x4), (5, .int x5)] → W p l e (rmD 7) s m args below meth c H locs 0 0 (MQ below (QI D 19 ad res.1 (cfM ad cI res.2)) args s 0 0 (Ar 19 ad)) (F0 m 15 ls [])) (hke : ∀ (x4 : Int32) (S : Stt) (H : Heap) (locs : List Loc) (ls : Array Slot), ke x4 S = some res → va_P D vwCl (wl 19 ad (cfM ad cI S)) H → va_S (Ar 19 ad) s.heap H locs → lv_has ls 8 [(4, .int x4)] → W p l e (rmD 7) s m args below meth c H locs 0 0 (MQ below (QI D 19 ad res.1 (cfM ad cI res.2)) args s 0 0 (Ar 19 ad)) (F0 m 107 ls [])) : ∀ (x1 : Int32) (x2 : Int32) (x4 : Int32) (x5 : Int32) (x6 : Int32) (xt0 : Int32) (S : Stt) (H : Heap) (locs : List Loc) (ls : Array Slot), fj_X8_flipsOf_57_15 kb ke x1 x2 x4 x5 x6 xt0 S = some res → va_P D vwCl (wl 19 ad (cfM ad cI S)) H → va_S (Ar 19 ad) s.heap H locs → lv_has ls 8 [(0, .ref (ad 0)), (1, .int x1), (2, .int x2), (4, .int x4), (5, .int x5), (6, .int x6)] → W p l e (rmD 7) s m args below meth c H locs 0 0 (MQ below (QI D 19 ad res.1 (cfM ad cI res.2)) args s 0 0 (Ar 19 ad)) (F0 m 57 ls [.int xt0]) := by
  intro x1 x2 x4 x5 x6 xt0 S H locs ls hf hP hS hl
  have hx := X.1.1
  have hb := X.1.2.1
  unfold fj_X8_flipsOf_57_15 at hf
  refine lv_istore (lv' := [(7, .int xt0), (0, .ref (ad 0)), (1, .int x1), (2, .int x2), (4, .int x4), (5, .int x5), (6, .int x6)]) hx hb dX8_flipsOf_57 hl (by decide) rfl (fun ls hl => ?_)
  refine lv_aload_n hx hb dX8_flipsOf_59 rfl (lv_at hl 1 rfl) ?_
  refine lv_iload hx hb dX8_flipsOf_60 (lv_at hl 0 rfl) ?_
  refine lv_if_eq (tgt := 76) hx hb dX8_flipsOf_62 (by decide) (fun c6 => ?_) (fun c6 => ?_)
  · rw [if_pos c6] at hf
    exact vj_X8_flipsOf_76_15 X hr hlk _ _ hkb hke _ _ _ _ _ _ _ _ _ ls hf  hP hS (lv_sub hl [1, 2, 3, 4, 5, 6, 0] rfl)
  · rw [if_neg c6] at hf
    refine lv_iload hx hb dX8_flipsOf_65 (lv_at hl 4 rfl) ?_
    refine lv_iload_n hx hb dX8_flipsOf_67 rfl (lv_at hl 3 rfl) ?_
    refine lv_icmp_ne (tgt := 76) hx hb dX8_flipsOf_68 (by decide) (fun c8 => ?_) (fun c8 => ?_)
    · rw [if_neg c8] at hf
      exact vj_X8_flipsOf_76_15 X hr hlk _ _ hkb hke _ _ _ _ _ _ _ _ _ ls hf  hP hS (lv_sub hl [1, 2, 3, 4, 5, 6, 0] rfl)
    · rw [if_pos c8] at hf
      refine lv_iload hx hb dX8_flipsOf_71 (lv_at hl 5 rfl) ?_
      refine lv_goto (tgt := 80) hx hb dX8_flipsOf_73 (by decide) ?_
      exact vj_X8_flipsOf_80_15 X hr hlk _ _ hkb hke _ _ _ _ _ _ _ _ _ _ ls hf  hP hS (lv_sub hl [1, 2, 3, 4, 5, 6, 0] rfl)
set_option maxHeartbeats 4000000 in
set_option maxRecDepth 100000 in
theorem vj_X8_flipsOf_56_15 (X : Cx D cI cP cB cA 19 ad tL tC p s m c cX8_flipsOf 8 args RX8) (hr : meth.sig.returnType = (some .int)) (hlk : meth.locks = false) {res : Int32 × Stt} (kb : Int32 → Int32 → Int32 → Int32 → Int32 → Stt → Option (Int32 × Stt)) (ke : Int32 → Stt → Option (Int32 × Stt)) (hkb : ∀ (x1 : Int32) (x2 : Int32) (x3 : Int32) (x4 : Int32) (x5 : Int32) (S : Stt) (H : Heap) (locs : List Loc) (ls : Array Slot), kb x1 x2 x3 x4 x5 S = some res → va_P D vwCl (wl 19 ad (cfM ad cI S)) H → va_S (Ar 19 ad) s.heap H locs → lv_has ls 8 [(0, .ref (ad 0)), (1, .int x1), (2, .int x2), (3, .int x3), (4, .int x4), (5, .int x5)] → W p l e (rmD 7) s m args below meth c H locs 0 0 (MQ below (QI D 19 ad res.1 (cfM ad cI res.2)) args s 0 0 (Ar 19 ad)) (F0 m 15 ls [])) (hke : ∀ (x4 : Int32) (S : Stt) (H : Heap) (locs : List Loc) (ls : Array Slot), ke x4 S = some res → va_P D vwCl (wl 19 ad (cfM ad cI S)) H → va_S (Ar 19 ad) s.heap H locs → lv_has ls 8 [(4, .int x4)] → W p l e (rmD 7) s m args below meth c H locs 0 0 (MQ below (QI D 19 ad res.1 (cfM ad cI res.2)) args s 0 0 (Ar 19 ad)) (F0 m 107 ls [])) : ∀ (x1 : Int32) (x2 : Int32) (x4 : Int32) (x5 : Int32) (x6 : Int32) (S : Stt) (H : Heap) (locs : List Loc) (ls : Array Slot), fj_X8_flipsOf_56_15 kb ke x1 x2 x4 x5 x6 S = some res → va_P D vwCl (wl 19 ad (cfM ad cI S)) H → va_S (Ar 19 ad) s.heap H locs → lv_has ls 8 [(0, .ref (ad 0)), (1, .int x1), (2, .int x2), (4, .int x4), (5, .int x5), (6, .int x6)] → W p l e (rmD 7) s m args below meth c H locs 0 0 (MQ below (QI D 19 ad res.1 (cfM ad cI res.2)) args s 0 0 (Ar 19 ad)) (F0 m 56 ls []) := by
  intro x1 x2 x4 x5 x6 S H locs ls hf hP hS hl
  have hx := X.1.1
  have hb := X.1.2.1
  unfold fj_X8_flipsOf_56_15 at hf
  refine lv_iconst (v := (0 : Int32)) hx hb dX8_flipsOf_56 (by decide) ?_
  exact vj_X8_flipsOf_57_15 X hr hlk _ _ hkb hke _ _ _ _ _ _ _ _ _ ls hf  hP hS (lv_sub hl [0, 1, 2, 3, 4, 5] rfl)
set_option maxHeartbeats 4000000 in
set_option maxRecDepth 100000 in
theorem vb_X8_flipsOf_15 (X : Cx D cI cP cB cA 19 ad tL tC p s m c cX8_flipsOf 8 args RX8) (hr : meth.sig.returnType = (some .int)) (hlk : meth.locks = false) {res : Int32 × Stt} (kb : Int32 → Int32 → Int32 → Int32 → Int32 → Stt → Option (Int32 × Stt)) (ke : Int32 → Stt → Option (Int32 × Stt)) (hkb : ∀ (x1 : Int32) (x2 : Int32) (x3 : Int32) (x4 : Int32) (x5 : Int32) (S : Stt) (H : Heap) (locs : List Loc) (ls : Array Slot), kb x1 x2 x3 x4 x5 S = some res → va_P D vwCl (wl 19 ad (cfM ad cI S)) H → va_S (Ar 19 ad) s.heap H locs → lv_has ls 8 [(0, .ref (ad 0)), (1, .int x1), (2, .int x2), (3, .int x3), (4, .int x4), (5, .int x5)] → W p l e (rmD 7) s m args below meth c H locs 0 0 (MQ below (QI D 19 ad res.1 (cfM ad cI res.2)) args s 0 0 (Ar 19 ad)) (F0 m 15 ls [])) (hke : ∀ (x4 : Int32) (S : Stt) (H : Heap) (locs : List Loc) (ls : Array Slot), ke x4 S = some res → va_P D vwCl (wl 19 ad (cfM ad cI S)) H → va_S (Ar 19 ad) s.heap H locs → lv_has ls 8 [(4, .int x4)] → W p l e (rmD 7) s m args below meth c H locs 0 0 (MQ below (QI D 19 ad res.1 (cfM ad cI res.2)) args s 0 0 (Ar 19 ad)) (F0 m 107 ls [])) : ∀ (x1 : Int32) (x2 : Int32) (x3 : Int32) (x4 : Int32) (x5 : Int32) (S : Stt) (H : Heap) (locs : List Loc) (ls : Array Slot), fb_X8_flipsOf_15 kb ke x1 x2 x3 x4 x5 S = some res → va_P D vwCl (wl 19 ad (cfM ad cI S)) H → va_S (Ar 19 ad) s.heap H locs → lv_has ls 8 [(0, .ref (ad 0)), (1, .int x1), (2, .int x2), (3, .int x3), (4, .int x4), (5, .int x5)] → W p l e (rmD 7) s m args below meth c H locs 0 0 (MQ below (QI D 19 ad res.1 (cfM ad cI res.2)) args s 0 0 (Ar 19 ad)) (F0 m 15 ls []) := by
  intro x1 x2 x3 x4 x5 S H locs ls hf hP hS hl
  have hx := X.1.1
  have hb := X.1.2.1
  unfold fb_X8_flipsOf_15 at hf
  refine lv_iload hx hb dX8_flipsOf_15 (lv_at hl 5 rfl) ?_
  refine lv_aload_n hx hb dX8_flipsOf_17 rfl (lv_at hl 0 rfl) ?_
  refine g_M_many X hP  tw_86 dX8_flipsOf_18 ?_
  refine lv_icmp_ge (tgt := 107) hx hb dX8_flipsOf_21 (by decide) (fun c1 => ?_) (fun c1 => ?_)
  · rw [if_pos c1] at hf
    exact hke _ _ _ _ ls hf  hP hS (lv_sub hl [4] rfl)
  · rw [if_neg c1] at hf
    refine lv_aload_n hx hb dX8_flipsOf_24 rfl (lv_at hl 0 rfl) ?_
    refine lv_iload_n hx hb dX8_flipsOf_25 rfl (lv_at hl 1 rfl) ?_
    refine lv_iload hx hb dX8_flipsOf_26 (lv_at hl 5 rfl) ?_
    obtain ⟨q2, e3, hf⟩ := bind_some hf
    refine aftI hS (cV (rest := []) X hP hS [.int x1, .int x5] (m_X8_isOn  e3) cw_X8_isOn tw_339 tw_596 tw_807 (by decide) (cf_M ) rfl (fits9 (by first | decide | omega) (by decide)) rfl rfl hl.1 (Nat.le_of_ble_eq_true rfl) dX8_flipsOf_28 ⟨Nat.zero_le _, Nat.zero_le _⟩) (fun H locs hP hS => ?_)
    refine lv_istore (lv' := [(6, .int q2.1), (0, .ref (ad 0)), (1, .int x1), (2, .int x2), (3, .int x3), (4, .int x4), (5, .int x5)]) hx hb dX8_flipsOf_31 hl (by decide) rfl (fun ls hl => ?_)
    refine lv_iload hx hb dX8_flipsOf_33 (lv_at hl 0 rfl) ?_
    refine lv_bipush (v := (-9 : Int32)) hx hb dX8_flipsOf_35 (by decide) ?_
    refine lv_icmp_eq (tgt := 101) hx hb dX8_flipsOf_37 (by decide) (fun c4 => ?_) (fun c4 => ?_)
    · rw [if_pos c4] at hf
      refine lv_iinc (v := (x5 + (1 : Int32))) (lv' := [(5, .int (x5 + (1 : Int32))), (6, .int q2.1), (0, .ref (ad 0)), (1, .int x1), (2, .int x2), (3, .int x3), (4, .int x4)]) hx hb dX8_flipsOf_101 hl (k := 6) rfl rfl (by decide) rfl (fun ls hl => ?_)
      refine lv_goto (tgt := 15) hx hb dX8_flipsOf_104 (by decide) ?_
      exact hkb _ _ _ _ _ _ _ _ ls hf  hP hS (lv_sub hl [2, 3, 4, 5, 6, 0] rfl)
    · rw [if_neg c4] at hf
      refine lv_iload_n hx hb dX8_flipsOf_40 rfl (lv_at hl 4 rfl) ?_
      refine lv_bipush (v := (-9 : Int32)) hx hb dX8_flipsOf_41 (by decide) ?_
      refine lv_icmp_eq (tgt := 56) hx hb dX8_flipsOf_43 (by decide) (fun c5 => ?_) (fun c5 => ?_)
      · rw [if_pos c5] at hf
        exact vj_X8_flipsOf_56_15 X hr hlk _ _ hkb hke _ _ _ _ _ _ _ _ ls hf  hP hS (lv_sub hl [1, 2, 3, 5, 6, 0] rfl)
      · rw [if_neg c5] at hf
        refine lv_iload hx hb dX8_flipsOf_46 (lv_at hl 0 rfl) ?_
        refine lv_iload_n hx hb dX8_flipsOf_48 rfl (lv_at hl 4 rfl) ?_
        refine lv_icmp_eq (tgt := 56) hx hb dX8_flipsOf_49 (by decide) (fun c9 => ?_) (fun c9 => ?_)
        · rw [if_pos c9] at hf
          exact vj_X8_flipsOf_56_15 X hr hlk _ _ hkb hke _ _ _ _ _ _ _ _ ls hf  hP hS (lv_sub hl [1, 2, 3, 5, 6, 0] rfl)
        · rw [if_neg c9] at hf
          refine lv_iconst (v := (1 : Int32)) hx hb dX8_flipsOf_52 (by decide) ?_
          refine lv_goto (tgt := 57) hx hb dX8_flipsOf_53 (by decide) ?_
          exact vj_X8_flipsOf_57_15 X hr hlk _ _ hkb hke _ _ _ _ _ _ _ _ _ ls hf  hP hS (lv_sub hl [1, 2, 3, 5, 6, 0] rfl)
set_option maxHeartbeats 4000000 in
set_option maxRecDepth 100000 in
theorem vl_X8_flipsOf_15 (X : Cx D cI cP cB cA 19 ad tL tC p s m c cX8_flipsOf 8 args RX8) (hr : meth.sig.returnType = (some .int)) (hlk : meth.locks = false) {res : Int32 × Stt} (ke : Int32 → Stt → Option (Int32 × Stt)) (hke : ∀ (x4 : Int32) (S : Stt) (H : Heap) (locs : List Loc) (ls : Array Slot), ke x4 S = some res → va_P D vwCl (wl 19 ad (cfM ad cI S)) H → va_S (Ar 19 ad) s.heap H locs → lv_has ls 8 [(4, .int x4)] → W p l e (rmD 7) s m args below meth c H locs 0 0 (MQ below (QI D 19 ad res.1 (cfM ad cI res.2)) args s 0 0 (Ar 19 ad)) (F0 m 107 ls [])) : ∀ (n : Nat), ∀ (x1 : Int32) (x2 : Int32) (x3 : Int32) (x4 : Int32) (x5 : Int32) (S : Stt) (H : Heap) (locs : List Loc) (ls : Array Slot), fl_X8_flipsOf_15 ke n x1 x2 x3 x4 x5 S = some res → va_P D vwCl (wl 19 ad (cfM ad cI S)) H → va_S (Ar 19 ad) s.heap H locs → lv_has ls 8 [(0, .ref (ad 0)), (1, .int x1), (2, .int x2), (3, .int x3), (4, .int x4), (5, .int x5)] → W p l e (rmD 7) s m args below meth c H locs 0 0 (MQ below (QI D 19 ad res.1 (cfM ad cI res.2)) args s 0 0 (Ar 19 ad)) (F0 m 15 ls []) := by
  intro n
  induction n with
  | zero =>
    intro x1 x2 x3 x4 x5 S H locs ls hf hP hS hl
    cases hf
  | succ n ih =>
    intro x1 x2 x3 x4 x5 S H locs ls hf hP hS hl
    exact vb_X8_flipsOf_15 X hr hlk _ ke ih hke x1 x2 x3 x4 x5 S H locs ls hf  hP hS hl
end
set_option maxHeartbeats 4000000 in
set_option maxRecDepth 100000 in
theorem m_X8_flipsOf {l : Launch} {D : va_G} {cI cP cB cA : ClassId} {ad : Nat → Nat} {tL tC : Nat} {x1 : Int32} {x2 : Int32} {S : Stt} {res : Int32 × Stt} (hf : f_X8_flipsOf x1 x2 S = some res) : Ct l D cI cP cB cA 19 ad tL tC yX8_flipsOf cX8_flipsOf 8 (some .int) 7 [.ref (ad 0), .int x1, .int x2] (cfM ad cI S) (QI D 19 ad res.1 (cfM ad cI res.2)) := by
  refine ctOf (by decide) (Nat.le_of_ble_eq_true rfl) ?_
  intro p e s m args below meth c ls X hr hlk hP hl
  have hS : va_S (Ar 19 ad) s.heap s.heap [] := va_S.rf
  have hx := X.1.1
  have hb := X.1.2.1
  have hl : lv_has ls 8 [(0, .ref (ad 0)), (1, .int x1), (2, .int x2)] := hl
  unfold f_X8_flipsOf at hf
  refine lv_bipush (v := (-9 : Int32)) hx hb dX8_flipsOf_0 (by decide) ?_
  refine lv_istore_n (lv' := [(3, .int (-9 : Int32)), (0, .ref (ad 0)), (1, .int x1), (2, .int x2)]) hx hb dX8_flipsOf_2 rfl hl (by decide) rfl (fun ls hl => ?_)
  refine lv_iconst (v := (0 : Int32)) hx hb dX8_flipsOf_3 (by decide) ?_
  refine lv_istore (lv' := [(4, .int (0 : Int32)), (3, .int (-9 : Int32)), (0, .ref (ad 0)), (1, .int x1), (2, .int x2)]) hx hb dX8_flipsOf_4 hl (by decide) rfl (fun ls hl => ?_)
  refine lv_aload_n hx hb dX8_flipsOf_6 rfl (lv_at hl 2 rfl) ?_
  refine lv_bipush (v := (-9 : Int32)) hx hb dX8_flipsOf_7 (by decide) ?_
  refine p_M_flipDay X hP hS  tw_102 dX8_flipsOf_9 (fun H locs hP hS => ?_)
  refine lv_iconst (v := (0 : Int32)) hx hb dX8_flipsOf_12 (by decide) ?_
  refine lv_istore (lv' := [(5, .int (0 : Int32)), (4, .int (0 : Int32)), (3, .int (-9 : Int32)), (0, .ref (ad 0)), (1, .int x1), (2, .int x2)]) hx hb dX8_flipsOf_13 hl (by decide) rfl (fun ls hl => ?_)
  refine vl_X8_flipsOf_15 X hr hlk _ ?_ 300 _ _ _ _ _ _ _ _ ls hf  hP hS (lv_sub hl [3, 4, 5, 2, 1, 0] rfl)
  intro x4 S H locs ls hf hP hS hl
  refine lv_iload hx hb dX8_flipsOf_107 (lv_at hl 0 rfl) ?_
  cases hf
  exact rtI X hr hlk hP hS dX8_flipsOf_109
/-! X8_freeFrom -/
section
variable {p : Program} {l : Launch} {e : Env} {s : State} {m : MethodId} {args : Array Value} {below : List Frame} {meth : Method} {c : Code}
variable {D : va_G} {cI cP cB cA : ClassId} {ad : Nat → Nat} {tL tC : Nat}
set_option maxHeartbeats 4000000 in
set_option maxRecDepth 100000 in
theorem vb_X8_freeFrom_2 (X : Cx D cI cP cB cA 19 ad tL tC p s m c cX8_freeFrom 4 args RX8) (hr : meth.sig.returnType = (some .int)) (hlk : meth.locks = false) {res : Int32 × Stt} (kb : Int32 → Int32 → Stt → Option (Int32 × Stt)) (ke : Stt → Option (Int32 × Stt)) (hkb : ∀ (x1 : Int32) (x3 : Int32) (S : Stt) (H : Heap) (locs : List Loc) (ls : Array Slot), kb x1 x3 S = some res → va_P D vwCl (wl 19 ad (cfM ad cI S)) H → va_S (Ar 19 ad) s.heap H locs → lv_has ls 4 [(0, .ref (ad 0)), (1, .int x1), (3, .int x3)] → W p l e (rmD 7) s m args below meth c H locs 0 0 (MQ below (QI D 19 ad res.1 (cfM ad cI res.2)) args s 0 0 (Ar 19 ad)) (F0 m 2 ls [])) (hke : ∀ (S : Stt) (H : Heap) (locs : List Loc) (ls : Array Slot), ke S = some res → va_P D vwCl (wl 19 ad (cfM ad cI S)) H → va_S (Ar 19 ad) s.heap H locs → lv_has ls 4 [] → W p l e (rmD 7) s m args below meth c H locs 0 0 (MQ below (QI D 19 ad res.1 (cfM ad cI res.2)) args s 0 0 (Ar 19 ad)) (F0 m 25 ls [])) : ∀ (x1 : Int32) (x3 : Int32) (S : Stt) (H : Heap) (locs : List Loc) (ls : Array Slot), fb_X8_freeFrom_2 kb ke x1 x3 S = some res → va_P D vwCl (wl 19 ad (cfM ad cI S)) H → va_S (Ar 19 ad) s.heap H locs → lv_has ls 4 [(0, .ref (ad 0)), (1, .int x1), (3, .int x3)] → W p l e (rmD 7) s m args below meth c H locs 0 0 (MQ below (QI D 19 ad res.1 (cfM ad cI res.2)) args s 0 0 (Ar 19 ad)) (F0 m 2 ls []) := by
  intro x1 x3 S H locs ls hf hP hS hl
  have hx := X.1.1
  have hb := X.1.2.1
  unfold fb_X8_freeFrom_2 at hf
  refine lv_iload_n hx hb dX8_freeFrom_2 rfl (lv_at hl 2 rfl) ?_
  refine lv_bipush (v := (20 : Int32)) hx hb dX8_freeFrom_3 (by decide) ?_
  refine lv_icmp_gt (tgt := 25) hx hb dX8_freeFrom_5 (by decide) (fun c1 => ?_) (fun c1 => ?_)
  · rw [if_pos c1] at hf
    exact hke  _ _ _ ls hf  hP hS (lv_sub hl [] rfl)
  · rw [if_neg c1] at hf
    refine lv_aload_n hx hb dX8_freeFrom_8 rfl (lv_at hl 0 rfl) ?_
    refine lv_iload_n hx hb dX8_freeFrom_9 rfl (lv_at hl 1 rfl) ?_
    refine lv_iload_n hx hb dX8_freeFrom_10 rfl (lv_at hl 2 rfl) ?_
    obtain ⟨q2, e3, hf⟩ := bind_some hf
    refine aftI hS (cV (rest := []) X hP hS [.int x1, .int x3] (m_X8_isOn  e3) cw_X8_isOn tw_339 tw_596 tw_807 (by decide) (cf_M ) rfl (fits9 (by first | decide | omega) (by decide)) rfl rfl hl.1 (Nat.le_of_ble_eq_true rfl) dX8_freeFrom_11 ⟨Nat.zero_le _, Nat.zero_le _⟩) (fun H locs hP hS => ?_)
    refine lv_if_ne (tgt := 19) hx hb dX8_freeFrom_14 (by decide) (fun c4 => ?_) (fun c4 => ?_)
    · rw [if_neg c4] at hf
      refine lv_iinc (v := (x3 + (1 : Int32))) (lv' := [(3, .int (x3 + (1 : Int32))), (0, .ref (ad 0)), (1, .int x1)]) hx hb dX8_freeFrom_19 hl (k := 2) rfl rfl (by decide) rfl (fun ls hl => ?_)
      refine lv_goto (tgt := 2) hx hb dX8_freeFrom_22 (by decide) ?_
      exact hkb _ _ _ _ _ ls hf  hP hS (lv_sub hl [1, 2, 0] rfl)
    · rw [if_pos c4] at hf
      refine lv_iload_n hx hb dX8_freeFrom_17 rfl (lv_at hl 2 rfl) ?_
      cases hf
      exact rtI X hr hlk hP hS dX8_freeFrom_18
set_option maxHeartbeats 4000000 in
set_option maxRecDepth 100000 in
theorem vl_X8_freeFrom_2 (X : Cx D cI cP cB cA 19 ad tL tC p s m c cX8_freeFrom 4 args RX8) (hr : meth.sig.returnType = (some .int)) (hlk : meth.locks = false) {res : Int32 × Stt} (ke : Stt → Option (Int32 × Stt)) (hke : ∀ (S : Stt) (H : Heap) (locs : List Loc) (ls : Array Slot), ke S = some res → va_P D vwCl (wl 19 ad (cfM ad cI S)) H → va_S (Ar 19 ad) s.heap H locs → lv_has ls 4 [] → W p l e (rmD 7) s m args below meth c H locs 0 0 (MQ below (QI D 19 ad res.1 (cfM ad cI res.2)) args s 0 0 (Ar 19 ad)) (F0 m 25 ls [])) : ∀ (n : Nat), ∀ (x1 : Int32) (x3 : Int32) (S : Stt) (H : Heap) (locs : List Loc) (ls : Array Slot), fl_X8_freeFrom_2 ke n x1 x3 S = some res → va_P D vwCl (wl 19 ad (cfM ad cI S)) H → va_S (Ar 19 ad) s.heap H locs → lv_has ls 4 [(0, .ref (ad 0)), (1, .int x1), (3, .int x3)] → W p l e (rmD 7) s m args below meth c H locs 0 0 (MQ below (QI D 19 ad res.1 (cfM ad cI res.2)) args s 0 0 (Ar 19 ad)) (F0 m 2 ls []) := by
  intro n
  induction n with
  | zero =>
    intro x1 x3 S H locs ls hf hP hS hl
    cases hf
  | succ n ih =>
    intro x1 x3 S H locs ls hf hP hS hl
    exact vb_X8_freeFrom_2 X hr hlk _ ke ih hke x1 x3 S H locs ls hf  hP hS hl
end
set_option maxHeartbeats 4000000 in
set_option maxRecDepth 100000 in
theorem m_X8_freeFrom {l : Launch} {D : va_G} {cI cP cB cA : ClassId} {ad : Nat → Nat} {tL tC : Nat} {x1 : Int32} {x2 : Int32} {S : Stt} {res : Int32 × Stt} (hf : f_X8_freeFrom x1 x2 S = some res) : Ct l D cI cP cB cA 19 ad tL tC yX8_freeFrom cX8_freeFrom 4 (some .int) 7 [.ref (ad 0), .int x1, .int x2] (cfM ad cI S) (QI D 19 ad res.1 (cfM ad cI res.2)) := by
  refine ctOf (by decide) (Nat.le_of_ble_eq_true rfl) ?_
  intro p e s m args below meth c ls X hr hlk hP hl
  have hS : va_S (Ar 19 ad) s.heap s.heap [] := va_S.rf
  have hx := X.1.1
  have hb := X.1.2.1
  have hl : lv_has ls 4 [(0, .ref (ad 0)), (1, .int x1), (2, .int x2)] := hl
  unfold f_X8_freeFrom at hf
  refine lv_iload_n hx hb dX8_freeFrom_0 rfl (lv_at hl 2 rfl) ?_
  refine lv_istore_n (lv' := [(3, .int x2), (0, .ref (ad 0)), (1, .int x1), (2, .int x2)]) hx hb dX8_freeFrom_1 rfl hl (by decide) rfl (fun ls hl => ?_)
  refine vl_X8_freeFrom_2 X hr hlk _ ?_ 300 _ _ _ _ _ ls hf  hP hS (lv_sub hl [1, 2, 0] rfl)
  intro S H locs ls hf hP hS hl
  refine lv_bipush (v := (-9 : Int32)) hx hb dX8_freeFrom_25 (by decide) ?_
  cases hf
  exact rtI X hr hlk hP hS dX8_freeFrom_27
/-! X8_kinds -/
section
variable {p : Program} {l : Launch} {e : Env} {s : State} {m : MethodId} {args : Array Value} {below : List Frame} {meth : Method} {c : Code}
variable {D : va_G} {cI cP cB cA : ClassId} {ad : Nat → Nat} {tL tC : Nat}
set_option maxHeartbeats 4000000 in
set_option maxRecDepth 100000 in
theorem vj_X8_kinds_107_71 (X : Cx D cI cP cB cA 19 ad tL tC p s m c cX8_kinds 9 args RX8) (hr : meth.sig.returnType = (some .int)) (hlk : meth.locks = false) {res : Int32 × Stt} (kb : Int32 → Int32 → Int32 → Int32 → Int32 → Int32 → Int32 → Stt → Option (Int32 × Stt)) (ke : Int32 → Int32 → Int32 → Stt → Option (Int32 × Stt)) (hkb : ∀ (x1 : Int32) (x2 : Int32) (x3 : Int32) (x4 : Int32) (x5 : Int32) (x6 : Int32) (x7 : Int32) (S : Stt) (H : Heap) (locs : List Loc) (ls : Array Slot), kb x1 x2 x3 x4 x5 x6 x7 S = some res → va_P D vwCl (wl 19 ad (cfM ad cI S)) H → va_S (Ar 19 ad) s.heap H locs → lv_has ls 9 [(0, .ref (ad 0)), (1, .int x1), (2, .int x2), (3, .int x3), (4, .int x4), (5, .int x5), (6, .int x6), (7, .int x7)] → W p l e (rmD 7) s m args below meth c H locs 0 0 (MQ below (QI D 19 ad res.1 (cfM ad cI res.2)) args s 0 0 (Ar 19 ad)) (F0 m 71 ls [])) (hke : ∀ (x1 : Int32) (x5 : Int32) (x6 : Int32) (S : Stt) (H : Heap) (locs : List Loc) (ls : Array Slot), ke x1 x5 x6 S = some res → va_P D vwCl (wl 19 ad (cfM ad cI S)) H → va_S (Ar 19 ad) s.heap H locs → lv_has ls 9 [(0, .ref (ad 0)), (1, .int x1), (5, .int x5), (6, .int x6)] → W p l e (rmD 7) s m args below meth c H locs 0 0 (MQ below (QI D 19 ad res.1 (cfM ad cI res.2)) args s 0 0 (Ar 19 ad)) (F0 m 144 ls [])) : ∀ (x1 : Int32) (x2 : Int32) (x3 : Int32) (x4 : Int32) (x5 : Int32) (x6 : Int32) (x7 : Int32) (xt0 : Int32) (S : Stt) (H : Heap) (locs : List Loc) (ls : Array Slot), fj_X8_kinds_107_71 kb ke x1 x2 x3 x4 x5 x6 x7 xt0 S = some res → va_P D vwCl (wl 19 ad (cfM ad cI S)) H → va_S (Ar 19 ad) s.heap H locs → lv_has ls 9 [(0, .ref (ad 0)), (1, .int x1), (2, .int x2), (3, .int x3), (4, .int x4), (5, .int x5), (6, .int x6), (7, .int x7)] → W p l e (rmD 7) s m args below meth c H locs 0 0 (MQ below (QI D 19 ad res.1 (cfM ad cI res.2)) args s 0 0 (Ar 19 ad)) (F0 m 107 ls [.int xt0]) := by
  intro x1 x2 x3 x4 x5 x6 x7 xt0 S H locs ls hf hP hS hl
  have hx := X.1.1
  have hb := X.1.2.1
  unfold fj_X8_kinds_107_71 at hf
  refine lv_istore (lv' := [(8, .int xt0), (0, .ref (ad 0)), (1, .int x1), (2, .int x2), (3, .int x3), (4, .int x4), (5, .int x5), (6, .int x6), (7, .int x7)]) hx hb dX8_kinds_107 hl (by decide) rfl (fun ls hl => ?_)
  refine lv_iload hx hb dX8_kinds_109 (lv_at hl 7 rfl) ?_
  refine lv_iload hx hb dX8_kinds_111 (lv_at hl 0 rfl) ?_
  refine lv_if_eq (tgt := 134) hx hb dX8_kinds_113 (by decide) (fun c18 => ?_) (fun c18 => ?_)
  · rw [if_pos c18] at hf
    refine lv_iconst (v := (0 : Int32)) hx hb dX8_kinds_134 (by decide) ?_
    refine lv_ior hx hb dX8_kinds_135 ?_
    refine lv_istore (lv' := [(6, .int (x6 ||| (0 : Int32))), (8, .int xt0), (0, .ref (ad 0)), (1, .int x1), (2, .int x2), (3, .int x3), (4, .int x4), (5, .int x5), (7, .int x7)]) hx hb dX8_kinds_136 hl (by decide) rfl (fun ls hl => ?_)
    refine lv_iinc (v := (x7 + (1 : Int32))) (lv' := [(7, .int (x7 + (1 : Int32))), (6, .int (x6 ||| (0 : Int32))), (8, .int xt0), (0, .ref (ad 0)), (1, .int x1), (2, .int x2), (3, .int x3), (4, .int x4), (5, .int x5)]) hx hb dX8_kinds_138 hl (k := 8) rfl rfl (by decide) rfl (fun ls hl => ?_)
    refine lv_goto (tgt := 71) hx hb dX8_kinds_141 (by decide) ?_
    exact hkb _ _ _ _ _ _ _ _ _ _ ls hf  hP hS (lv_sub hl [3, 4, 5, 6, 7, 8, 1, 0] rfl)
  · rw [if_neg c18] at hf
    refine lv_aload_n hx hb dX8_kinds_116 rfl (lv_at hl 1 rfl) ?_
    refine lv_iload_n hx hb dX8_kinds_117 rfl (lv_at hl 3 rfl) ?_
    refine lv_iload_n hx hb dX8_kinds_118 rfl (lv_at hl 4 rfl) ?_
    obtain ⟨q19, e20, hf⟩ := bind_some hf
    refine aftI hS (cV (rest := [.int x6]) X hP hS [.int x2, .int x3] (m_X8_isOn  e20) cw_X8_isOn tw_339 tw_596 tw_807 (by decide) (cf_M ) rfl (fits9 (by first | decide | omega) (by decide)) rfl rfl hl.1 (Nat.le_of_ble_eq_true rfl) dX8_kinds_119 ⟨Nat.zero_le _, Nat.zero_le _⟩) (fun H locs hP hS => ?_)
    refine lv_iload hx hb dX8_kinds_122 (lv_at hl 5 rfl) ?_
    refine lv_icmp_ne (tgt := 134) hx hb dX8_kinds_124 (by decide) (fun c21 => ?_) (fun c21 => ?_)
    · rw [if_neg c21] at hf
      refine lv_iconst (v := (0 : Int32)) hx hb dX8_kinds_134 (by decide) ?_
      refine lv_ior hx hb dX8_kinds_135 ?_
      refine lv_istore (lv' := [(6, .int (x6 ||| (0 : Int32))), (8, .int xt0), (0, .ref (ad 0)), (1, .int x1), (2, .int x2), (3, .int x3), (4, .int x4), (5, .int x5), (7, .int x7)]) hx hb dX8_kinds_136 hl (by decide) rfl (fun ls hl => ?_)
      refine lv_iinc (v := (x7 + (1 : Int32))) (lv' := [(7, .int (x7 + (1 : Int32))), (6, .int (x6 ||| (0 : Int32))), (8, .int xt0), (0, .ref (ad 0)), (1, .int x1), (2, .int x2), (3, .int x3), (4, .int x4), (5, .int x5)]) hx hb dX8_kinds_138 hl (k := 8) rfl rfl (by decide) rfl (fun ls hl => ?_)
      refine lv_goto (tgt := 71) hx hb dX8_kinds_141 (by decide) ?_
      exact hkb _ _ _ _ _ _ _ _ _ _ ls hf  hP hS (lv_sub hl [3, 4, 5, 6, 7, 8, 1, 0] rfl)
    · rw [if_pos c21] at hf
      refine lv_iconst (v := (1 : Int32)) hx hb dX8_kinds_127 (by decide) ?_
      refine lv_iload hx hb dX8_kinds_128 (lv_at hl 8 rfl) ?_
      refine lv_ishl hx hb dX8_kinds_130 ?_
      refine lv_goto (tgt := 135) hx hb dX8_kinds_131 (by decide) ?_
      refine lv_ior hx hb dX8_kinds_135 ?_
      refine lv_istore (lv' := [(6, .int (x6 ||| ((1 : Int32) <<< (x7 &&& 31)))), (8, .int xt0), (0, .ref (ad 0)), (1, .int x1), (2, .int x2), (3, .int x3), (4, .int x4), (5, .int x5), (7, .int x7)]) hx hb dX8_kinds_136 hl (by decide) rfl (fun ls hl => ?_)
      refine lv_iinc (v := (x7 + (1 : Int32))) (lv' := [(7, .int (x7 + (1 : Int32))), (6, .int (x6 ||| ((1 : Int32) <<< (x7 &&& 31)))), (8, .int xt0), (0, .ref (ad 0)), (1, .int x1), (2, .int x2), (3, .int x3), (4, .int x4), (5, .int x5)]) hx hb dX8_kinds_138 hl (k := 8) rfl rfl (by decide) rfl (fun ls hl => ?_)
      refine lv_goto (tgt := 71) hx hb dX8_kinds_141 (by decide) ?_
      exact hkb _ _ _ _ _ _ _ _ _ _ ls hf  hP hS (lv_sub hl [3, 4, 5, 6, 7, 8, 1, 0] rfl)
set_option maxHeartbeats 4000000 in
set_option maxRecDepth 100000 in
theorem vj_X8_kinds_102_71 (X : Cx D cI cP cB cA 19 ad tL tC p s m c cX8_kinds 9 args RX8) (hr : meth.sig.returnType = (some .int)) (hlk : meth.locks = false) {res : Int32 × Stt} (kb : Int32 → Int32 → Int32 → Int32 → Int32 → Int32 → Int32 → Stt → Option (Int32 × Stt)) (ke : Int32 → Int32 → Int32 → Stt → Option (Int32 × Stt)) (hkb : ∀ (x1 : Int32) (x2 : Int32) (x3 : Int32) (x4 : Int32) (x5 : Int32) (x6 : Int32) (x7 : Int32) (S : Stt) (H : Heap) (locs : List Loc) (ls : Array Slot), kb x1 x2 x3 x4 x5 x6 x7 S = some res → va_P D vwCl (wl 19 ad (cfM ad cI S)) H → va_S (Ar 19 ad) s.heap H locs → lv_has ls 9 [(0, .ref (ad 0)), (1, .int x1), (2, .int x2), (3, .int x3), (4, .int x4), (5, .int x5), (6, .int x6), (7, .int x7)] → W p l e (rmD 7) s m args below meth c H locs 0 0 (MQ below (QI D 19 ad res.1 (cfM ad cI res.2)) args s 0 0 (Ar 19 ad)) (F0 m 71 ls [])) (hke : ∀ (x1 : Int32) (x5 : Int32) (x6 : Int32) (S : Stt) (H : Heap) (locs : List Loc) (ls : Array Slot), ke x1 x5 x6 S = some res → va_P D vwCl (wl 19 ad (cfM ad cI S)) H → va_S (Ar 19 ad) s.heap H locs → lv_has ls 9 [(0, .ref (ad 0)), (1, .int x1), (5, .int x5), (6, .int x6)] → W p l e (rmD 7) s m args below meth c H locs 0 0 (MQ below (QI D 19 ad res.1 (cfM ad cI res.2)) args s 0 0 (Ar 19 ad)) (F0 m 144 ls [])) : ∀ (x1 : Int32) (x2 : Int32) (x3 : Int32) (x4 : Int32) (x5 : Int32) (x6 : Int32) (x7 : Int32) (S : Stt) (H : Heap) (locs : List Loc) (ls : Array Slot), fj_X8_kinds_102_71 kb ke x1 x2 x3 x4 x5 x6 x7 S = some res → va_P D vwCl (wl 19 ad (cfM ad cI S)) H → va_S (Ar 19 ad) s.heap H locs → lv_has ls 9 [(0, .ref (ad 0)), (1, .int x1), (2, .int x2), (3, .int x3), (4, .int x4), (5, .int x5), (6, .int x6), (7, .int x7)] → W p l e (rmD 7) s m args below meth c H locs 0 0 (MQ below (QI D 19 ad res.1 (cfM ad cI res.2)) args s 0 0 (Ar 19 ad)) (F0 m 102 ls []) := by
  intro x1 x2 x3 x4 x5 x6 x7 S H locs ls hf hP hS hl
  have hx := X.1.1
  have hb := X.1.2.1
  unfold fj_X8_kinds_102_71 at hf
  refine lv_iconst (v := (1 : Int32)) hx hb dX8_kinds_102 (by decide) ?_
  refine lv_goto (tgt := 107) hx hb dX8_kinds_103 (by decide) ?_
  exact vj_X8_kinds_107_71 X hr hlk _ _ hkb hke _ _ _ _ _ _ _ _ _ _ _ ls hf  hP hS (lv_sub hl [0, 1, 2, 3, 4, 5, 6, 7] rfl)
set_option maxHeartbeats 4000000 in
set_option maxRecDepth 100000 in
theorem vb_X8_kinds_71 (X : Cx D cI cP cB cA 19 ad tL tC p s m c cX8_kinds 9 args RX8) (hr : meth.sig.returnType = (some .int)) (hlk : meth.locks = false) {res : Int32 × Stt} (kb : Int32 → Int32 → Int32 → Int32 → Int32 → Int32 → Int32 → Stt → Option (Int32 × Stt)) (ke : Int32 → Int32 → Int32 → Stt → Option (Int32 × Stt)) (hkb : ∀ (x1 : Int32) (x2 : Int32) (x3 : Int32) (x4 : Int32) (x5 : Int32) (x6 : Int32) (x7 : Int32) (S : Stt) (H : Heap) (locs : List Loc) (ls : Array Slot), kb x1 x2 x3 x4 x5 x6 x7 S = some res → va_P D vwCl (wl 19 ad (cfM ad cI S)) H → va_S (Ar 19 ad) s.heap H locs → lv_has ls 9 [(0, .ref (ad 0)), (1, .int x1), (2, .int x2), (3, .int x3), (4, .int x4), (5, .int x5), (6, .int x6), (7, .int x7)] → W p l e (rmD 7) s m args below meth c H locs 0 0 (MQ below (QI D 19 ad res.1 (cfM ad cI res.2)) args s 0 0 (Ar 19 ad)) (F0 m 71 ls [])) (hke : ∀ (x1 : Int32) (x5 : Int32) (x6 : Int32) (S : Stt) (H : Heap) (locs : List Loc) (ls : Array Slot), ke x1 x5 x6 S = some res → va_P D vwCl (wl 19 ad (cfM ad cI S)) H → va_S (Ar 19 ad) s.heap H locs → lv_has ls 9 [(0, .ref (ad 0)), (1, .int x1), (5, .int x5), (6, .int x6)] → W p l e (rmD 7) s m args below meth c H locs 0 0 (MQ below (QI D 19 ad res.1 (cfM ad cI res.2)) args s 0 0 (Ar 19 ad)) (F0 m 144 ls [])) : ∀ (x1 : Int32) (x2 : Int32) (x3 : Int32) (x4 : Int32) (x5 : Int32) (x6 : Int32) (x7 : Int32) (S : Stt) (H : Heap) (locs : List Loc) (ls : Array Slot), fb_X8_kinds_71 kb ke x1 x2 x3 x4 x5 x6 x7 S = some res → va_P D vwCl (wl 19 ad (cfM ad cI S)) H → va_S (Ar 19 ad) s.heap H locs → lv_has ls 9 [(0, .ref (ad 0)), (1, .int x1), (2, .int x2), (3, .int x3), (4, .int x4), (5, .int x5), (6, .int x6), (7, .int x7)] → W p l e (rmD 7) s m args below meth c H locs 0 0 (MQ below (QI D 19 ad res.1 (cfM ad cI res.2)) args s 0 0 (Ar 19 ad)) (F0 m 71 ls []) := by
  intro x1 x2 x3 x4 x5 x6 x7 S H locs ls hf hP hS hl
  have hx := X.1.1
  have hb := X.1.2.1
  unfold fb_X8_kinds_71 at hf
  refine lv_iload hx hb dX8_kinds_71 (lv_at hl 7 rfl) ?_
  refine lv_iconst (v := (4 : Int32)) hx hb dX8_kinds_73 (by decide) ?_
  refine lv_icmp_gt (tgt := 144) hx hb dX8_kinds_74 (by decide) (fun c15 => ?_) (fun c15 => ?_)
  · rw [if_pos c15] at hf
    exact hke _ _ _ _ _ _ ls hf  hP hS (lv_sub hl [0, 1, 5, 6] rfl)
  · rw [if_neg c15] at hf
    refine lv_aload_n hx hb dX8_kinds_77 rfl (lv_at hl 0 rfl) ?_
    refine g_M_kinds X hP  tw_87 dX8_kinds_78 ?_
    refine lv_iload_n hx hb dX8_kinds_81 rfl (lv_at hl 1 rfl) ?_
    refine lv_iload hx hb dX8_kinds_82 (lv_at hl 7 rfl) ?_
    obtain ⟨g16, hf⟩ := grd_some hf
    refine w_m_kinds X hP hS  g16 dX8_kinds_84 (fun H locs hP hS => ?_)
    refine lv_iload hx hb dX8_kinds_85 (lv_at hl 7 rfl) ?_
    refine lv_if_eq (tgt := 102) hx hb dX8_kinds_87 (by decide) (fun c17 => ?_) (fun c17 => ?_)
    · rw [if_pos c17] at hf
      exact vj_X8_kinds_102_71 X hr hlk _ _ hkb hke _ _ _ _ _ _ _ _ _ _ ls hf  hP hS (lv_sub hl [0, 1, 2, 3, 4, 5, 6, 7] rfl)
    · rw [if_neg c17] at hf
      refine lv_iload hx hb dX8_kinds_90 (lv_at hl 7 rfl) ?_
      refine lv_iconst (v := (1 : Int32)) hx hb dX8_kinds_92 (by decide) ?_
      refine lv_icmp_eq (tgt := 102) hx hb dX8_kinds_93 (by decide) (fun c22 => ?_) (fun c22 => ?_)
      · rw [if_pos c22] at hf
        exact vj_X8_kinds_102_71 X hr hlk _ _ hkb hke _ _ _ _ _ _ _ _ _ _ ls hf  hP hS (lv_sub hl [0, 1, 2, 3, 4, 5, 6, 7] rfl)
      · rw [if_neg c22] at hf
        refine lv_iload hx hb dX8_kinds_96 (lv_at hl 7 rfl) ?_
        refine lv_iconst (v := (4 : Int32)) hx hb dX8_kinds_98 (by decide) ?_
        refine lv_icmp_ne (tgt := 106) hx hb dX8_kinds_99 (by decide) (fun c23 => ?_) (fun c23 => ?_)
        · rw [if_neg c23] at hf
          refine lv_iconst (v := (0 : Int32)) hx hb dX8_kinds_106 (by decide) ?_
          exact vj_X8_kinds_107_71 X hr hlk _ _ hkb hke _ _ _ _ _ _ _ _ _ _ _ ls hf  hP hS (lv_sub hl [0, 1, 2, 3, 4, 5, 6, 7] rfl)
        · rw [if_pos c23] at hf
          exact vj_X8_kinds_102_71 X hr hlk _ _ hkb hke _ _ _ _ _ _ _ _ _ _ ls hf  hP hS (lv_sub hl [0, 1, 2, 3, 4, 5, 6, 7] rfl)
set_option maxHeartbeats 4000000 in
set_option maxRecDepth 100000 in
theorem vl_X8_kinds_71 (X : Cx D cI cP cB cA 19 ad tL tC p s m c cX8_kinds 9 args RX8) (hr : meth.sig.returnType = (some .int)) (hlk : meth.locks = false) {res : Int32 × Stt} (ke : Int32 → Int32 → Int32 → Stt → Option (Int32 × Stt)) (hke : ∀ (x1 : Int32) (x5 : Int32) (x6 : Int32) (S : Stt) (H : Heap) (locs : List Loc) (ls : Array Slot), ke x1 x5 x6 S = some res → va_P D vwCl (wl 19 ad (cfM ad cI S)) H → va_S (Ar 19 ad) s.heap H locs → lv_has ls 9 [(0, .ref (ad 0)), (1, .int x1), (5, .int x5), (6, .int x6)] → W p l e (rmD 7) s m args below meth c H locs 0 0 (MQ below (QI D 19 ad res.1 (cfM ad cI res.2)) args s 0 0 (Ar 19 ad)) (F0 m 144 ls [])) : ∀ (n : Nat), ∀ (x1 : Int32) (x2 : Int32) (x3 : Int32) (x4 : Int32) (x5 : Int32) (x6 : Int32) (x7 : Int32) (S : Stt) (H : Heap) (locs : List Loc) (ls : Array Slot), fl_X8_kinds_71 ke n x1 x2 x3 x4 x5 x6 x7 S = some res → va_P D vwCl (wl 19 ad (cfM ad cI S)) H → va_S (Ar 19 ad) s.heap H locs → lv_has ls 9 [(0, .ref (ad 0)), (1, .int x1), (2, .int x2), (3, .int x3), (4, .int x4), (5, .int x5), (6, .int x6), (7, .int x7)] → W p l e (rmD 7) s m args below meth c H locs 0 0 (MQ below (QI D 19 ad res.1 (cfM ad cI res.2)) args s 0 0 (Ar 19 ad)) (F0 m 71 ls []) := by
  intro n
  induction n with
  | zero =>
    intro x1 x2 x3 x4 x5 x6 x7 S H locs ls hf hP hS hl
    cases hf
  | succ n ih =>
    intro x1 x2 x3 x4 x5 x6 x7 S H locs ls hf hP hS hl
    exact vb_X8_kinds_71 X hr hlk _ ke ih hke x1 x2 x3 x4 x5 x6 x7 S H locs ls hf  hP hS hl
end
set_option maxHeartbeats 4000000 in
set_option maxRecDepth 100000 in
theorem m_X8_kinds {l : Launch} {D : va_G} {cI cP cB cA : ClassId} {ad : Nat → Nat} {tL tC : Nat} {x1 : Int32} {x2 : Int32} {x3 : Int32} {x4 : Int32} {S : Stt} {res : Int32 × Stt} (hf : f_X8_kinds x1 x2 x3 x4 S = some res) : Ct l D cI cP cB cA 19 ad tL tC yX8_kinds cX8_kinds 9 (some .int) 7 [.ref (ad 0), .int x1, .int x2, .int x3, .int x4] (cfM ad cI S) (QI D 19 ad res.1 (cfM ad cI res.2)) := by
  refine ctOf (by decide) (Nat.le_of_ble_eq_true rfl) ?_
  intro p e s m args below meth c ls X hr hlk hP hl
  have hS : va_S (Ar 19 ad) s.heap s.heap [] := va_S.rf
  have hx := X.1.1
  have hb := X.1.2.1
  have hl : lv_has ls 9 [(0, .ref (ad 0)), (1, .int x1), (2, .int x2), (3, .int x3), (4, .int x4)] := hl
  unfold f_X8_kinds at hf
  refine lv_aload_n hx hb dX8_kinds_0 rfl (lv_at hl 0 rfl) ?_
  refine lv_iload_n hx hb dX8_kinds_1 rfl (lv_at hl 1 rfl) ?_
  obtain ⟨q1, e2, hf⟩ := bind_some hf
  refine aftI hS (cV (rest := []) X hP hS [.int x1] (m_X8_isPage  e2) cw_X8_isPage tw_314 tw_571 tw_783 (by decide) (cf_M ) rfl (fits9 (by first | decide | omega) (by decide)) rfl rfl hl.1 (Nat.le_of_ble_eq_true rfl) dX8_kinds_2 ⟨Nat.zero_le _, Nat.zero_le _⟩) (fun H locs hP hS => ?_)
  refine lv_if_eq (tgt := 32) hx hb dX8_kinds_5 (by decide) (fun c3 => ?_) (fun c3 => ?_)
  · rw [if_pos c3] at hf
    refine lv_iconst (v := (-1 : Int32)) hx hb dX8_kinds_32 (by decide) ?_
    cases hf
    exact rtI X hr hlk hP hS dX8_kinds_33
  · rw [if_neg c3] at hf
    refine lv_iload_n hx hb dX8_kinds_8 rfl (lv_at hl 2 rfl) ?_
    obtain ⟨q4, e5, hf⟩ := bind_some hf
    refine aftI hS (cS (rest := []) X hP hS [.int x2] (m_X8_isCase  e5) cw_X8_isCase tw_338 tw_595 (fits9 (by first | decide | omega) (by decide)) rfl rfl hl.1 (Nat.le_of_ble_eq_true rfl) dX8_kinds_9 ⟨Nat.zero_le _, Nat.zero_le _⟩) (fun H locs hP hS => ?_)
    refine lv_if_eq (tgt := 32) hx hb dX8_kinds_12 (by decide) (fun c6 => ?_) (fun c6 => ?_)
    · rw [if_pos c6] at hf
      refine lv_iconst (v := (-1 : Int32)) hx hb dX8_kinds_32 (by decide) ?_
      cases hf
      exact rtI X hr hlk hP hS dX8_kinds_33
    · rw [if_neg c6] at hf
      refine lv_iload_n hx hb dX8_kinds_15 rfl (lv_at hl 3 rfl) ?_
      obtain ⟨q7, e8, hf⟩ := bind_some hf
      refine aftI hS (cS (rest := []) X hP hS [.int x3] (m_X8_isDay  e8) cw_X8_isDay tw_317 tw_574 (fits9 (by first | decide | omega) (by decide)) rfl rfl hl.1 (Nat.le_of_ble_eq_true rfl) dX8_kinds_16 ⟨Nat.zero_le _, Nat.zero_le _⟩) (fun H locs hP hS => ?_)
      refine lv_if_eq (tgt := 32) hx hb dX8_kinds_19 (by decide) (fun c9 => ?_) (fun c9 => ?_)
      · rw [if_pos c9] at hf
        refine lv_iconst (v := (-1 : Int32)) hx hb dX8_kinds_32 (by decide) ?_
        cases hf
        exact rtI X hr hlk hP hS dX8_kinds_33
      · rw [if_neg c9] at hf
        refine lv_iload hx hb dX8_kinds_22 (lv_at hl 4 rfl) ?_
        refine lv_iconst (v := (0 : Int32)) hx hb dX8_kinds_24 (by decide) ?_
        refine lv_iconst (v := (1 : Int32)) hx hb dX8_kinds_25 (by decide) ?_
        obtain ⟨q10, e11, hf⟩ := bind_some hf
        refine aftI hS (cS (rest := []) X hP hS [.int x4, .int (0 : Int32), .int (1 : Int32)] (m_X8_in  e11) cw_X8_in tw_288 tw_546 (fits9 (by first | decide | omega) (by decide)) rfl rfl hl.1 (Nat.le_of_ble_eq_true rfl) dX8_kinds_26 ⟨Nat.zero_le _, Nat.zero_le _⟩) (fun H locs hP hS => ?_)
        refine lv_if_ne (tgt := 34) hx hb dX8_kinds_29 (by decide) (fun c12 => ?_) (fun c12 => ?_)
        · rw [if_neg c12] at hf
          refine lv_aload_n hx hb dX8_kinds_34 rfl (lv_at hl 0 rfl) ?_
          refine g_M_kinds X hP  tw_87 dX8_kinds_35 ?_
          refine lv_iload_n hx hb dX8_kinds_38 rfl (lv_at hl 1 rfl) ?_
          obtain ⟨g13, hf⟩ := grd_some hf
          refine r_m_kinds X hP  g13 dX8_kinds_39 ?_
          refine lv_istore (lv' := [(5, .int (q10.2.1 7 0 x1.toNatClampNeg)), (0, .ref (ad 0)), (1, .int x1), (2, .int x2), (3, .int x3), (4, .int x4)]) hx hb dX8_kinds_40 hl (by decide) rfl (fun ls hl => ?_)
          refine lv_iload hx hb dX8_kinds_42 (lv_at hl 0 rfl) ?_
          refine lv_if_eq (tgt := 65) hx hb dX8_kinds_44 (by decide) (fun c14 => ?_) (fun c14 => ?_)
          · rw [if_pos c14] at hf
            refine lv_iconst (v := (0 : Int32)) hx hb dX8_kinds_65 (by decide) ?_
            refine lv_istore (lv' := [(6, .int (0 : Int32)), (5, .int (q10.2.1 7 0 x1.toNatClampNeg)), (0, .ref (ad 0)), (1, .int x1), (2, .int x2), (3, .int x3), (4, .int x4)]) hx hb dX8_kinds_66 hl (by decide) rfl (fun ls hl => ?_)
            refine lv_iconst (v := (0 : Int32)) hx hb dX8_kinds_68 (by decide) ?_
            refine lv_istore (lv' := [(7, .int (0 : Int32)), (6, .int (0 : Int32)), (5, .int (q10.2.1 7 0 x1.toNatClampNeg)), (0, .ref (ad 0)), (1, .int x1), (2, .int x2), (3, .int x3), (4, .int x4)]) hx hb dX8_kinds_69 hl (by decide) rfl (fun ls hl => ?_)
            refine vl_X8_kinds_71 X hr hlk _ ?_ 300 _ _ _ _ _ _ _ _ _ _ ls hf  hP hS (lv_sub hl [3, 4, 5, 6, 7, 2, 1, 0] rfl)
            intro x1 x5 x6 S H locs ls hf hP hS hl
            refine lv_aload_n hx hb dX8_kinds_144 rfl (lv_at hl 0 rfl) ?_
            refine g_M_kinds X hP  tw_87 dX8_kinds_145 ?_
            refine lv_iload_n hx hb dX8_kinds_148 rfl (lv_at hl 1 rfl) ?_
            refine lv_iload hx hb dX8_kinds_149 (lv_at hl 2 rfl) ?_
            obtain ⟨g24, hf⟩ := grd_some hf
            refine w_m_kinds X hP hS  g24 dX8_kinds_151 (fun H locs hP hS => ?_)
            refine lv_iload hx hb dX8_kinds_152 (lv_at hl 3 rfl) ?_
            cases hf
            exact rtI X hr hlk hP hS dX8_kinds_154
          · rw [if_neg c14] at hf
            refine lv_iload hx hb dX8_kinds_47 (lv_at hl 0 rfl) ?_
            refine lv_iconst (v := (1 : Int32)) hx hb dX8_kinds_49 (by decide) ?_
            refine lv_icmp_eq (tgt := 65) hx hb dX8_kinds_50 (by decide) (fun c25 => ?_) (fun c25 => ?_)
            · rw [if_pos c25] at hf
              refine lv_iconst (v := (0 : Int32)) hx hb dX8_kinds_65 (by decide) ?_
              refine lv_istore (lv' := [(6, .int (0 : Int32)), (5, .int (q10.2.1 7 0 x1.toNatClampNeg)), (0, .ref (ad 0)), (1, .int x1), (2, .int x2), (3, .int x3), (4, .int x4)]) hx hb dX8_kinds_66 hl (by decide) rfl (fun ls hl => ?_)
              refine lv_iconst (v := (0 : Int32)) hx hb dX8_kinds_68 (by decide) ?_
              refine lv_istore (lv' := [(7, .int (0 : Int32)), (6, .int (0 : Int32)), (5, .int (q10.2.1 7 0 x1.toNatClampNeg)), (0, .ref (ad 0)), (1, .int x1), (2, .int x2), (3, .int x3), (4, .int x4)]) hx hb dX8_kinds_69 hl (by decide) rfl (fun ls hl => ?_)
              refine vl_X8_kinds_71 X hr hlk _ ?_ 300 _ _ _ _ _ _ _ _ _ _ ls hf  hP hS (lv_sub hl [3, 4, 5, 6, 7, 2, 1, 0] rfl)
              intro x1 x5 x6 S H locs ls hf hP hS hl
              refine lv_aload_n hx hb dX8_kinds_144 rfl (lv_at hl 0 rfl) ?_
              refine g_M_kinds X hP  tw_87 dX8_kinds_145 ?_
              refine lv_iload_n hx hb dX8_kinds_148 rfl (lv_at hl 1 rfl) ?_
              refine lv_iload hx hb dX8_kinds_149 (lv_at hl 2 rfl) ?_
              obtain ⟨g26, hf⟩ := grd_some hf
              refine w_m_kinds X hP hS  g26 dX8_kinds_151 (fun H locs hP hS => ?_)
              refine lv_iload hx hb dX8_kinds_152 (lv_at hl 3 rfl) ?_
              cases hf
              exact rtI X hr hlk hP hS dX8_kinds_154
            · rw [if_neg c25] at hf
              refine lv_iload hx hb dX8_kinds_53 (lv_at hl 0 rfl) ?_
              refine lv_iconst (v := (4 : Int32)) hx hb dX8_kinds_55 (by decide) ?_
              refine lv_icmp_eq (tgt := 65) hx hb dX8_kinds_56 (by decide) (fun c27 => ?_) (fun c27 => ?_)
              · rw [if_pos c27] at hf
                refine lv_iconst (v := (0 : Int32)) hx hb dX8_kinds_65 (by decide) ?_
                refine lv_istore (lv' := [(6, .int (0 : Int32)), (5, .int (q10.2.1 7 0 x1.toNatClampNeg)), (0, .ref (ad 0)), (1, .int x1), (2, .int x2), (3, .int x3), (4, .int x4)]) hx hb dX8_kinds_66 hl (by decide) rfl (fun ls hl => ?_)
                refine lv_iconst (v := (0 : Int32)) hx hb dX8_kinds_68 (by decide) ?_
                refine lv_istore (lv' := [(7, .int (0 : Int32)), (6, .int (0 : Int32)), (5, .int (q10.2.1 7 0 x1.toNatClampNeg)), (0, .ref (ad 0)), (1, .int x1), (2, .int x2), (3, .int x3), (4, .int x4)]) hx hb dX8_kinds_69 hl (by decide) rfl (fun ls hl => ?_)
                refine vl_X8_kinds_71 X hr hlk _ ?_ 300 _ _ _ _ _ _ _ _ _ _ ls hf  hP hS (lv_sub hl [3, 4, 5, 6, 7, 2, 1, 0] rfl)
                intro x1 x5 x6 S H locs ls hf hP hS hl
                refine lv_aload_n hx hb dX8_kinds_144 rfl (lv_at hl 0 rfl) ?_
                refine g_M_kinds X hP  tw_87 dX8_kinds_145 ?_
                refine lv_iload_n hx hb dX8_kinds_148 rfl (lv_at hl 1 rfl) ?_
                refine lv_iload hx hb dX8_kinds_149 (lv_at hl 2 rfl) ?_
                obtain ⟨g28, hf⟩ := grd_some hf
                refine w_m_kinds X hP hS  g28 dX8_kinds_151 (fun H locs hP hS => ?_)
                refine lv_iload hx hb dX8_kinds_152 (lv_at hl 3 rfl) ?_
                cases hf
                exact rtI X hr hlk hP hS dX8_kinds_154
              · rw [if_neg c27] at hf
                refine lv_aload_n hx hb dX8_kinds_59 rfl (lv_at hl 1 rfl) ?_
                refine lv_iconst (v := (3 : Int32)) hx hb dX8_kinds_60 (by decide) ?_
                obtain ⟨q29, e30, hf⟩ := bind_some hf
                refine aftI hS (cV (rest := []) X hP hS [.int (3 : Int32)] (m_X8_meet  e30) cw_X8_meet tw_289 tw_547 tw_762 (by decide) (cf_M ) rfl (fits9 (by first | decide | omega) (by decide)) rfl rfl hl.1 (Nat.le_of_ble_eq_true rfl) dX8_kinds_61 ⟨Nat.zero_le _, Nat.zero_le _⟩) (fun H locs hP hS => ?_)
                cases hf
                exact rtI X hr hlk hP hS dX8_kinds_64
        · rw [if_pos c12] at hf
          refine lv_iconst (v := (-1 : Int32)) hx hb dX8_kinds_32 (by decide) ?_
          cases hf
          exact rtI X hr hlk hP hS dX8_kinds_33
/-! X8_lots -/
section
variable {p : Program} {l : Launch} {e : Env} {s : State} {m : MethodId} {args : Array Value} {below : List Frame} {meth : Method} {c : Code}
variable {D : va_G} {cI cP cB cA : ClassId} {ad : Nat → Nat} {tL tC : Nat}
set_option maxHeartbeats 4000000 in
set_option maxRecDepth 100000 in
theorem vb_X8_lots_31 (X : Cx D cI cP cB cA 19 ad tL tC p s m c cX8_lots 7 args RX8) (hr : meth.sig.returnType = (some .int)) (hlk : meth.locks = false) {res : Int32 × Stt} (kb : Int32 → Int64 → Int32 → Int32 → Stt → Option (Int32 × Stt)) (ke : Int32 → Stt → Option (Int32 × Stt)) (hkb : ∀ (x1 : Int32) (y3 : Int64) (x5 : Int32) (x6 : Int32) (S : Stt) (H : Heap) (locs : List Loc) (ls : Array Slot), kb x1 y3 x5 x6 S = some res → va_P D vwCl (wl 19 ad (cfM ad cI S)) H → va_S (Ar 19 ad) s.heap H locs → lv_has ls 7 [(0, .ref (ad 0)), (1, .int x1), (3, .long y3), (5, .int x5), (6, .int x6)] → W p l e (rmD 7) s m args below meth c H locs 0 0 (MQ below (QI D 19 ad res.1 (cfM ad cI res.2)) args s 0 0 (Ar 19 ad)) (F0 m 31 ls [])) (hke : ∀ (x5 : Int32) (S : Stt) (H : Heap) (locs : List Loc) (ls : Array Slot), ke x5 S = some res → va_P D vwCl (wl 19 ad (cfM ad cI S)) H → va_S (Ar 19 ad) s.heap H locs → lv_has ls 7 [(5, .int x5)] → W p l e (rmD 7) s m args below meth c H locs 0 0 (MQ below (QI D 19 ad res.1 (cfM ad cI res.2)) args s 0 0 (Ar 19 ad)) (F0 m 88 ls [])) : ∀ (x1 : Int32) (y3 : Int64) (x5 : Int32) (x6 : Int32) (S : Stt) (H : Heap) (locs : List Loc) (ls : Array Slot), fb_X8_lots_31 kb ke x1 y3 x5 x6 S = some res → va_P D vwCl (wl 19 ad (cfM ad cI S)) H → va_S (Ar 19 ad) s.heap H locs → lv_has ls 7 [(0, .ref (ad 0)), (1, .int x1), (3, .long y3), (5, .int x5), (6, .int x6)] → W p l e (rmD 7) s m args below meth c H locs 0 0 (MQ below (QI D 19 ad res.1 (cfM ad cI res.2)) args s 0 0 (Ar 19 ad)) (F0 m 31 ls []) := by
  intro x1 y3 x5 x6 S H locs ls hf hP hS hl
  have hx := X.1.1
  have hb := X.1.2.1
  unfold fb_X8_lots_31 at hf
  refine lv_iload hx hb dX8_lots_31 (lv_at hl 4 rfl) ?_
  refine lv_iload_n hx hb dX8_lots_33 rfl (lv_at hl 1 rfl) ?_
  refine lv_icmp_ge (tgt := 88) hx hb dX8_lots_34 (by decide) (fun c7 => ?_) (fun c7 => ?_)
  · rw [if_pos c7] at hf
    exact hke _ _ _ _ ls hf  hP hS (lv_sub hl [3] rfl)
  · rw [if_neg c7] at hf
    refine lv_ldc2 (v := (48271 : Int64)) hx hb X.1.2.2.2.1 (X.1.2.2.2.2 _ tw_629) dX8_lots_37 ?_
    refine lv_lload_n hx hb dX8_lots_40 rfl (lv_at hl 2 rfl) ?_
    refine lv_lmul hx hb dX8_lots_41 ?_
    refine lv_ldc2 (v := (2147483647 : Int64)) hx hb X.1.2.2.2.1 (X.1.2.2.2.2 _ tw_630) dX8_lots_42 ?_
    refine lv_lrem hx hb dX8_lots_45 (by decide) ?_
    refine lv_lstore_n (lv' := [(3, .long (((48271 : Int64) * y3) - ((48271 : Int64) * y3) / (2147483647 : Int64) * (2147483647 : Int64))), (0, .ref (ad 0)), (1, .int x1), (5, .int x5), (6, .int x6)]) hx hb dX8_lots_46 rfl hl (by decide) rfl (fun ls hl => ?_)
    refine lv_iload hx hb dX8_lots_47 (lv_at hl 3 rfl) ?_
    refine lv_aload_n hx hb dX8_lots_49 rfl (lv_at hl 1 rfl) ?_
    refine lv_lload_n hx hb dX8_lots_50 rfl (lv_at hl 0 rfl) ?_
    refine lv_ldc2 (v := (32 : Int64)) hx hb X.1.2.2.2.1 (X.1.2.2.2.2 _ tw_631) dX8_lots_51 ?_
    refine lv_lrem hx hb dX8_lots_54 (by decide) ?_
    refine lv_l2i hx hb dX8_lots_55 rfl ?_
    refine lv_lload_n hx hb dX8_lots_56 rfl (lv_at hl 0 rfl) ?_
    refine lv_ldc2 (v := (32 : Int64)) hx hb X.1.2.2.2.1 (X.1.2.2.2.2 _ tw_631) dX8_lots_57 ?_
    refine lv_ldiv hx hb dX8_lots_60 (by decide) ?_
    refine lv_ldc2 (v := (21 : Int64)) hx hb X.1.2.2.2.1 (X.1.2.2.2.2 _ tw_632) dX8_lots_61 ?_
    refine lv_lrem hx hb dX8_lots_64 (by decide) ?_
    refine lv_l2i hx hb dX8_lots_65 rfl ?_
    obtain ⟨q8, e9, hf⟩ := bind_some hf
    refine aftI hS (cV (rest := [.int x5]) X hP hS [.int ((((48271 : Int64) * y3) - ((48271 : Int64) * y3) / (2147483647 : Int64) * (2147483647 : Int64)) - (((48271 : Int64) * y3) - ((48271 : Int64) * y3) / (2147483647 : Int64) * (2147483647 : Int64)) / (32 : Int64) * (32 : Int64)).toInt32, .int (((((48271 : Int64) * y3) - ((48271 : Int64) * y3) / (2147483647 : Int64) * (2147483647 : Int64)) / (32 : Int64)) - ((((48271 : Int64) * y3) - ((48271 : Int64) * y3) / (2147483647 : Int64) * (2147483647 : Int64)) / (32 : Int64)) / (21 : Int64) * (21 : Int64)).toInt32] (m_X8_isOn  e9) cw_X8_isOn tw_339 tw_596 tw_807 (by decide) (cf_M ) rfl (fits9 (by first | decide | omega) (by decide)) rfl rfl hl.1 (Nat.le_of_ble_eq_true rfl) dX8_lots_66 ⟨Nat.zero_le _, Nat.zero_le _⟩) (fun H locs hP hS => ?_)
    refine lv_bipush (v := (-9 : Int32)) hx hb dX8_lots_69 (by decide) ?_
    refine lv_icmp_ne (tgt := 78) hx hb dX8_lots_71 (by decide) (fun c10 => ?_) (fun c10 => ?_)
    · rw [if_neg c10] at hf
      refine lv_iconst (v := (0 : Int32)) hx hb dX8_lots_78 (by decide) ?_
      refine lv_iadd hx hb dX8_lots_79 ?_
      refine lv_istore (lv' := [(5, .int (x5 + (0 : Int32))), (3, .long (((48271 : Int64) * y3) - ((48271 : Int64) * y3) / (2147483647 : Int64) * (2147483647 : Int64))), (0, .ref (ad 0)), (1, .int x1), (6, .int x6)]) hx hb dX8_lots_80 hl (by decide) rfl (fun ls hl => ?_)
      refine lv_iinc (v := (x6 + (1 : Int32))) (lv' := [(6, .int (x6 + (1 : Int32))), (5, .int (x5 + (0 : Int32))), (3, .long (((48271 : Int64) * y3) - ((48271 : Int64) * y3) / (2147483647 : Int64) * (2147483647 : Int64))), (0, .ref (ad 0)), (1, .int x1)]) hx hb dX8_lots_82 hl (k := 4) rfl rfl (by decide) rfl (fun ls hl => ?_)
      refine lv_goto (tgt := 31) hx hb dX8_lots_85 (by decide) ?_
      exact hkb _ _ _ _ _ _ _ ls hf  hP hS (lv_sub hl [3, 4, 2, 1, 0] rfl)
    · rw [if_pos c10] at hf
      refine lv_iconst (v := (1 : Int32)) hx hb dX8_lots_74 (by decide) ?_
      refine lv_goto (tgt := 79) hx hb dX8_lots_75 (by decide) ?_
      refine lv_iadd hx hb dX8_lots_79 ?_
      refine lv_istore (lv' := [(5, .int (x5 + (1 : Int32))), (3, .long (((48271 : Int64) * y3) - ((48271 : Int64) * y3) / (2147483647 : Int64) * (2147483647 : Int64))), (0, .ref (ad 0)), (1, .int x1), (6, .int x6)]) hx hb dX8_lots_80 hl (by decide) rfl (fun ls hl => ?_)
      refine lv_iinc (v := (x6 + (1 : Int32))) (lv' := [(6, .int (x6 + (1 : Int32))), (5, .int (x5 + (1 : Int32))), (3, .long (((48271 : Int64) * y3) - ((48271 : Int64) * y3) / (2147483647 : Int64) * (2147483647 : Int64))), (0, .ref (ad 0)), (1, .int x1)]) hx hb dX8_lots_82 hl (k := 4) rfl rfl (by decide) rfl (fun ls hl => ?_)
      refine lv_goto (tgt := 31) hx hb dX8_lots_85 (by decide) ?_
      exact hkb _ _ _ _ _ _ _ ls hf  hP hS (lv_sub hl [3, 4, 2, 1, 0] rfl)
set_option maxHeartbeats 4000000 in
set_option maxRecDepth 100000 in
theorem vl_X8_lots_31 (X : Cx D cI cP cB cA 19 ad tL tC p s m c cX8_lots 7 args RX8) (hr : meth.sig.returnType = (some .int)) (hlk : meth.locks = false) {res : Int32 × Stt} (ke : Int32 → Stt → Option (Int32 × Stt)) (hke : ∀ (x5 : Int32) (S : Stt) (H : Heap) (locs : List Loc) (ls : Array Slot), ke x5 S = some res → va_P D vwCl (wl 19 ad (cfM ad cI S)) H → va_S (Ar 19 ad) s.heap H locs → lv_has ls 7 [(5, .int x5)] → W p l e (rmD 7) s m args below meth c H locs 0 0 (MQ below (QI D 19 ad res.1 (cfM ad cI res.2)) args s 0 0 (Ar 19 ad)) (F0 m 88 ls [])) : ∀ (n : Nat), ∀ (x1 : Int32) (y3 : Int64) (x5 : Int32) (x6 : Int32) (S : Stt) (H : Heap) (locs : List Loc) (ls : Array Slot), fl_X8_lots_31 ke n x1 y3 x5 x6 S = some res → va_P D vwCl (wl 19 ad (cfM ad cI S)) H → va_S (Ar 19 ad) s.heap H locs → lv_has ls 7 [(0, .ref (ad 0)), (1, .int x1), (3, .long y3), (5, .int x5), (6, .int x6)] → W p l e (rmD 7) s m args below meth c H locs 0 0 (MQ below (QI D 19 ad res.1 (cfM ad cI res.2)) args s 0 0 (Ar 19 ad)) (F0 m 31 ls []) := by
  intro n
  induction n with
  | zero =>
    intro x1 y3 x5 x6 S H locs ls hf hP hS hl
    cases hf
  | succ n ih =>
    intro x1 y3 x5 x6 S H locs ls hf hP hS hl
    exact vb_X8_lots_31 X hr hlk _ ke ih hke x1 y3 x5 x6 S H locs ls hf  hP hS hl
end
set_option maxHeartbeats 4000000 in
set_option maxRecDepth 100000 in
theorem m_X8_lots {l : Launch} {D : va_G} {cI cP cB cA : ClassId} {ad : Nat → Nat} {tL tC : Nat} {x1 : Int32} {x2 : Int32} {S : Stt} {res : Int32 × Stt} (hf : f_X8_lots x1 x2 S = some res) : Ct l D cI cP cB cA 19 ad tL tC yX8_lots cX8_lots 7 (some .int) 7 [.ref (ad 0), .int x1, .int x2] (cfM ad cI S) (QI D 19 ad res.1 (cfM ad cI res.2)) := by
  refine ctOf (by decide) (Nat.le_of_ble_eq_true rfl) ?_
  intro p e s m args below meth c ls X hr hlk hP hl
  have hS : va_S (Ar 19 ad) s.heap s.heap [] := va_S.rf
  have hx := X.1.1
  have hb := X.1.2.1
  have hl : lv_has ls 7 [(0, .ref (ad 0)), (1, .int x1), (2, .int x2)] := hl
  unfold f_X8_lots at hf
  refine lv_iload_n hx hb dX8_lots_0 rfl (lv_at hl 1 rfl) ?_
  refine lv_iconst (v := (1 : Int32)) hx hb dX8_lots_1 (by decide) ?_
  refine lv_bipush (v := (60 : Int32)) hx hb dX8_lots_2 (by decide) ?_
  obtain ⟨q1, e2, hf⟩ := bind_some hf
  refine aftI hS (cS (rest := []) X hP hS [.int x1, .int (1 : Int32), .int (60 : Int32)] (m_X8_in  e2) cw_X8_in tw_288 tw_546 (fits9 (by first | decide | omega) (by decide)) rfl rfl hl.1 (Nat.le_of_ble_eq_true rfl) dX8_lots_4 ⟨Nat.zero_le _, Nat.zero_le _⟩) (fun H locs hP hS => ?_)
  refine lv_if_eq (tgt := 20) hx hb dX8_lots_7 (by decide) (fun c3 => ?_) (fun c3 => ?_)
  · rw [if_pos c3] at hf
    refine lv_iconst (v := (-1 : Int32)) hx hb dX8_lots_20 (by decide) ?_
    cases hf
    exact rtI X hr hlk hP hS dX8_lots_21
  · rw [if_neg c3] at hf
    refine lv_iload_n hx hb dX8_lots_10 rfl (lv_at hl 2 rfl) ?_
    refine lv_iconst (v := (1 : Int32)) hx hb dX8_lots_11 (by decide) ?_
    refine lv_ldc (v := (2147483646 : Int32)) hx hb X.1.2.2.2.1 (X.1.2.2.2.2 _ tw_628) dX8_lots_12 ?_
    obtain ⟨q4, e5, hf⟩ := bind_some hf
    refine aftI hS (cS (rest := []) X hP hS [.int x2, .int (1 : Int32), .int (2147483646 : Int32)] (m_X8_in  e5) cw_X8_in tw_288 tw_546 (fits9 (by first | decide | omega) (by decide)) rfl rfl hl.1 (Nat.le_of_ble_eq_true rfl) dX8_lots_14 ⟨Nat.zero_le _, Nat.zero_le _⟩) (fun H locs hP hS => ?_)
    refine lv_if_ne (tgt := 22) hx hb dX8_lots_17 (by decide) (fun c6 => ?_) (fun c6 => ?_)
    · rw [if_neg c6] at hf
      refine lv_iload_n hx hb dX8_lots_22 rfl (lv_at hl 2 rfl) ?_
      refine lv_i2l hx hb dX8_lots_23 rfl ?_
      refine lv_lstore_n (lv' := [(3, .long x2.toInt64), (0, .ref (ad 0)), (1, .int x1), (2, .int x2)]) hx hb dX8_lots_24 rfl hl (by decide) rfl (fun ls hl => ?_)
      refine lv_iconst (v := (0 : Int32)) hx hb dX8_lots_25 (by decide) ?_
      refine lv_istore (lv' := [(5, .int (0 : Int32)), (3, .long x2.toInt64), (0, .ref (ad 0)), (1, .int x1), (2, .int x2)]) hx hb dX8_lots_26 hl (by decide) rfl (fun ls hl => ?_)
      refine lv_iconst (v := (0 : Int32)) hx hb dX8_lots_28 (by decide) ?_
      refine lv_istore (lv' := [(6, .int (0 : Int32)), (5, .int (0 : Int32)), (3, .long x2.toInt64), (0, .ref (ad 0)), (1, .int x1), (2, .int x2)]) hx hb dX8_lots_29 hl (by decide) rfl (fun ls hl => ?_)
      refine vl_X8_lots_31 X hr hlk _ ?_ 300 _ _ _ _ _ _ _ ls hf  hP hS (lv_sub hl [3, 4, 2, 1, 0] rfl)
      intro x5 S H locs ls hf hP hS hl
      refine lv_iload hx hb dX8_lots_88 (lv_at hl 0 rfl) ?_
      cases hf
      exact rtI X hr hlk hP hS dX8_lots_90
    · rw [if_pos c6] at hf
      refine lv_iconst (v := (-1 : Int32)) hx hb dX8_lots_20 (by decide) ?_
      cases hf
      exact rtI X hr hlk hP hS dX8_lots_21
/-! X8_matter -/
section
variable {p : Program} {l : Launch} {e : Env} {s : State} {m : MethodId} {args : Array Value} {below : List Frame} {meth : Method} {c : Code}
variable {D : va_G} {cI cP cB cA : ClassId} {ad : Nat → Nat} {tL tC : Nat}
set_option maxHeartbeats 4000000 in
set_option maxRecDepth 100000 in
theorem vb_X8_matter_22 (X : Cx D cI cP cB cA 19 ad tL tC p s m c cX8_matter 7 args RX8) (hr : meth.sig.returnType = (some .int)) (hlk : meth.locks = false) {res : Int32 × Stt} (kb : Int32 → Int32 → Int32 → Int32 → Stt → Option (Int32 × Stt)) (ke : Int32 → Stt → Option (Int32 × Stt)) (hkb : ∀ (x1 : Int32) (x2 : Int32) (x3 : Int32) (x4 : Int32) (S : Stt) (H : Heap) (locs : List Loc) (ls : Array Slot), kb x1 x2 x3 x4 S = some res → va_P D vwCl (wl 19 ad (cfM ad cI S)) H → va_S (Ar 19 ad) s.heap H locs → lv_has ls 7 [(0, .ref (ad 0)), (1, .int x1), (2, .int x2), (3, .int x3), (4, .int x4)] → W p l e (rmD 7) s m args below meth c H locs 0 0 (MQ below (QI D 19 ad res.1 (cfM ad cI res.2)) args s 0 0 (Ar 19 ad)) (F0 m 22 ls [])) (hke : ∀ (x3 : Int32) (S : Stt) (H : Heap) (locs : List Loc) (ls : Array Slot), ke x3 S = some res → va_P D vwCl (wl 19 ad (cfM ad cI S)) H → va_S (Ar 19 ad) s.heap H locs → lv_has ls 7 [(3, .int x3)] → W p l e (rmD 7) s m args below meth c H locs 0 0 (MQ below (QI D 19 ad res.1 (cfM ad cI res.2)) args s 0 0 (Ar 19 ad)) (F0 m 79 ls [])) : ∀ (x1 : Int32) (x2 : Int32) (x3 : Int32) (x4 : Int32) (S : Stt) (H : Heap) (locs : List Loc) (ls : Array Slot), fb_X8_matter_22 kb ke x1 x2 x3 x4 S = some res → va_P D vwCl (wl 19 ad (cfM ad cI S)) H → va_S (Ar 19 ad) s.heap H locs → lv_has ls 7 [(0, .ref (ad 0)), (1, .int x1), (2, .int x2), (3, .int x3), (4, .int x4)] → W p l e (rmD 7) s m args below meth c H locs 0 0 (MQ below (QI D 19 ad res.1 (cfM ad cI res.2)) args s 0 0 (Ar 19 ad)) (F0 m 22 ls []) := by
  intro x1 x2 x3 x4 S H locs ls hf hP hS hl
  have hx := X.1.1
  have hb := X.1.2.1
  unfold fb_X8_matter_22 at hf
  refine lv_iload hx hb dX8_matter_22 (lv_at hl 4 rfl) ?_
  refine lv_bipush (v := (32 : Int32)) hx hb dX8_matter_24 (by decide) ?_
  refine lv_icmp_ge (tgt := 79) hx hb dX8_matter_26 (by decide) (fun c7 => ?_) (fun c7 => ?_)
  · rw [if_pos c7] at hf
    exact hke _ _ _ _ ls hf  hP hS (lv_sub hl [3] rfl)
  · rw [if_neg c7] at hf
    refine lv_aload_n hx hb dX8_matter_29 rfl (lv_at hl 0 rfl) ?_
    refine lv_iload hx hb dX8_matter_30 (lv_at hl 4 rfl) ?_
    refine lv_iload_n hx hb dX8_matter_32 rfl (lv_at hl 2 rfl) ?_
    obtain ⟨q8, e9, hf⟩ := bind_some hf
    refine aftI hS (cV (rest := []) X hP hS [.int x4, .int x2] (m_X8_isOn  e9) cw_X8_isOn tw_339 tw_596 tw_807 (by decide) (cf_M ) rfl (fits9 (by first | decide | omega) (by decide)) rfl rfl hl.1 (Nat.le_of_ble_eq_true rfl) dX8_matter_33 ⟨Nat.zero_le _, Nat.zero_le _⟩) (fun H locs hP hS => ?_)
    refine lv_istore (lv' := [(5, .int q8.1), (0, .ref (ad 0)), (1, .int x1), (2, .int x2), (3, .int x3), (4, .int x4)]) hx hb dX8_matter_36 hl (by decide) rfl (fun ls hl => ?_)
    refine lv_aload_n hx hb dX8_matter_38 rfl (lv_at hl 1 rfl) ?_
    refine lv_iload_n hx hb dX8_matter_39 rfl (lv_at hl 2 rfl) ?_
    refine p_M_leftOut X hP hS  tw_96 dX8_matter_40 (fun H locs hP hS => ?_)
    refine lv_aload_n hx hb dX8_matter_43 rfl (lv_at hl 1 rfl) ?_
    refine lv_iload hx hb dX8_matter_44 (lv_at hl 5 rfl) ?_
    refine lv_iload_n hx hb dX8_matter_46 rfl (lv_at hl 3 rfl) ?_
    obtain ⟨q10, e11, hf⟩ := bind_some hf
    refine aftI hS (cV (rest := []) X hP hS [.int x4, .int x2] (m_X8_isOn  e11) cw_X8_isOn tw_339 tw_596 tw_807 (by decide) (cf_M ) rfl (fits9 (by first | decide | omega) (by decide)) rfl rfl hl.1 (Nat.le_of_ble_eq_true rfl) dX8_matter_47 ⟨Nat.zero_le _, Nat.zero_le _⟩) (fun H locs hP hS => ?_)
    refine lv_istore (lv' := [(6, .int q10.1), (5, .int q8.1), (0, .ref (ad 0)), (1, .int x1), (2, .int x2), (3, .int x3), (4, .int x4)]) hx hb dX8_matter_50 hl (by decide) rfl (fun ls hl => ?_)
    refine lv_aload_n hx hb dX8_matter_52 rfl (lv_at hl 2 rfl) ?_
    refine lv_bipush (v := (-9 : Int32)) hx hb dX8_matter_53 (by decide) ?_
    refine p_M_leftOut X hP hS  tw_96 dX8_matter_55 (fun H locs hP hS => ?_)
    refine lv_iload_n hx hb dX8_matter_58 rfl (lv_at hl 5 rfl) ?_
    refine lv_iload hx hb dX8_matter_59 (lv_at hl 1 rfl) ?_
    refine lv_iload hx hb dX8_matter_61 (lv_at hl 0 rfl) ?_
    refine lv_icmp_ne (tgt := 70) hx hb dX8_matter_63 (by decide) (fun c12 => ?_) (fun c12 => ?_)
    · rw [if_neg c12] at hf
      refine lv_iconst (v := (1 : Int32)) hx hb dX8_matter_70 (by decide) ?_
      refine lv_iadd hx hb dX8_matter_71 ?_
      refine lv_istore_n (lv' := [(3, .int (x3 + (1 : Int32))), (6, .int q10.1), (5, .int q8.1), (0, .ref (ad 0)), (1, .int x1), (2, .int x2), (4, .int x4)]) hx hb dX8_matter_72 rfl hl (by decide) rfl (fun ls hl => ?_)
      refine lv_iinc (v := (x4 + (1 : Int32))) (lv' := [(4, .int (x4 + (1 : Int32))), (3, .int (x3 + (1 : Int32))), (6, .int q10.1), (5, .int q8.1), (0, .ref (ad 0)), (1, .int x1), (2, .int x2)]) hx hb dX8_matter_73 hl (k := 6) rfl rfl (by decide) rfl (fun ls hl => ?_)
      refine lv_goto (tgt := 22) hx hb dX8_matter_76 (by decide) ?_
      exact hkb _ _ _ _ _ _ _ ls hf  hP hS (lv_sub hl [4, 5, 6, 1, 0] rfl)
    · rw [if_pos c12] at hf
      refine lv_iconst (v := (0 : Int32)) hx hb dX8_matter_66 (by decide) ?_
      refine lv_goto (tgt := 71) hx hb dX8_matter_67 (by decide) ?_
      refine lv_iadd hx hb dX8_matter_71 ?_
      refine lv_istore_n (lv' := [(3, .int (x3 + (0 : Int32))), (6, .int q10.1), (5, .int q8.1), (0, .ref (ad 0)), (1, .int x1), (2, .int x2), (4, .int x4)]) hx hb dX8_matter_72 rfl hl (by decide) rfl (fun ls hl => ?_)
      refine lv_iinc (v := (x4 + (1 : Int32))) (lv' := [(4, .int (x4 + (1 : Int32))), (3, .int (x3 + (0 : Int32))), (6, .int q10.1), (5, .int q8.1), (0, .ref (ad 0)), (1, .int x1), (2, .int x2)]) hx hb dX8_matter_73 hl (k := 6) rfl rfl (by decide) rfl (fun ls hl => ?_)
      refine lv_goto (tgt := 22) hx hb dX8_matter_76 (by decide) ?_
      exact hkb _ _ _ _ _ _ _ ls hf  hP hS (lv_sub hl [4, 5, 6, 1, 0] rfl)
set_option maxHeartbeats 4000000 in
set_option maxRecDepth 100000 in
theorem vl_X8_matter_22 (X : Cx D cI cP cB cA 19 ad tL tC p s m c cX8_matter 7 args RX8) (hr : meth.sig.returnType = (some .int)) (hlk : meth.locks = false) {res : Int32 × Stt} (ke : Int32 → Stt → Option (Int32 × Stt)) (hke : ∀ (x3 : Int32) (S : Stt) (H : Heap) (locs : List Loc) (ls : Array Slot), ke x3 S = some res → va_P D vwCl (wl 19 ad (cfM ad cI S)) H → va_S (Ar 19 ad) s.heap H locs → lv_has ls 7 [(3, .int x3)] → W p l e (rmD 7) s m args below meth c H locs 0 0 (MQ below (QI D 19 ad res.1 (cfM ad cI res.2)) args s 0 0 (Ar 19 ad)) (F0 m 79 ls [])) : ∀ (n : Nat), ∀ (x1 : Int32) (x2 : Int32) (x3 : Int32) (x4 : Int32) (S : Stt) (H : Heap) (locs : List Loc) (ls : Array Slot), fl_X8_matter_22 ke n x1 x2 x3 x4 S = some res → va_P D vwCl (wl 19 ad (cfM ad cI S)) H → va_S (Ar 19 ad) s.heap H locs → lv_has ls 7 [(0, .ref (ad 0)), (1, .int x1), (2, .int x2), (3, .int x3), (4, .int x4)] → W p l e (rmD 7) s m args below meth c H locs 0 0 (MQ below (QI D 19 ad res.1 (cfM ad cI res.2)) args s 0 0 (Ar 19 ad)) (F0 m 22 ls []) := by
  intro n
  induction n with
  | zero =>
    intro x1 x2 x3 x4 S H locs ls hf hP hS hl
    cases hf
  | succ n ih =>
    intro x1 x2 x3 x4 S H locs ls hf hP hS hl
    exact vb_X8_matter_22 X hr hlk _ ke ih hke x1 x2 x3 x4 S H locs ls hf  hP hS hl
end
set_option maxHeartbeats 4000000 in
set_option maxRecDepth 100000 in
theorem m_X8_matter {l : Launch} {D : va_G} {cI cP cB cA : ClassId} {ad : Nat → Nat} {tL tC : Nat} {x1 : Int32} {x2 : Int32} {S : Stt} {res : Int32 × Stt} (hf : f_X8_matter x1 x2 S = some res) : Ct l D cI cP cB cA 19 ad tL tC yX8_matter cX8_matter 7 (some .int) 7 [.ref (ad 0), .int x1, .int x2] (cfM ad cI S) (QI D 19 ad res.1 (cfM ad cI res.2)) := by
  refine ctOf (by decide) (Nat.le_of_ble_eq_true rfl) ?_
  intro p e s m args below meth c ls X hr hlk hP hl
  have hS : va_S (Ar 19 ad) s.heap s.heap [] := va_S.rf
  have hx := X.1.1
  have hb := X.1.2.1
  have hl : lv_has ls 7 [(0, .ref (ad 0)), (1, .int x1), (2, .int x2)] := hl
  unfold f_X8_matter at hf
  refine lv_aload_n hx hb dX8_matter_0 rfl (lv_at hl 0 rfl) ?_
  refine lv_iload_n hx hb dX8_matter_1 rfl (lv_at hl 1 rfl) ?_
  obtain ⟨q1, e2, hf⟩ := bind_some hf
  refine aftI hS (cV (rest := []) X hP hS [.int x1] (m_X8_isPage  e2) cw_X8_isPage tw_314 tw_571 tw_783 (by decide) (cf_M ) rfl (fits9 (by first | decide | omega) (by decide)) rfl rfl hl.1 (Nat.le_of_ble_eq_true rfl) dX8_matter_2 ⟨Nat.zero_le _, Nat.zero_le _⟩) (fun H locs hP hS => ?_)
  refine lv_if_eq (tgt := 15) hx hb dX8_matter_5 (by decide) (fun c3 => ?_) (fun c3 => ?_)
  · rw [if_pos c3] at hf
    refine lv_iconst (v := (-1 : Int32)) hx hb dX8_matter_15 (by decide) ?_
    cases hf
    exact rtI X hr hlk hP hS dX8_matter_16
  · rw [if_neg c3] at hf
    refine lv_iload_n hx hb dX8_matter_8 rfl (lv_at hl 2 rfl) ?_
    obtain ⟨q4, e5, hf⟩ := bind_some hf
    refine aftI hS (cS (rest := []) X hP hS [.int x2] (m_X8_isDay  e5) cw_X8_isDay tw_317 tw_574 (fits9 (by first | decide | omega) (by decide)) rfl rfl hl.1 (Nat.le_of_ble_eq_true rfl) dX8_matter_9 ⟨Nat.zero_le _, Nat.zero_le _⟩) (fun H locs hP hS => ?_)
    refine lv_if_ne (tgt := 17) hx hb dX8_matter_12 (by decide) (fun c6 => ?_) (fun c6 => ?_)
    · rw [if_neg c6] at hf
      refine lv_iconst (v := (0 : Int32)) hx hb dX8_matter_17 (by decide) ?_
      refine lv_istore_n (lv' := [(3, .int (0 : Int32)), (0, .ref (ad 0)), (1, .int x1), (2, .int x2)]) hx hb dX8_matter_18 rfl hl (by decide) rfl (fun ls hl => ?_)
      refine lv_iconst (v := (0 : Int32)) hx hb dX8_matter_19 (by decide) ?_
      refine lv_istore (lv' := [(4, .int (0 : Int32)), (3, .int (0 : Int32)), (0, .ref (ad 0)), (1, .int x1), (2, .int x2)]) hx hb dX8_matter_20 hl (by decide) rfl (fun ls hl => ?_)
      refine vl_X8_matter_22 X hr hlk _ ?_ 300 _ _ _ _ _ _ _ ls hf  hP hS (lv_sub hl [2, 3, 4, 1, 0] rfl)
      intro x3 S H locs ls hf hP hS hl
      refine lv_iload_n hx hb dX8_matter_79 rfl (lv_at hl 0 rfl) ?_
      cases hf
      exact rtI X hr hlk hP hS dX8_matter_80
    · rw [if_pos c6] at hf
      refine lv_iconst (v := (-1 : Int32)) hx hb dX8_matter_15 (by decide) ?_
      cases hf
      exact rtI X hr hlk hP hS dX8_matter_16
