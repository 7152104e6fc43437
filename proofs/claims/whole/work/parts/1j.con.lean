/-! X8_verdict -/
section
variable {p : Program} {l : Launch} {e : Env} {s : State} {m : MethodId} {args : Array Value} {below : List Frame} {meth : Method} {c : Code}
variable {D : va_G} {cI cP cB cA : ClassId} {ad : Nat → Nat} {tL tC : Nat}
end
set_option maxHeartbeats 4000000 in
set_option maxRecDepth 100000 in
theorem m_X8_verdict {l : Launch} {D : va_G} {cI cP cB cA : ClassId} {ad : Nat → Nat} {tL tC : Nat} {x1 : Int32} {x2 : Int32} {S : Stt} {res : Int32 × Stt} (hf : f_X8_verdict x1 x2 S = some res) : Ct l D cI cP cB cA 19 ad tL tC yX8_verdict cX8_verdict 4 (some .int) 7 [.ref (ad 0), .int x1, .int x2] (cfM ad cI S) (QI D 19 ad res.1 (cfM ad cI res.2)) := by
  refine ctOf (by decide) (Nat.le_of_ble_eq_true rfl) ?_
  intro p e s m args below meth c ls X hr hlk hP hl
  have hS : va_S (Ar 19 ad) s.heap s.heap [] := va_S.rf
  have hx := X.1.1
  have hb := X.1.2.1
  have hl : lv_has ls 4 [(0, .ref (ad 0)), (1, .int x1), (2, .int x2)] := hl
  unfold f_X8_verdict at hf
  refine lv_iload_n hx hb dX8_verdict_0 rfl (lv_at hl 1 rfl) ?_
  obtain ⟨q1, e2, hf⟩ := bind_some hf
  refine aftI hS (cS (rest := []) X hP hS [.int x1] (m_X8_isCase  e2) cw_X8_isCase tw_338 tw_595 (fits9 (by first | decide | omega) (by decide)) rfl rfl hl.1 (Nat.le_of_ble_eq_true rfl) dX8_verdict_1 ⟨Nat.zero_le _, Nat.zero_le _⟩) (fun H locs hP hS => ?_)
  refine lv_if_eq (tgt := 14) hx hb dX8_verdict_4 (by decide) (fun c3 => ?_) (fun c3 => ?_)
  · rw [if_pos c3] at hf
    refine lv_iconst (v := (-1 : Int32)) hx hb dX8_verdict_14 (by decide) ?_
    cases hf
    exact rtI X hr hlk hP hS dX8_verdict_15
  · rw [if_neg c3] at hf
    refine lv_iload_n hx hb dX8_verdict_7 rfl (lv_at hl 2 rfl) ?_
    obtain ⟨q4, e5, hf⟩ := bind_some hf
    refine aftI hS (cS (rest := []) X hP hS [.int x2] (m_X8_isDay  e5) cw_X8_isDay tw_317 tw_574 (fits9 (by first | decide | omega) (by decide)) rfl rfl hl.1 (Nat.le_of_ble_eq_true rfl) dX8_verdict_8 ⟨Nat.zero_le _, Nat.zero_le _⟩) (fun H locs hP hS => ?_)
    refine lv_if_ne (tgt := 16) hx hb dX8_verdict_11 (by decide) (fun c6 => ?_) (fun c6 => ?_)
    · rw [if_neg c6] at hf
      refine lv_aload_n hx hb dX8_verdict_16 rfl (lv_at hl 0 rfl) ?_
      refine lv_iload_n hx hb dX8_verdict_17 rfl (lv_at hl 1 rfl) ?_
      refine lv_iload_n hx hb dX8_verdict_18 rfl (lv_at hl 2 rfl) ?_
      obtain ⟨q7, e8, hf⟩ := bind_some hf
      refine aftI hS (cV (rest := []) X hP hS [.int x1, .int x2] (m_X8_isOn  e8) cw_X8_isOn tw_339 tw_596 tw_807 (by decide) (cf_M ) rfl (fits9 (by first | decide | omega) (by decide)) rfl rfl hl.1 (Nat.le_of_ble_eq_true rfl) dX8_verdict_19 ⟨Nat.zero_le _, Nat.zero_le _⟩) (fun H locs hP hS => ?_)
      refine lv_istore_n (lv' := [(3, .int q7.1), (0, .ref (ad 0)), (1, .int x1), (2, .int x2)]) hx hb dX8_verdict_22 rfl hl (by decide) rfl (fun ls hl => ?_)
      refine lv_aload_n hx hb dX8_verdict_23 rfl (lv_at hl 1 rfl) ?_
      refine lv_aload_n hx hb dX8_verdict_24 rfl (lv_at hl 1 rfl) ?_
      refine lv_iload_n hx hb dX8_verdict_25 rfl (lv_at hl 2 rfl) ?_
      refine lv_aload_n hx hb dX8_verdict_26 rfl (lv_at hl 1 rfl) ?_
      refine lv_iload_n hx hb dX8_verdict_27 rfl (lv_at hl 3 rfl) ?_
      obtain ⟨q9, e10, hf⟩ := bind_some hf
      refine aftI hS (cV (rest := [.int x1, .ref (ad 0), .ref (ad 0)]) X hP hS [.int x2] (m_X8_bindSet  e10) cw_X8_bindSet tw_318 tw_575 tw_788 (by decide) (cf_M ) rfl (fits9 (by first | decide | omega) (by decide)) rfl rfl hl.1 (Nat.le_of_ble_eq_true rfl) dX8_verdict_28 ⟨Nat.zero_le _, Nat.zero_le _⟩) (fun H locs hP hS => ?_)
      refine lv_aload_n hx hb dX8_verdict_31 rfl (lv_at hl 1 rfl) ?_
      refine lv_iconst (v := (5 : Int32)) hx hb dX8_verdict_32 (by decide) ?_
      refine lv_iload_n hx hb dX8_verdict_33 rfl (lv_at hl 3 rfl) ?_
      obtain ⟨q11, e12, hf⟩ := bind_some hf
      refine aftI hS (cV (rest := [.int q9.1, .int x1, .ref (ad 0), .ref (ad 0)]) X hP hS [.int (5 : Int32), .int x2] (m_X8_meanOf  e12) cw_X8_meanOf tw_332 tw_589 tw_799 (by decide) (cf_M ) rfl (fits9 (by first | decide | omega) (by decide)) rfl rfl hl.1 (Nat.le_of_ble_eq_true rfl) dX8_verdict_34 ⟨Nat.zero_le _, Nat.zero_le _⟩) (fun H locs hP hS => ?_)
      refine lv_aload_n hx hb dX8_verdict_37 rfl (lv_at hl 1 rfl) ?_
      refine lv_bipush (v := (6 : Int32)) hx hb dX8_verdict_38 (by decide) ?_
      refine lv_iload_n hx hb dX8_verdict_40 rfl (lv_at hl 3 rfl) ?_
      obtain ⟨q13, e14, hf⟩ := bind_some hf
      refine aftI hS (cV (rest := [.int q11.1, .int q9.1, .int x1, .ref (ad 0), .ref (ad 0)]) X hP hS [.int (6 : Int32), .int x2] (m_X8_meanOf  e14) cw_X8_meanOf tw_332 tw_589 tw_799 (by decide) (cf_M ) rfl (fits9 (by first | decide | omega) (by decide)) rfl rfl hl.1 (Nat.le_of_ble_eq_true rfl) dX8_verdict_41 ⟨Nat.zero_le _, Nat.zero_le _⟩) (fun H locs hP hS => ?_)
      obtain ⟨q15, e16, hf⟩ := bind_some hf
      refine aftI hS (cV (rest := [.ref (ad 0)]) X hP hS [.int x1, .int q9.1, .int q11.1, .int q13.1] (m_X8_onesOf  e16) cw_X8_onesOf tw_340 tw_597 tw_806 (by decide) (cf_M ) rfl (fits9 (by first | decide | omega) (by decide)) rfl rfl hl.1 (Nat.le_of_ble_eq_true rfl) dX8_verdict_44 ⟨Nat.zero_le _, Nat.zero_le _⟩) (fun H locs hP hS => ?_)
      refine lv_iload_n hx hb dX8_verdict_47 rfl (lv_at hl 0 rfl) ?_
      obtain ⟨q17, e18, hf⟩ := bind_some hf
      refine aftI hS (cV (rest := []) X hP hS [.int q15.1, .int q7.1] (m_X8_ask  e18) cw_X8_ask tw_294 tw_552 tw_763 (by decide) (cf_M ) rfl (fits9 (by first | decide | omega) (by decide)) rfl rfl hl.1 (Nat.le_of_ble_eq_true rfl) dX8_verdict_48 ⟨Nat.zero_le _, Nat.zero_le _⟩) (fun H locs hP hS => ?_)
      cases hf
      exact rtI X hr hlk hP hS dX8_verdict_51
    · rw [if_pos c6] at hf
      refine lv_iconst (v := (-1 : Int32)) hx hb dX8_verdict_14 (by decide) ?_
      cases hf
      exact rtI X hr hlk hP hS dX8_verdict_15
/-! X8_waits -/
section
variable {p : Program} {l : Launch} {e : Env} {s : State} {m : MethodId} {args : Array Value} {below : List Frame} {meth : Method} {c : Code}
variable {D : va_G} {cI cP cB cA : ClassId} {ad : Nat → Nat} {tL tC : Nat}
end
set_option maxHeartbeats 4000000 in
set_option maxRecDepth 100000 in
theorem m_X8_waits {l : Launch} {D : va_G} {cI cP cB cA : ClassId} {ad : Nat → Nat} {tL tC : Nat} {x1 : Int32} {S : Stt} {res : Int32 × Stt} (hf : f_X8_waits x1 S = some res) : Ct l D cI cP cB cA 19 ad tL tC yX8_waits cX8_waits 2 (some .int) 7 [.ref (ad 0), .int x1] (cfM ad cI S) (QI D 19 ad res.1 (cfM ad cI res.2)) := by
  refine ctOf (by decide) (Nat.le_of_ble_eq_true rfl) ?_
  intro p e s m args below meth c ls X hr hlk hP hl
  have hS : va_S (Ar 19 ad) s.heap s.heap [] := va_S.rf
  have hx := X.1.1
  have hb := X.1.2.1
  have hl : lv_has ls 2 [(0, .ref (ad 0)), (1, .int x1)] := hl
  unfold f_X8_waits at hf
  refine lv_iload_n hx hb dX8_waits_0 rfl (lv_at hl 1 rfl) ?_
  obtain ⟨q1, e2, hf⟩ := bind_some hf
  refine aftI hS (cS (rest := []) X hP hS [.int x1] (m_X8_isDay  e2) cw_X8_isDay tw_317 tw_574 (fits9 (by first | decide | omega) (by decide)) rfl rfl hl.1 (Nat.le_of_ble_eq_true rfl) dX8_waits_1 ⟨Nat.zero_le _, Nat.zero_le _⟩) (fun H locs hP hS => ?_)
  refine lv_if_eq (tgt := 27) hx hb dX8_waits_4 (by decide) (fun c3 => ?_) (fun c3 => ?_)
  · rw [if_pos c3] at hf
    refine lv_iconst (v := (-1 : Int32)) hx hb dX8_waits_27 (by decide) ?_
    cases hf
    exact rtI X hr hlk hP hS dX8_waits_28
  · rw [if_neg c3] at hf
    refine lv_aload_n hx hb dX8_waits_7 rfl (lv_at hl 0 rfl) ?_
    refine lv_aload_n hx hb dX8_waits_8 rfl (lv_at hl 0 rfl) ?_
    refine lv_iload_n hx hb dX8_waits_9 rfl (lv_at hl 1 rfl) ?_
    refine lv_iconst (v := (1 : Int32)) hx hb dX8_waits_10 (by decide) ?_
    obtain ⟨q4, e5, hf⟩ := bind_some hf
    refine aftI hS (cV (rest := [.ref (ad 0)]) X hP hS [.int x1, .int (1 : Int32)] (m_X8_waitsOn  e5) cw_X8_waitsOn tw_347 tw_604 tw_811 (by decide) (cf_M ) rfl (fits9 (by first | decide | omega) (by decide)) rfl rfl hl.1 (Nat.le_of_ble_eq_true rfl) dX8_waits_11 ⟨Nat.zero_le _, Nat.zero_le _⟩) (fun H locs hP hS => ?_)
    refine lv_aload_n hx hb dX8_waits_14 rfl (lv_at hl 0 rfl) ?_
    refine lv_iload_n hx hb dX8_waits_15 rfl (lv_at hl 1 rfl) ?_
    refine lv_bipush (v := (-9 : Int32)) hx hb dX8_waits_16 (by decide) ?_
    obtain ⟨q6, e7, hf⟩ := bind_some hf
    refine aftI hS (cV (rest := [.int q4.1, .ref (ad 0)]) X hP hS [.int x1, .int (-9 : Int32)] (m_X8_waitsOn  e7) cw_X8_waitsOn tw_347 tw_604 tw_811 (by decide) (cf_M ) rfl (fits9 (by first | decide | omega) (by decide)) rfl rfl hl.1 (Nat.le_of_ble_eq_true rfl) dX8_waits_18 ⟨Nat.zero_le _, Nat.zero_le _⟩) (fun H locs hP hS => ?_)
    obtain ⟨q8, e9, hf⟩ := bind_some hf
    refine aftI hS (cV (rest := []) X hP hS [.int q4.1, .int q6.1] (m_X8_ask  e9) cw_X8_ask tw_294 tw_552 tw_763 (by decide) (cf_M ) rfl (fits9 (by first | decide | omega) (by decide)) rfl rfl hl.1 (Nat.le_of_ble_eq_true rfl) dX8_waits_21 ⟨Nat.zero_le _, Nat.zero_le _⟩) (fun H locs hP hS => ?_)
    refine lv_goto (tgt := 28) hx hb dX8_waits_24 (by decide) ?_
    cases hf
    exact rtI X hr hlk hP hS dX8_waits_28
/-! X8_all -/
section
variable {p : Program} {l : Launch} {e : Env} {s : State} {m : MethodId} {args : Array Value} {below : List Frame} {meth : Method} {c : Code}
variable {D : va_G} {cI cP cB cA : ClassId} {ad : Nat → Nat} {tL tC : Nat}
end
set_option maxHeartbeats 4000000 in
set_option maxRecDepth 100000 in
theorem m_X8_all {l : Launch} {D : va_G} {cI cP cB cA : ClassId} {ad : Nat → Nat} {tL tC : Nat} {S : Stt} {res : Int32 × Stt} (hf : f_X8_all  S = some res) : Ct l D cI cP cB cA 19 ad tL tC yX8_all cX8_all 1 (some .int) 8 [.ref (ad 0)] (cfM ad cI S) (QI D 19 ad res.1 (cfM ad cI res.2)) := by
  refine ctOf (by decide) (Nat.le_of_ble_eq_true rfl) ?_
  intro p e s m args below meth c ls X hr hlk hP hl
  have hS : va_S (Ar 19 ad) s.heap s.heap [] := va_S.rf
  have hx := X.1.1
  have hb := X.1.2.1
  have hl : lv_has ls 1 [(0, .ref (ad 0))] := hl
  unfold f_X8_all at hf
  refine lv_aload_n hx hb dX8_all_0 rfl (lv_at hl 0 rfl) ?_
  obtain ⟨q1, e2, hf⟩ := bind_some hf
  refine aftI hS (cV (rest := []) X hP hS [] (m_X8_allWaits  e2) cw_X8_allWaits tw_349 tw_606 tw_813 (by decide) (cf_M ) rfl (fits9 (by first | decide | omega) (by decide)) rfl rfl hl.1 (Nat.le_of_ble_eq_true rfl) dX8_all_1 ⟨Nat.zero_le _, Nat.zero_le _⟩) (fun H locs hP hS => ?_)
  cases hf
  exact rtI X hr hlk hP hS dX8_all_4
/-! X8_deeds -/
section
variable {p : Program} {l : Launch} {e : Env} {s : State} {m : MethodId} {args : Array Value} {below : List Frame} {meth : Method} {c : Code}
variable {D : va_G} {cI cP cB cA : ClassId} {ad : Nat → Nat} {tL tC : Nat}
set_option maxHeartbeats 4000000 in
set_option maxRecDepth 100000 in
theorem vj_X8_deeds_66_32 (X : Cx D cI cP cB cA 19 ad tL tC p s m c cX8_deeds 7 args RX8) (hr : meth.sig.returnType = (some .int)) (hlk : meth.locks = false) {res : Int32 × Stt} (kb : Int32 → Int32 → Int32 → Int32 → Stt → Option (Int32 × Stt)) (ke : Int32 → Int32 → Int32 → Stt → Option (Int32 × Stt)) (hkb : ∀ (x1 : Int32) (x2 : Int32) (x4 : Int32) (x5 : Int32) (S : Stt) (H : Heap) (locs : List Loc) (ls : Array Slot), kb x1 x2 x4 x5 S = some res → va_P D vwCl (wl 19 ad (cfM ad cI S)) H → va_S (Ar 19 ad) s.heap H locs → lv_has ls 7 [(0, .ref (ad 0)), (1, .int x1), (2, .int x2), (4, .int x4), (5, .int x5)] → W p l e (rmD 8) s m args below meth c H locs 0 0 (MQ below (QI D 19 ad res.1 (cfM ad cI res.2)) args s 0 0 (Ar 19 ad)) (F0 m 32 ls [])) (hke : ∀ (x1 : Int32) (x2 : Int32) (x4 : Int32) (S : Stt) (H : Heap) (locs : List Loc) (ls : Array Slot), ke x1 x2 x4 S = some res → va_P D vwCl (wl 19 ad (cfM ad cI S)) H → va_S (Ar 19 ad) s.heap H locs → lv_has ls 7 [(0, .ref (ad 0)), (1, .int x1), (2, .int x2), (4, .int x4)] → W p l e (rmD 8) s m args below meth c H locs 0 0 (MQ below (QI D 19 ad res.1 (cfM ad cI res.2)) args s 0 0 (Ar 19 ad)) (F0 m 100 ls [])) : ∀ (x1 : Int32) (x2 : Int32) (x5 : Int32) (xt1 : Int32) (xt2 : Int32) (S : Stt) (H : Heap) (locs : List Loc) (ls : Array Slot), fj_X8_deeds_66_32 kb ke x1 x2 x5 xt1 xt2 S = some res → va_P D vwCl (wl 19 ad (cfM ad cI S)) H → va_S (Ar 19 ad) s.heap H locs → lv_has ls 7 [(0, .ref (ad 0)), (1, .int x1), (2, .int x2), (5, .int x5)] → W p l e (rmD 8) s m args below meth c H locs 0 0 (MQ below (QI D 19 ad res.1 (cfM ad cI res.2)) args s 0 0 (Ar 19 ad)) (F0 m 66 ls [.int xt2, .int xt1, .ref (ad 0)]) := by
  intro x1 x2 x5 xt1 xt2 S H locs ls hf hP hS hl
  have hx := X.1.1
  have hb := X.1.2.1
  unfold fj_X8_deeds_66_32 at hf
  obtain ⟨q12, e13, hf⟩ := bind_some hf
  refine aftI hS (cV (rest := []) X hP hS [.int xt1, .int xt2] (m_X8_freeFrom  e13) cw_X8_freeFrom tw_351 tw_608 tw_815 (by decide) (cf_M ) rfl (fits9 (by first | decide | omega) (by decide)) rfl rfl hl.1 (Nat.le_of_ble_eq_true rfl) dX8_deeds_66 ⟨Nat.zero_le _, Nat.zero_le _⟩) (fun H locs hP hS => ?_)
  refine lv_istore (lv' := [(6, .int q12.1), (0, .ref (ad 0)), (1, .int x1), (2, .int x2), (5, .int x5)]) hx hb dX8_deeds_69 hl (by decide) rfl (fun ls hl => ?_)
  refine lv_iload hx hb dX8_deeds_71 (lv_at hl 0 rfl) ?_
  refine lv_bipush (v := (-9 : Int32)) hx hb dX8_deeds_73 (by decide) ?_
  refine lv_icmp_ne (tgt := 81) hx hb dX8_deeds_75 (by decide) (fun c14 => ?_) (fun c14 => ?_)
  · rw [if_neg c14] at hf
    refine lv_aload_n hx hb dX8_deeds_81 rfl (lv_at hl 1 rfl) ?_
    refine g_M_told X hP  tw_99 dX8_deeds_82 ?_
    refine lv_iload hx hb dX8_deeds_85 (lv_at hl 4 rfl) ?_
    refine lv_iload hx hb dX8_deeds_87 (lv_at hl 0 rfl) ?_
    obtain ⟨g15, hf⟩ := grd_some hf
    refine w_m_told X hP hS  g15 dX8_deeds_89 (fun H locs hP hS => ?_)
    refine lv_iload hx hb dX8_deeds_90 (lv_at hl 0 rfl) ?_
    refine lv_istore (lv' := [(4, .int q12.1), (6, .int q12.1), (0, .ref (ad 0)), (1, .int x1), (2, .int x2), (5, .int x5)]) hx hb dX8_deeds_92 hl (by decide) rfl (fun ls hl => ?_)
    refine lv_iinc (v := (x5 + (1 : Int32))) (lv' := [(5, .int (x5 + (1 : Int32))), (4, .int q12.1), (6, .int q12.1), (0, .ref (ad 0)), (1, .int x1), (2, .int x2)]) hx hb dX8_deeds_94 hl (k := 5) rfl rfl (by decide) rfl (fun ls hl => ?_)
    refine lv_goto (tgt := 32) hx hb dX8_deeds_97 (by decide) ?_
    exact hkb _ _ _ _ _ _ _ ls hf  hP hS (lv_sub hl [3, 4, 5, 1, 0] rfl)
  · rw [if_pos c14] at hf
    refine lv_bipush (v := (-6 : Int32)) hx hb dX8_deeds_78 (by decide) ?_
    cases hf
    exact rtI X hr hlk hP hS dX8_deeds_80
set_option maxHeartbeats 4000000 in
set_option maxRecDepth 100000 in
theorem vb_X8_deeds_32 (X : Cx D cI cP cB cA 19 ad tL tC p s m c cX8_deeds 7 args RX8) (hr : meth.sig.returnType = (some .int)) (hlk : meth.locks = false) {res : Int32 × Stt} (kb : Int32 → Int32 → Int32 → Int32 → Stt → Option (Int32 × Stt)) (ke : Int32 → Int32 → Int32 → Stt → Option (Int32 × Stt)) (hkb : ∀ (x1 : Int32) (x2 : Int32) (x4 : Int32) (x5 : Int32) (S : Stt) (H : Heap) (locs : List Loc) (ls : Array Slot), kb x1 x2 x4 x5 S = some res → va_P D vwCl (wl 19 ad (cfM ad cI S)) H → va_S (Ar 19 ad) s.heap H locs → lv_has ls 7 [(0, .ref (ad 0)), (1, .int x1), (2, .int x2), (4, .int x4), (5, .int x5)] → W p l e (rmD 8) s m args below meth c H locs 0 0 (MQ below (QI D 19 ad res.1 (cfM ad cI res.2)) args s 0 0 (Ar 19 ad)) (F0 m 32 ls [])) (hke : ∀ (x1 : Int32) (x2 : Int32) (x4 : Int32) (S : Stt) (H : Heap) (locs : List Loc) (ls : Array Slot), ke x1 x2 x4 S = some res → va_P D vwCl (wl 19 ad (cfM ad cI S)) H → va_S (Ar 19 ad) s.heap H locs → lv_has ls 7 [(0, .ref (ad 0)), (1, .int x1), (2, .int x2), (4, .int x4)] → W p l e (rmD 8) s m args below meth c H locs 0 0 (MQ below (QI D 19 ad res.1 (cfM ad cI res.2)) args s 0 0 (Ar 19 ad)) (F0 m 100 ls [])) : ∀ (x1 : Int32) (x2 : Int32) (x4 : Int32) (x5 : Int32) (S : Stt) (H : Heap) (locs : List Loc) (ls : Array Slot), fb_X8_deeds_32 kb ke x1 x2 x4 x5 S = some res → va_P D vwCl (wl 19 ad (cfM ad cI S)) H → va_S (Ar 19 ad) s.heap H locs → lv_has ls 7 [(0, .ref (ad 0)), (1, .int x1), (2, .int x2), (4, .int x4), (5, .int x5)] → W p l e (rmD 8) s m args below meth c H locs 0 0 (MQ below (QI D 19 ad res.1 (cfM ad cI res.2)) args s 0 0 (Ar 19 ad)) (F0 m 32 ls []) := by
  intro x1 x2 x4 x5 S H locs ls hf hP hS hl
  have hx := X.1.1
  have hb := X.1.2.1
  unfold fb_X8_deeds_32 at hf
  refine lv_iload hx hb dX8_deeds_32 (lv_at hl 4 rfl) ?_
  refine lv_aload_n hx hb dX8_deeds_34 rfl (lv_at hl 0 rfl) ?_
  refine g_M_sizes X hP  tw_81 dX8_deeds_35 ?_
  refine lv_iload_n hx hb dX8_deeds_38 rfl (lv_at hl 1 rfl) ?_
  obtain ⟨g7, hf⟩ := grd_some hf
  refine r_m_sizes X hP  g7 dX8_deeds_39 ?_
  refine lv_icmp_ge (tgt := 100) hx hb dX8_deeds_40 (by decide) (fun c8 => ?_) (fun c8 => ?_)
  · rw [if_pos c8] at hf
    exact hke _ _ _ _ _ _ ls hf  hP hS (lv_sub hl [0, 1, 2, 3] rfl)
  · rw [if_neg c8] at hf
    refine lv_aload_n hx hb dX8_deeds_43 rfl (lv_at hl 0 rfl) ?_
    refine lv_aload_n hx hb dX8_deeds_44 rfl (lv_at hl 0 rfl) ?_
    refine lv_iload_n hx hb dX8_deeds_45 rfl (lv_at hl 1 rfl) ?_
    refine lv_iload hx hb dX8_deeds_46 (lv_at hl 4 rfl) ?_
    obtain ⟨q9, e10, hf⟩ := bind_some hf
    refine aftI hS (cV (rest := [.ref (ad 0)]) X hP hS [.int x1, .int x5] (m_X8_rowAt  e10) cw_X8_rowAt tw_293 tw_551 tw_766 (by decide) (cf_M ) rfl (fits9 (by first | decide | omega) (by decide)) rfl rfl hl.1 (Nat.le_of_ble_eq_true rfl) dX8_deeds_48 ⟨Nat.zero_le _, Nat.zero_le _⟩) (fun H locs hP hS => ?_)
    refine lv_iload hx hb dX8_deeds_51 (lv_at hl 3 rfl) ?_
    refine lv_bipush (v := (-9 : Int32)) hx hb dX8_deeds_53 (by decide) ?_
    refine lv_icmp_ne (tgt := 62) hx hb dX8_deeds_55 (by decide) (fun c11 => ?_) (fun c11 => ?_)
    · rw [if_neg c11] at hf
      refine lv_iload hx hb dX8_deeds_62 (lv_at hl 3 rfl) ?_
      refine lv_iconst (v := (1 : Int32)) hx hb dX8_deeds_64 (by decide) ?_
      refine lv_iadd hx hb dX8_deeds_65 ?_
      exact vj_X8_deeds_66_32 X hr hlk _ _ hkb hke _ _ _ _ _ _ _ _ ls hf  hP hS (lv_sub hl [0, 1, 2, 4] rfl)
    · rw [if_pos c11] at hf
      refine lv_iconst (v := (0 : Int32)) hx hb dX8_deeds_58 (by decide) ?_
      refine lv_goto (tgt := 66) hx hb dX8_deeds_59 (by decide) ?_
      exact vj_X8_deeds_66_32 X hr hlk _ _ hkb hke _ _ _ _ _ _ _ _ ls hf  hP hS (lv_sub hl [0, 1, 2, 4] rfl)
set_option maxHeartbeats 4000000 in
set_option maxRecDepth 100000 in
theorem vl_X8_deeds_32 (X : Cx D cI cP cB cA 19 ad tL tC p s m c cX8_deeds 7 args RX8) (hr : meth.sig.returnType = (some .int)) (hlk : meth.locks = false) {res : Int32 × Stt} (ke : Int32 → Int32 → Int32 → Stt → Option (Int32 × Stt)) (hke : ∀ (x1 : Int32) (x2 : Int32) (x4 : Int32) (S : Stt) (H : Heap) (locs : List Loc) (ls : Array Slot), ke x1 x2 x4 S = some res → va_P D vwCl (wl 19 ad (cfM ad cI S)) H → va_S (Ar 19 ad) s.heap H locs → lv_has ls 7 [(0, .ref (ad 0)), (1, .int x1), (2, .int x2), (4, .int x4)] → W p l e (rmD 8) s m args below meth c H locs 0 0 (MQ below (QI D 19 ad res.1 (cfM ad cI res.2)) args s 0 0 (Ar 19 ad)) (F0 m 100 ls [])) : ∀ (n : Nat), ∀ (x1 : Int32) (x2 : Int32) (x4 : Int32) (x5 : Int32) (S : Stt) (H : Heap) (locs : List Loc) (ls : Array Slot), fl_X8_deeds_32 ke n x1 x2 x4 x5 S = some res → va_P D vwCl (wl 19 ad (cfM ad cI S)) H → va_S (Ar 19 ad) s.heap H locs → lv_has ls 7 [(0, .ref (ad 0)), (1, .int x1), (2, .int x2), (4, .int x4), (5, .int x5)] → W p l e (rmD 8) s m args below meth c H locs 0 0 (MQ below (QI D 19 ad res.1 (cfM ad cI res.2)) args s 0 0 (Ar 19 ad)) (F0 m 32 ls []) := by
  intro n
  induction n with
  | zero =>
    intro x1 x2 x4 x5 S H locs ls hf hP hS hl
    cases hf
  | succ n ih =>
    intro x1 x2 x4 x5 S H locs ls hf hP hS hl
    exact vb_X8_deeds_32 X hr hlk _ ke ih hke x1 x2 x4 x5 S H locs ls hf  hP hS hl
set_option maxHeartbeats 4000000 in
set_option maxRecDepth 100000 in
theorem vj_X8_deeds_18 (X : Cx D cI cP cB cA 19 ad tL tC p s m c cX8_deeds 7 args RX8) (hr : meth.sig.returnType = (some .int)) (hlk : meth.locks = false) {res : Int32 × Stt} : ∀ (x1 : Int32) (x2 : Int32) (xt0 : Int32) (S : Stt) (H : Heap) (locs : List Loc) (ls : Array Slot), fj_X8_deeds_18 x1 x2 xt0 S = some res → va_P D vwCl (wl 19 ad (cfM ad cI S)) H → va_S (Ar 19 ad) s.heap H locs → lv_has ls 7 [(0, .ref (ad 0)), (1, .int x1), (2, .int x2)] → W p l e (rmD 8) s m args below meth c H locs 0 0 (MQ below (QI D 19 ad res.1 (cfM ad cI res.2)) args s 0 0 (Ar 19 ad)) (F0 m 18 ls [.int xt0]) := by
  intro x1 x2 xt0 S H locs ls hf hP hS hl
  have hx := X.1.1
  have hb := X.1.2.1
  unfold fj_X8_deeds_18 at hf
  refine lv_istore_n (lv' := [(3, .int xt0), (0, .ref (ad 0)), (1, .int x1), (2, .int x2)]) hx hb dX8_deeds_18 rfl hl (by decide) rfl (fun ls hl => ?_)
  refine lv_iload_n hx hb dX8_deeds_19 rfl (lv_at hl 0 rfl) ?_
  refine lv_if_ge (tgt := 25) hx hb dX8_deeds_20 (by decide) (fun c6 => ?_) (fun c6 => ?_)
  · rw [if_pos c6] at hf
    refine lv_bipush (v := (-9 : Int32)) hx hb dX8_deeds_25 (by decide) ?_
    refine lv_istore (lv' := [(4, .int (-9 : Int32)), (3, .int xt0), (0, .ref (ad 0)), (1, .int x1), (2, .int x2)]) hx hb dX8_deeds_27 hl (by decide) rfl (fun ls hl => ?_)
    refine lv_iconst (v := (0 : Int32)) hx hb dX8_deeds_29 (by decide) ?_
    refine lv_istore (lv' := [(5, .int (0 : Int32)), (4, .int (-9 : Int32)), (3, .int xt0), (0, .ref (ad 0)), (1, .int x1), (2, .int x2)]) hx hb dX8_deeds_30 hl (by decide) rfl (fun ls hl => ?_)
    refine vl_X8_deeds_32 X hr hlk _ ?_ 300 _ _ _ _ _ _ _ ls hf  hP hS (lv_sub hl [3, 4, 5, 1, 0] rfl)
    intro x1 x2 x4 S H locs ls hf hP hS hl
    refine lv_aload_n hx hb dX8_deeds_100 rfl (lv_at hl 0 rfl) ?_
    refine lv_iload_n hx hb dX8_deeds_101 rfl (lv_at hl 2 rfl) ?_
    refine lv_aload_n hx hb dX8_deeds_102 rfl (lv_at hl 0 rfl) ?_
    refine g_M_sizes X hP  tw_81 dX8_deeds_103 ?_
    refine lv_iload_n hx hb dX8_deeds_106 rfl (lv_at hl 1 rfl) ?_
    obtain ⟨g16, hf⟩ := grd_some hf
    refine r_m_sizes X hP  g16 dX8_deeds_107 ?_
    obtain ⟨q17, e18, hf⟩ := bind_some hf
    refine aftV hS (cV (rest := []) X hP hS [.int x2, .int (S.1 2 0 x1.toNatClampNeg)] (m_X8_layTold  e18) cw_X8_layTold tw_354 tw_611 tw_818 (by decide) (cf_M ) rfl (fits9 (by first | decide | omega) (by decide)) rfl rfl hl.1 (Nat.le_of_ble_eq_true rfl) dX8_deeds_108 ⟨Nat.zero_le _, Nat.zero_le _⟩) (fun H locs hP hS => ?_)
    refine lv_iload hx hb dX8_deeds_111 (lv_at hl 3 rfl) ?_
    cases hf
    exact rtI X hr hlk hP hS dX8_deeds_113
  · rw [if_neg c6] at hf
    refine lv_iload_n hx hb dX8_deeds_23 rfl (lv_at hl 0 rfl) ?_
    cases hf
    exact rtI X hr hlk hP hS dX8_deeds_24
end
set_option maxHeartbeats 4000000 in
set_option maxRecDepth 100000 in
theorem m_X8_deeds {l : Launch} {D : va_G} {cI cP cB cA : ClassId} {ad : Nat → Nat} {tL tC : Nat} {x1 : Int32} {x2 : Int32} {S : Stt} {res : Int32 × Stt} (hf : f_X8_deeds x1 x2 S = some res) : Ct l D cI cP cB cA 19 ad tL tC yX8_deeds cX8_deeds 7 (some .int) 8 [.ref (ad 0), .int x1, .int x2] (cfM ad cI S) (QI D 19 ad res.1 (cfM ad cI res.2)) := by
  refine ctOf (by decide) (Nat.le_of_ble_eq_true rfl) ?_
  intro p e s m args below meth c ls X hr hlk hP hl
  have hS : va_S (Ar 19 ad) s.heap s.heap [] := va_S.rf
  have hx := X.1.1
  have hb := X.1.2.1
  have hl : lv_has ls 7 [(0, .ref (ad 0)), (1, .int x1), (2, .int x2)] := hl
  unfold f_X8_deeds at hf
  refine lv_iload_n hx hb dX8_deeds_0 rfl (lv_at hl 2 rfl) ?_
  obtain ⟨q1, e2, hf⟩ := bind_some hf
  refine aftI hS (cS (rest := []) X hP hS [.int x2] (m_X8_isRow  e2) cw_X8_isRow tw_287 tw_545 (fits9 (by first | decide | omega) (by decide)) rfl rfl hl.1 (Nat.le_of_ble_eq_true rfl) dX8_deeds_1 ⟨Nat.zero_le _, Nat.zero_le _⟩) (fun H locs hP hS => ?_)
  refine lv_if_ne (tgt := 11) hx hb dX8_deeds_4 (by decide) (fun c3 => ?_) (fun c3 => ?_)
  · rw [if_neg c3] at hf
    refine lv_aload_n hx hb dX8_deeds_11 rfl (lv_at hl 0 rfl) ?_
    refine lv_iload_n hx hb dX8_deeds_12 rfl (lv_at hl 1 rfl) ?_
    refine lv_bipush (v := (8 : Int32)) hx hb dX8_deeds_13 (by decide) ?_
    obtain ⟨q4, e5, hf⟩ := bind_some hf
    refine aftI hS (cV (rest := []) X hP hS [.int x1, .int (8 : Int32)] (m_X8_askedDeeds  e5) cw_X8_askedDeeds tw_353 tw_610 tw_817 (by decide) (cf_M ) rfl (fits9 (by first | decide | omega) (by decide)) rfl rfl hl.1 (Nat.le_of_ble_eq_true rfl) dX8_deeds_15 ⟨Nat.zero_le _, Nat.zero_le _⟩) (fun H locs hP hS => ?_)
    exact vj_X8_deeds_18 X hr hlk _ _ _ _ _ _ ls hf  hP hS (lv_sub hl [0, 1, 2] rfl)
  · rw [if_pos c3] at hf
    refine lv_iconst (v := (-1 : Int32)) hx hb dX8_deeds_7 (by decide) ?_
    refine lv_goto (tgt := 18) hx hb dX8_deeds_8 (by decide) ?_
    exact vj_X8_deeds_18 X hr hlk _ _ _ _ _ _ ls hf  hP hS (lv_sub hl [0, 1, 2] rfl)
/-! X8_flip -/
section
variable {p : Program} {l : Launch} {e : Env} {s : State} {m : MethodId} {args : Array Value} {below : List Frame} {meth : Method} {c : Code}
variable {D : va_G} {cI cP cB cA : ClassId} {ad : Nat → Nat} {tL tC : Nat}
set_option maxHeartbeats 4000000 in
set_option maxRecDepth 100000 in
theorem vb_X8_flip_28 (X : Cx D cI cP cB cA 19 ad tL tC p s m c cX8_flip 5 args RX8) (hr : meth.sig.returnType = (some .int)) (hlk : meth.locks = false) {res : Int32 × Stt} (kb : Int32 → Int32 → Stt → Option (Int32 × Stt)) (ke : Stt → Option (Int32 × Stt)) (hkb : ∀ (x3 : Int32) (x4 : Int32) (S : Stt) (H : Heap) (locs : List Loc) (ls : Array Slot), kb x3 x4 S = some res → va_P D vwCl (wl 19 ad (cfM ad cI S)) H → va_S (Ar 19 ad) s.heap H locs → lv_has ls 5 [(0, .ref (ad 0)), (3, .int x3), (4, .int x4)] → W p l e (rmD 8) s m args below meth c H locs 0 0 (MQ below (QI D 19 ad res.1 (cfM ad cI res.2)) args s 0 0 (Ar 19 ad)) (F0 m 28 ls [])) (hke : ∀ (S : Stt) (H : Heap) (locs : List Loc) (ls : Array Slot), ke S = some res → va_P D vwCl (wl 19 ad (cfM ad cI S)) H → va_S (Ar 19 ad) s.heap H locs → lv_has ls 5 [] → W p l e (rmD 8) s m args below meth c H locs 0 0 (MQ below (QI D 19 ad res.1 (cfM ad cI res.2)) args s 0 0 (Ar 19 ad)) (F0 m 63 ls [])) : ∀ (x3 : Int32) (x4 : Int32) (S : Stt) (H : Heap) (locs : List Loc) (ls : Array Slot), fb_X8_flip_28 kb ke x3 x4 S = some res → va_P D vwCl (wl 19 ad (cfM ad cI S)) H → va_S (Ar 19 ad) s.heap H locs → lv_has ls 5 [(0, .ref (ad 0)), (3, .int x3), (4, .int x4)] → W p l e (rmD 8) s m args below meth c H locs 0 0 (MQ below (QI D 19 ad res.1 (cfM ad cI res.2)) args s 0 0 (Ar 19 ad)) (F0 m 28 ls []) := by
  intro x3 x4 S H locs ls hf hP hS hl
  have hx := X.1.1
  have hb := X.1.2.1
  unfold fb_X8_flip_28 at hf
  refine lv_iload hx hb dX8_flip_28 (lv_at hl 2 rfl) ?_
  refine lv_aload_n hx hb dX8_flip_30 rfl (lv_at hl 0 rfl) ?_
  refine g_M_many X hP  tw_86 dX8_flip_31 ?_
  refine lv_icmp_ge (tgt := 63) hx hb dX8_flip_34 (by decide) (fun c7 => ?_) (fun c7 => ?_)
  · rw [if_pos c7] at hf
    exact hke  _ _ _ ls hf  hP hS (lv_sub hl [] rfl)
  · rw [if_neg c7] at hf
    refine lv_iload_n hx hb dX8_flip_37 rfl (lv_at hl 1 rfl) ?_
    refine lv_bipush (v := (-9 : Int32)) hx hb dX8_flip_38 (by decide) ?_
    refine lv_icmp_eq (tgt := 63) hx hb dX8_flip_40 (by decide) (fun c8 => ?_) (fun c8 => ?_)
    · rw [if_pos c8] at hf
      exact hke  _ _ _ ls hf  hP hS (lv_sub hl [] rfl)
    · rw [if_neg c8] at hf
      refine lv_aload_n hx hb dX8_flip_43 rfl (lv_at hl 0 rfl) ?_
      refine g_M_days X hP  tw_92 dX8_flip_44 ?_
      refine lv_iload hx hb dX8_flip_47 (lv_at hl 2 rfl) ?_
      obtain ⟨g9, hf⟩ := grd_some hf
      refine r_m_days X hP  g9 dX8_flip_49 ?_
      refine lv_iload_n hx hb dX8_flip_50 rfl (lv_at hl 1 rfl) ?_
      refine lv_icmp_ne (tgt := 57) hx hb dX8_flip_51 (by decide) (fun c10 => ?_) (fun c10 => ?_)
      · rw [if_neg c10] at hf
        refine lv_iinc (v := (x4 + (1 : Int32))) (lv' := [(4, .int (x4 + (1 : Int32))), (0, .ref (ad 0)), (3, .int x3)]) hx hb dX8_flip_57 hl (k := 2) rfl rfl (by decide) rfl (fun ls hl => ?_)
        refine lv_goto (tgt := 28) hx hb dX8_flip_60 (by decide) ?_
        exact hkb _ _ _ _ _ ls hf  hP hS (lv_sub hl [1, 2, 0] rfl)
      · rw [if_pos c10] at hf
        refine lv_iload hx hb dX8_flip_54 (lv_at hl 2 rfl) ?_
        cases hf
        exact rtI X hr hlk hP hS dX8_flip_56
set_option maxHeartbeats 4000000 in
set_option maxRecDepth 100000 in
theorem vl_X8_flip_28 (X : Cx D cI cP cB cA 19 ad tL tC p s m c cX8_flip 5 args RX8) (hr : meth.sig.returnType = (some .int)) (hlk : meth.locks = false) {res : Int32 × Stt} (ke : Stt → Option (Int32 × Stt)) (hke : ∀ (S : Stt) (H : Heap) (locs : List Loc) (ls : Array Slot), ke S = some res → va_P D vwCl (wl 19 ad (cfM ad cI S)) H → va_S (Ar 19 ad) s.heap H locs → lv_has ls 5 [] → W p l e (rmD 8) s m args below meth c H locs 0 0 (MQ below (QI D 19 ad res.1 (cfM ad cI res.2)) args s 0 0 (Ar 19 ad)) (F0 m 63 ls [])) : ∀ (n : Nat), ∀ (x3 : Int32) (x4 : Int32) (S : Stt) (H : Heap) (locs : List Loc) (ls : Array Slot), fl_X8_flip_28 ke n x3 x4 S = some res → va_P D vwCl (wl 19 ad (cfM ad cI S)) H → va_S (Ar 19 ad) s.heap H locs → lv_has ls 5 [(0, .ref (ad 0)), (3, .int x3), (4, .int x4)] → W p l e (rmD 8) s m args below meth c H locs 0 0 (MQ below (QI D 19 ad res.1 (cfM ad cI res.2)) args s 0 0 (Ar 19 ad)) (F0 m 28 ls []) := by
  intro n
  induction n with
  | zero =>
    intro x3 x4 S H locs ls hf hP hS hl
    cases hf
  | succ n ih =>
    intro x3 x4 S H locs ls hf hP hS hl
    exact vb_X8_flip_28 X hr hlk _ ke ih hke x3 x4 S H locs ls hf  hP hS hl
end
set_option maxHeartbeats 4000000 in
set_option maxRecDepth 100000 in
theorem m_X8_flip {l : Launch} {D : va_G} {cI cP cB cA : ClassId} {ad : Nat → Nat} {tL tC : Nat} {x1 : Int32} {x2 : Int32} {S : Stt} {res : Int32 × Stt} (hf : f_X8_flip x1 x2 S = some res) : Ct l D cI cP cB cA 19 ad tL tC yX8_flip cX8_flip 5 (some .int) 8 [.ref (ad 0), .int x1, .int x2] (cfM ad cI S) (QI D 19 ad res.1 (cfM ad cI res.2)) := by
  refine ctOf (by decide) (Nat.le_of_ble_eq_true rfl) ?_
  intro p e s m args below meth c ls X hr hlk hP hl
  have hS : va_S (Ar 19 ad) s.heap s.heap [] := va_S.rf
  have hx := X.1.1
  have hb := X.1.2.1
  have hl : lv_has ls 5 [(0, .ref (ad 0)), (1, .int x1), (2, .int x2)] := hl
  unfold f_X8_flip at hf
  refine lv_iload_n hx hb dX8_flip_0 rfl (lv_at hl 1 rfl) ?_
  obtain ⟨q1, e2, hf⟩ := bind_some hf
  refine aftI hS (cS (rest := []) X hP hS [.int x1] (m_X8_isCase  e2) cw_X8_isCase tw_338 tw_595 (fits9 (by first | decide | omega) (by decide)) rfl rfl hl.1 (Nat.le_of_ble_eq_true rfl) dX8_flip_1 ⟨Nat.zero_le _, Nat.zero_le _⟩) (fun H locs hP hS => ?_)
  refine lv_if_eq (tgt := 11) hx hb dX8_flip_4 (by decide) (fun c3 => ?_) (fun c3 => ?_)
  · rw [if_pos c3] at hf
    refine lv_iconst (v := (-1 : Int32)) hx hb dX8_flip_11 (by decide) ?_
    cases hf
    exact rtI X hr hlk hP hS dX8_flip_12
  · rw [if_neg c3] at hf
    refine lv_iload_n hx hb dX8_flip_7 rfl (lv_at hl 2 rfl) ?_
    refine lv_if_ge (tgt := 13) hx hb dX8_flip_8 (by decide) (fun c4 => ?_) (fun c4 => ?_)
    · rw [if_pos c4] at hf
      refine lv_aload_n hx hb dX8_flip_13 rfl (lv_at hl 0 rfl) ?_
      refine lv_iload_n hx hb dX8_flip_14 rfl (lv_at hl 1 rfl) ?_
      refine lv_iload_n hx hb dX8_flip_15 rfl (lv_at hl 2 rfl) ?_
      obtain ⟨q5, e6, hf⟩ := bind_some hf
      refine aftI hS (cV (rest := []) X hP hS [.int x1, .int x2] (m_X8_flipsOf  e6) cw_X8_flipsOf tw_359 tw_616 tw_822 (by decide) (cf_M ) rfl (fits9 (by first | decide | omega) (by decide)) rfl rfl hl.1 (Nat.le_of_ble_eq_true rfl) dX8_flip_16 ⟨Nat.zero_le _, Nat.zero_le _⟩) (fun H locs hP hS => ?_)
      refine lv_pop hx hb dX8_flip_19 rfl ?_
      refine lv_aload_n hx hb dX8_flip_20 rfl (lv_at hl 0 rfl) ?_
      refine g_M_flipDay X hP  tw_102 dX8_flip_21 ?_
      refine lv_istore_n (lv' := [(3, .int (q5.2.1 0 26 0)), (0, .ref (ad 0)), (1, .int x1), (2, .int x2)]) hx hb dX8_flip_24 rfl hl (by decide) rfl (fun ls hl => ?_)
      refine lv_iconst (v := (0 : Int32)) hx hb dX8_flip_25 (by decide) ?_
      refine lv_istore (lv' := [(4, .int (0 : Int32)), (3, .int (q5.2.1 0 26 0)), (0, .ref (ad 0)), (1, .int x1), (2, .int x2)]) hx hb dX8_flip_26 hl (by decide) rfl (fun ls hl => ?_)
      refine vl_X8_flip_28 X hr hlk _ ?_ 300 _ _ _ _ _ ls hf  hP hS (lv_sub hl [2, 1, 0] rfl)
      intro S H locs ls hf hP hS hl
      refine lv_bipush (v := (-9 : Int32)) hx hb dX8_flip_63 (by decide) ?_
      cases hf
      exact rtI X hr hlk hP hS dX8_flip_65
    · rw [if_neg c4] at hf
      refine lv_iconst (v := (-1 : Int32)) hx hb dX8_flip_11 (by decide) ?_
      cases hf
      exact rtI X hr hlk hP hS dX8_flip_12
/-! X8_flips -/
section
variable {p : Program} {l : Launch} {e : Env} {s : State} {m : MethodId} {args : Array Value} {below : List Frame} {meth : Method} {c : Code}
variable {D : va_G} {cI cP cB cA : ClassId} {ad : Nat → Nat} {tL tC : Nat}
end
set_option maxHeartbeats 4000000 in
set_option maxRecDepth 100000 in
theorem m_X8_flips {l : Launch} {D : va_G} {cI cP cB cA : ClassId} {ad : Nat → Nat} {tL tC : Nat} {x1 : Int32} {S : Stt} {res : Int32 × Stt} (hf : f_X8_flips x1 S = some res) : Ct l D cI cP cB cA 19 ad tL tC yX8_flips cX8_flips 2 (some .int) 8 [.ref (ad 0), .int x1] (cfM ad cI S) (QI D 19 ad res.1 (cfM ad cI res.2)) := by
  refine ctOf (by decide) (Nat.le_of_ble_eq_true rfl) ?_
  intro p e s m args below meth c ls X hr hlk hP hl
  have hS : va_S (Ar 19 ad) s.heap s.heap [] := va_S.rf
  have hx := X.1.1
  have hb := X.1.2.1
  have hl : lv_has ls 2 [(0, .ref (ad 0)), (1, .int x1)] := hl
  unfold f_X8_flips at hf
  refine lv_iload_n hx hb dX8_flips_0 rfl (lv_at hl 1 rfl) ?_
  obtain ⟨q1, e2, hf⟩ := bind_some hf
  refine aftI hS (cS (rest := []) X hP hS [.int x1] (m_X8_isCase  e2) cw_X8_isCase tw_338 tw_595 (fits9 (by first | decide | omega) (by decide)) rfl rfl hl.1 (Nat.le_of_ble_eq_true rfl) dX8_flips_1 ⟨Nat.zero_le _, Nat.zero_le _⟩) (fun H locs hP hS => ?_)
  refine lv_if_eq (tgt := 17) hx hb dX8_flips_4 (by decide) (fun c3 => ?_) (fun c3 => ?_)
  · rw [if_pos c3] at hf
    refine lv_iconst (v := (-1 : Int32)) hx hb dX8_flips_17 (by decide) ?_
    cases hf
    exact rtI X hr hlk hP hS dX8_flips_18
  · rw [if_neg c3] at hf
    refine lv_aload_n hx hb dX8_flips_7 rfl (lv_at hl 0 rfl) ?_
    refine lv_iload_n hx hb dX8_flips_8 rfl (lv_at hl 1 rfl) ?_
    refine lv_bipush (v := (-9 : Int32)) hx hb dX8_flips_9 (by decide) ?_
    obtain ⟨q4, e5, hf⟩ := bind_some hf
    refine aftI hS (cV (rest := []) X hP hS [.int x1, .int (-9 : Int32)] (m_X8_flipsOf  e5) cw_X8_flipsOf tw_359 tw_616 tw_822 (by decide) (cf_M ) rfl (fits9 (by first | decide | omega) (by decide)) rfl rfl hl.1 (Nat.le_of_ble_eq_true rfl) dX8_flips_11 ⟨Nat.zero_le _, Nat.zero_le _⟩) (fun H locs hP hS => ?_)
    refine lv_goto (tgt := 18) hx hb dX8_flips_14 (by decide) ?_
    cases hf
    exact rtI X hr hlk hP hS dX8_flips_18
/-! X8_free -/
section
variable {p : Program} {l : Launch} {e : Env} {s : State} {m : MethodId} {args : Array Value} {below : List Frame} {meth : Method} {c : Code}
variable {D : va_G} {cI cP cB cA : ClassId} {ad : Nat → Nat} {tL tC : Nat}
end
set_option maxHeartbeats 4000000 in
set_option maxRecDepth 100000 in
theorem m_X8_free {l : Launch} {D : va_G} {cI cP cB cA : ClassId} {ad : Nat → Nat} {tL tC : Nat} {x1 : Int32} {x2 : Int32} {S : Stt} {res : Int32 × Stt} (hf : f_X8_free x1 x2 S = some res) : Ct l D cI cP cB cA 19 ad tL tC yX8_free cX8_free 3 (some .int) 8 [.ref (ad 0), .int x1, .int x2] (cfM ad cI S) (QI D 19 ad res.1 (cfM ad cI res.2)) := by
  refine ctOf (by decide) (Nat.le_of_ble_eq_true rfl) ?_
  intro p e s m args below meth c ls X hr hlk hP hl
  have hS : va_S (Ar 19 ad) s.heap s.heap [] := va_S.rf
  have hx := X.1.1
  have hb := X.1.2.1
  have hl : lv_has ls 3 [(0, .ref (ad 0)), (1, .int x1), (2, .int x2)] := hl
  unfold f_X8_free at hf
  refine lv_iload_n hx hb dX8_free_0 rfl (lv_at hl 1 rfl) ?_
  obtain ⟨q1, e2, hf⟩ := bind_some hf
  refine aftI hS (cS (rest := []) X hP hS [.int x1] (m_X8_isCase  e2) cw_X8_isCase tw_338 tw_595 (fits9 (by first | decide | omega) (by decide)) rfl rfl hl.1 (Nat.le_of_ble_eq_true rfl) dX8_free_1 ⟨Nat.zero_le _, Nat.zero_le _⟩) (fun H locs hP hS => ?_)
  refine lv_if_eq (tgt := 23) hx hb dX8_free_4 (by decide) (fun c3 => ?_) (fun c3 => ?_)
  · rw [if_pos c3] at hf
    refine lv_iconst (v := (-1 : Int32)) hx hb dX8_free_23 (by decide) ?_
    cases hf
    exact rtI X hr hlk hP hS dX8_free_24
  · rw [if_neg c3] at hf
    refine lv_iload_n hx hb dX8_free_7 rfl (lv_at hl 2 rfl) ?_
    obtain ⟨q4, e5, hf⟩ := bind_some hf
    refine aftI hS (cS (rest := []) X hP hS [.int x2] (m_X8_isDay  e5) cw_X8_isDay tw_317 tw_574 (fits9 (by first | decide | omega) (by decide)) rfl rfl hl.1 (Nat.le_of_ble_eq_true rfl) dX8_free_8 ⟨Nat.zero_le _, Nat.zero_le _⟩) (fun H locs hP hS => ?_)
    refine lv_if_eq (tgt := 23) hx hb dX8_free_11 (by decide) (fun c6 => ?_) (fun c6 => ?_)
    · rw [if_pos c6] at hf
      refine lv_iconst (v := (-1 : Int32)) hx hb dX8_free_23 (by decide) ?_
      cases hf
      exact rtI X hr hlk hP hS dX8_free_24
    · rw [if_neg c6] at hf
      refine lv_aload_n hx hb dX8_free_14 rfl (lv_at hl 0 rfl) ?_
      refine lv_iload_n hx hb dX8_free_15 rfl (lv_at hl 1 rfl) ?_
      refine lv_iload_n hx hb dX8_free_16 rfl (lv_at hl 2 rfl) ?_
      obtain ⟨q7, e8, hf⟩ := bind_some hf
      refine aftI hS (cV (rest := []) X hP hS [.int x1, .int x2] (m_X8_freeFrom  e8) cw_X8_freeFrom tw_351 tw_608 tw_815 (by decide) (cf_M ) rfl (fits9 (by first | decide | omega) (by decide)) rfl rfl hl.1 (Nat.le_of_ble_eq_true rfl) dX8_free_17 ⟨Nat.zero_le _, Nat.zero_le _⟩) (fun H locs hP hS => ?_)
      refine lv_goto (tgt := 24) hx hb dX8_free_20 (by decide) ?_
      cases hf
      exact rtI X hr hlk hP hS dX8_free_24
/-! X8_front -/
section
variable {p : Program} {l : Launch} {e : Env} {s : State} {m : MethodId} {args : Array Value} {below : List Frame} {meth : Method} {c : Code}
variable {D : va_G} {cI cP cB cA : ClassId} {ad : Nat → Nat} {tL tC : Nat}
set_option maxHeartbeats 4000000 in
set_option maxRecDepth 100000 in
theorem vb_X8_front_6 (X : Cx D cI cP cB cA 19 ad tL tC p s m c cX8_front 3 args RX8) (hr : meth.sig.returnType = (some .int)) (hlk : meth.locks = false) {res : Int32 × Stt} (kb : Int32 → Stt → Option (Int32 × Stt)) (ke : Stt → Option (Int32 × Stt)) (hkb : ∀ (x1 : Int32) (S : Stt) (H : Heap) (locs : List Loc) (ls : Array Slot), kb x1 S = some res → va_P D vwCl (wl 19 ad (cfM ad cI S)) H → va_S (Ar 19 ad) s.heap H locs → lv_has ls 3 [(0, .ref (ad 0)), (1, .int x1)] → W p l e (rmD 8) s m args below meth c H locs 0 0 (MQ below (QI D 19 ad res.1 (cfM ad cI res.2)) args s 0 0 (Ar 19 ad)) (F0 m 6 ls [])) (hke : ∀ (S : Stt) (H : Heap) (locs : List Loc) (ls : Array Slot), ke S = some res → va_P D vwCl (wl 19 ad (cfM ad cI S)) H → va_S (Ar 19 ad) s.heap H locs → lv_has ls 3 [(0, .ref (ad 0))] → W p l e (rmD 8) s m args below meth c H locs 0 0 (MQ below (QI D 19 ad res.1 (cfM ad cI res.2)) args s 0 0 (Ar 19 ad)) (F0 m 27 ls [])) : ∀ (x1 : Int32) (S : Stt) (H : Heap) (locs : List Loc) (ls : Array Slot), fb_X8_front_6 kb ke x1 S = some res → va_P D vwCl (wl 19 ad (cfM ad cI S)) H → va_S (Ar 19 ad) s.heap H locs → lv_has ls 3 [(0, .ref (ad 0)), (1, .int x1)] → W p l e (rmD 8) s m args below meth c H locs 0 0 (MQ below (QI D 19 ad res.1 (cfM ad cI res.2)) args s 0 0 (Ar 19 ad)) (F0 m 6 ls []) := by
  intro x1 S H locs ls hf hP hS hl
  have hx := X.1.1
  have hb := X.1.2.1
  unfold fb_X8_front_6 at hf
  refine lv_iload_n hx hb dX8_front_6 rfl (lv_at hl 1 rfl) ?_
  refine lv_aload_n hx hb dX8_front_7 rfl (lv_at hl 0 rfl) ?_
  refine g_M_many X hP  tw_86 dX8_front_8 ?_
  refine lv_icmp_ge (tgt := 27) hx hb dX8_front_11 (by decide) (fun c3 => ?_) (fun c3 => ?_)
  · rw [if_pos c3] at hf
    exact hke  _ _ _ ls hf  hP hS (lv_sub hl [0] rfl)
  · rw [if_neg c3] at hf
    refine lv_aload_n hx hb dX8_front_14 rfl (lv_at hl 0 rfl) ?_
    refine g_M_days X hP  tw_92 dX8_front_15 ?_
    refine lv_iload_n hx hb dX8_front_18 rfl (lv_at hl 1 rfl) ?_
    refine lv_iload_n hx hb dX8_front_19 rfl (lv_at hl 1 rfl) ?_
    obtain ⟨g4, hf⟩ := grd_some hf
    refine w_m_days X hP hS  g4 dX8_front_20 (fun H locs hP hS => ?_)
    refine lv_iinc (v := (x1 + (1 : Int32))) (lv' := [(1, .int (x1 + (1 : Int32))), (0, .ref (ad 0))]) hx hb dX8_front_21 hl (k := 1) rfl rfl (by decide) rfl (fun ls hl => ?_)
    refine lv_goto (tgt := 6) hx hb dX8_front_24 (by decide) ?_
    exact hkb _ _ _ _ ls hf  hP hS (lv_sub hl [1, 0] rfl)
set_option maxHeartbeats 4000000 in
set_option maxRecDepth 100000 in
theorem vl_X8_front_6 (X : Cx D cI cP cB cA 19 ad tL tC p s m c cX8_front 3 args RX8) (hr : meth.sig.returnType = (some .int)) (hlk : meth.locks = false) {res : Int32 × Stt} (ke : Stt → Option (Int32 × Stt)) (hke : ∀ (S : Stt) (H : Heap) (locs : List Loc) (ls : Array Slot), ke S = some res → va_P D vwCl (wl 19 ad (cfM ad cI S)) H → va_S (Ar 19 ad) s.heap H locs → lv_has ls 3 [(0, .ref (ad 0))] → W p l e (rmD 8) s m args below meth c H locs 0 0 (MQ below (QI D 19 ad res.1 (cfM ad cI res.2)) args s 0 0 (Ar 19 ad)) (F0 m 27 ls [])) : ∀ (n : Nat), ∀ (x1 : Int32) (S : Stt) (H : Heap) (locs : List Loc) (ls : Array Slot), fl_X8_front_6 ke n x1 S = some res → va_P D vwCl (wl 19 ad (cfM ad cI S)) H → va_S (Ar 19 ad) s.heap H locs → lv_has ls 3 [(0, .ref (ad 0)), (1, .int x1)] → W p l e (rmD 8) s m args below meth c H locs 0 0 (MQ below (QI D 19 ad res.1 (cfM ad cI res.2)) args s 0 0 (Ar 19 ad)) (F0 m 6 ls []) := by
  intro n
  induction n with
  | zero =>
    intro x1 S H locs ls hf hP hS hl
    cases hf
  | succ n ih =>
    intro x1 S H locs ls hf hP hS hl
    exact vb_X8_front_6 X hr hlk _ ke ih hke x1 S H locs ls hf  hP hS hl
set_option maxHeartbeats 4000000 in
set_option maxRecDepth 100000 in
theorem vb_X8_front_34 (X : Cx D cI cP cB cA 19 ad tL tC p s m c cX8_front 3 args RX8) (hr : meth.sig.returnType = (some .int)) (hlk : meth.locks = false) {res : Int32 × Stt} (kb : Int32 → Int32 → Stt → Option (Int32 × Stt)) (ke : Int32 → Stt → Option (Int32 × Stt)) (hkb : ∀ (x1 : Int32) (x2 : Int32) (S : Stt) (H : Heap) (locs : List Loc) (ls : Array Slot), kb x1 x2 S = some res → va_P D vwCl (wl 19 ad (cfM ad cI S)) H → va_S (Ar 19 ad) s.heap H locs → lv_has ls 3 [(0, .ref (ad 0)), (1, .int x1), (2, .int x2)] → W p l e (rmD 8) s m args below meth c H locs 0 0 (MQ below (QI D 19 ad res.1 (cfM ad cI res.2)) args s 0 0 (Ar 19 ad)) (F0 m 34 ls [])) (hke : ∀ (x1 : Int32) (S : Stt) (H : Heap) (locs : List Loc) (ls : Array Slot), ke x1 S = some res → va_P D vwCl (wl 19 ad (cfM ad cI S)) H → va_S (Ar 19 ad) s.heap H locs → lv_has ls 3 [(0, .ref (ad 0)), (1, .int x1)] → W p l e (rmD 8) s m args below meth c H locs 0 0 (MQ below (QI D 19 ad res.1 (cfM ad cI res.2)) args s 0 0 (Ar 19 ad)) (F0 m 62 ls [])) : ∀ (x1 : Int32) (x2 : Int32) (S : Stt) (H : Heap) (locs : List Loc) (ls : Array Slot), fb_X8_front_34 kb ke x1 x2 S = some res → va_P D vwCl (wl 19 ad (cfM ad cI S)) H → va_S (Ar 19 ad) s.heap H locs → lv_has ls 3 [(0, .ref (ad 0)), (1, .int x1), (2, .int x2)] → W p l e (rmD 8) s m args below meth c H locs 0 0 (MQ below (QI D 19 ad res.1 (cfM ad cI res.2)) args s 0 0 (Ar 19 ad)) (F0 m 34 ls []) := by
  intro x1 x2 S H locs ls hf hP hS hl
  have hx := X.1.1
  have hb := X.1.2.1
  unfold fb_X8_front_34 at hf
  refine lv_iload_n hx hb dX8_front_34 rfl (lv_at hl 2 rfl) ?_
  refine lv_aload_n hx hb dX8_front_35 rfl (lv_at hl 0 rfl) ?_
  refine g_M_many X hP  tw_86 dX8_front_36 ?_
  refine lv_icmp_ge (tgt := 62) hx hb dX8_front_39 (by decide) (fun c7 => ?_) (fun c7 => ?_)
  · rw [if_pos c7] at hf
    exact hke _ _ _ _ ls hf  hP hS (lv_sub hl [0, 1] rfl)
  · rw [if_neg c7] at hf
    refine lv_aload_n hx hb dX8_front_42 rfl (lv_at hl 0 rfl) ?_
    refine g_M_days X hP  tw_92 dX8_front_43 ?_
    refine lv_iload_n hx hb dX8_front_46 rfl (lv_at hl 2 rfl) ?_
    refine lv_aload_n hx hb dX8_front_47 rfl (lv_at hl 0 rfl) ?_
    refine g_M_many X hP  tw_86 dX8_front_48 ?_
    refine lv_iconst (v := (1 : Int32)) hx hb dX8_front_51 (by decide) ?_
    refine lv_isub hx hb dX8_front_52 ?_
    refine lv_iload_n hx hb dX8_front_53 rfl (lv_at hl 2 rfl) ?_
    refine lv_isub hx hb dX8_front_54 ?_
    obtain ⟨g8, hf⟩ := grd_some hf
    refine w_m_days X hP hS  g8 dX8_front_55 (fun H locs hP hS => ?_)
    refine lv_iinc (v := (x2 + (1 : Int32))) (lv' := [(2, .int (x2 + (1 : Int32))), (0, .ref (ad 0)), (1, .int x1)]) hx hb dX8_front_56 hl (k := 2) rfl rfl (by decide) rfl (fun ls hl => ?_)
    refine lv_goto (tgt := 34) hx hb dX8_front_59 (by decide) ?_
    exact hkb _ _ _ _ _ ls hf  hP hS (lv_sub hl [1, 2, 0] rfl)
set_option maxHeartbeats 4000000 in
set_option maxRecDepth 100000 in
theorem vl_X8_front_34 (X : Cx D cI cP cB cA 19 ad tL tC p s m c cX8_front 3 args RX8) (hr : meth.sig.returnType = (some .int)) (hlk : meth.locks = false) {res : Int32 × Stt} (ke : Int32 → Stt → Option (Int32 × Stt)) (hke : ∀ (x1 : Int32) (S : Stt) (H : Heap) (locs : List Loc) (ls : Array Slot), ke x1 S = some res → va_P D vwCl (wl 19 ad (cfM ad cI S)) H → va_S (Ar 19 ad) s.heap H locs → lv_has ls 3 [(0, .ref (ad 0)), (1, .int x1)] → W p l e (rmD 8) s m args below meth c H locs 0 0 (MQ below (QI D 19 ad res.1 (cfM ad cI res.2)) args s 0 0 (Ar 19 ad)) (F0 m 62 ls [])) : ∀ (n : Nat), ∀ (x1 : Int32) (x2 : Int32) (S : Stt) (H : Heap) (locs : List Loc) (ls : Array Slot), fl_X8_front_34 ke n x1 x2 S = some res → va_P D vwCl (wl 19 ad (cfM ad cI S)) H → va_S (Ar 19 ad) s.heap H locs → lv_has ls 3 [(0, .ref (ad 0)), (1, .int x1), (2, .int x2)] → W p l e (rmD 8) s m args below meth c H locs 0 0 (MQ below (QI D 19 ad res.1 (cfM ad cI res.2)) args s 0 0 (Ar 19 ad)) (F0 m 34 ls []) := by
  intro n
  induction n with
  | zero =>
    intro x1 x2 S H locs ls hf hP hS hl
    cases hf
  | succ n ih =>
    intro x1 x2 S H locs ls hf hP hS hl
    exact vb_X8_front_34 X hr hlk _ ke ih hke x1 x2 S H locs ls hf  hP hS hl
end
set_option maxHeartbeats 4000000 in
set_option maxRecDepth 100000 in
theorem m_X8_front {l : Launch} {D : va_G} {cI cP cB cA : ClassId} {ad : Nat → Nat} {tL tC : Nat} {S : Stt} {res : Int32 × Stt} (hf : f_X8_front  S = some res) : Ct l D cI cP cB cA 19 ad tL tC yX8_front cX8_front 3 (some .int) 8 [.ref (ad 0)] (cfM ad cI S) (QI D 19 ad res.1 (cfM ad cI res.2)) := by
  refine ctOf (by decide) (Nat.le_of_ble_eq_true rfl) ?_
  intro p e s m args below meth c ls X hr hlk hP hl
  have hS : va_S (Ar 19 ad) s.heap s.heap [] := va_S.rf
  have hx := X.1.1
  have hb := X.1.2.1
  have hl : lv_has ls 3 [(0, .ref (ad 0))] := hl
  unfold f_X8_front at hf
  refine lv_aload_n hx hb dX8_front_0 rfl (lv_at hl 0 rfl) ?_
  obtain ⟨q1, e2, hf⟩ := bind_some hf
  refine aftV hS (cV (rest := []) X hP hS [] (m_X8_putAside  e2) cw_X8_putAside tw_364 tw_621 tw_827 (by decide) (cf_M ) rfl (fits9 (by first | decide | omega) (by decide)) rfl rfl hl.1 (Nat.le_of_ble_eq_true rfl) dX8_front_1 ⟨Nat.zero_le _, Nat.zero_le _⟩) (fun H locs hP hS => ?_)
  refine lv_iconst (v := (0 : Int32)) hx hb dX8_front_4 (by decide) ?_
  refine lv_istore_n (lv' := [(1, .int (0 : Int32)), (0, .ref (ad 0))]) hx hb dX8_front_5 rfl hl (by decide) rfl (fun ls hl => ?_)
  refine vl_X8_front_6 X hr hlk _ ?_ 300 _ _ _ _ ls hf  hP hS (lv_sub hl [1, 0] rfl)
  intro S H locs ls hf hP hS hl
  refine lv_aload_n hx hb dX8_front_27 rfl (lv_at hl 0 rfl) ?_
  obtain ⟨q5, e6, hf⟩ := bind_some hf
  refine aftI hS (cV (rest := []) X hP hS [] (m_X8_allWaits  e6) cw_X8_allWaits tw_349 tw_606 tw_813 (by decide) (cf_M ) rfl (fits9 (by first | decide | omega) (by decide)) rfl rfl hl.1 (Nat.le_of_ble_eq_true rfl) dX8_front_28 ⟨Nat.zero_le _, Nat.zero_le _⟩) (fun H locs hP hS => ?_)
  refine lv_istore_n (lv' := [(1, .int q5.1), (0, .ref (ad 0))]) hx hb dX8_front_31 rfl hl (by decide) rfl (fun ls hl => ?_)
  refine lv_iconst (v := (0 : Int32)) hx hb dX8_front_32 (by decide) ?_
  refine lv_istore_n (lv' := [(2, .int (0 : Int32)), (1, .int q5.1), (0, .ref (ad 0))]) hx hb dX8_front_33 rfl hl (by decide) rfl (fun ls hl => ?_)
  refine vl_X8_front_34 X hr hlk _ ?_ 300 _ _ _ _ _ ls hf  hP hS (lv_sub hl [2, 1, 0] rfl)
  intro x1 S H locs ls hf hP hS hl
  refine lv_aload_n hx hb dX8_front_62 rfl (lv_at hl 0 rfl) ?_
  obtain ⟨q9, e10, hf⟩ := bind_some hf
  refine aftI hS (cV (rest := []) X hP hS [] (m_X8_allWaits  e10) cw_X8_allWaits tw_349 tw_606 tw_813 (by decide) (cf_M ) rfl (fits9 (by first | decide | omega) (by decide)) rfl rfl hl.1 (Nat.le_of_ble_eq_true rfl) dX8_front_63 ⟨Nat.zero_le _, Nat.zero_le _⟩) (fun H locs hP hS => ?_)
  refine lv_istore_n (lv' := [(2, .int q9.1), (0, .ref (ad 0)), (1, .int x1)]) hx hb dX8_front_66 rfl hl (by decide) rfl (fun ls hl => ?_)
  refine lv_aload_n hx hb dX8_front_67 rfl (lv_at hl 1 rfl) ?_
  obtain ⟨q11, e12, hf⟩ := bind_some hf
  refine aftV hS (cV (rest := []) X hP hS [] (m_X8_comeBack  e12) cw_X8_comeBack tw_366 tw_623 tw_828 (by decide) (cf_M ) rfl (fits9 (by first | decide | omega) (by decide)) rfl rfl hl.1 (Nat.le_of_ble_eq_true rfl) dX8_front_68 ⟨Nat.zero_le _, Nat.zero_le _⟩) (fun H locs hP hS => ?_)
  refine lv_aload_n hx hb dX8_front_71 rfl (lv_at hl 1 rfl) ?_
  refine lv_iload_n hx hb dX8_front_72 rfl (lv_at hl 0 rfl) ?_
  refine lv_iload_n hx hb dX8_front_73 rfl (lv_at hl 2 rfl) ?_
  obtain ⟨q13, e14, hf⟩ := bind_some hf
  refine aftI hS (cV (rest := []) X hP hS [.int q9.1, .int x1] (m_X8_ask  e14) cw_X8_ask tw_294 tw_552 tw_763 (by decide) (cf_M ) rfl (fits9 (by first | decide | omega) (by decide)) rfl rfl hl.1 (Nat.le_of_ble_eq_true rfl) dX8_front_74 ⟨Nat.zero_le _, Nat.zero_le _⟩) (fun H locs hP hS => ?_)
  cases hf
  exact rtI X hr hlk hP hS dX8_front_77
/-! X8_most -/
section
variable {p : Program} {l : Launch} {e : Env} {s : State} {m : MethodId} {args : Array Value} {below : List Frame} {meth : Method} {c : Code}
variable {D : va_G} {cI cP cB cA : ClassId} {ad : Nat → Nat} {tL tC : Nat}
set_option maxHeartbeats 4000000 in
set_option maxRecDepth 100000 in
theorem vj_X8_most_32_6 (X : Cx D cI cP cB cA 19 ad tL tC p s m c cX8_most 5 args RX8) (hr : meth.sig.returnType = (some .int)) (hlk : meth.locks = false) {res : Int32 × Stt} (kb : Int32 → Int32 → Int32 → Stt → Option (Int32 × Stt)) (ke : Int32 → Int32 → Stt → Option (Int32 × Stt)) (hkb : ∀ (x1 : Int32) (x2 : Int32) (x3 : Int32) (S : Stt) (H : Heap) (locs : List Loc) (ls : Array Slot), kb x1 x2 x3 S = some res → va_P D vwCl (wl 19 ad (cfM ad cI S)) H → va_S (Ar 19 ad) s.heap H locs → lv_has ls 5 [(0, .ref (ad 0)), (1, .int x1), (2, .int x2), (3, .int x3)] → W p l e (rmD 8) s m args below meth c H locs 0 0 (MQ below (QI D 19 ad res.1 (cfM ad cI res.2)) args s 0 0 (Ar 19 ad)) (F0 m 6 ls [])) (hke : ∀ (x1 : Int32) (x2 : Int32) (S : Stt) (H : Heap) (locs : List Loc) (ls : Array Slot), ke x1 x2 S = some res → va_P D vwCl (wl 19 ad (cfM ad cI S)) H → va_S (Ar 19 ad) s.heap H locs → lv_has ls 5 [(0, .ref (ad 0)), (1, .int x1), (2, .int x2)] → W p l e (rmD 8) s m args below meth c H locs 0 0 (MQ below (QI D 19 ad res.1 (cfM ad cI res.2)) args s 0 0 (Ar 19 ad)) (F0 m 52 ls [])) : ∀ (x2 : Int32) (x3 : Int32) (x4 : Int32) (xt0 : Int32) (S : Stt) (H : Heap) (locs : List Loc) (ls : Array Slot), fj_X8_most_32_6 kb ke x2 x3 x4 xt0 S = some res → va_P D vwCl (wl 19 ad (cfM ad cI S)) H → va_S (Ar 19 ad) s.heap H locs → lv_has ls 5 [(0, .ref (ad 0)), (2, .int x2), (3, .int x3), (4, .int x4)] → W p l e (rmD 8) s m args below meth c H locs 0 0 (MQ below (QI D 19 ad res.1 (cfM ad cI res.2)) args s 0 0 (Ar 19 ad)) (F0 m 32 ls [.int xt0]) := by
  intro x2 x3 x4 xt0 S H locs ls hf hP hS hl
  have hx := X.1.1
  have hb := X.1.2.1
  unfold fj_X8_most_32_6 at hf
  refine lv_istore_n (lv' := [(1, .int xt0), (0, .ref (ad 0)), (2, .int x2), (3, .int x3), (4, .int x4)]) hx hb dX8_most_32 rfl hl (by decide) rfl (fun ls hl => ?_)
  refine lv_iload hx hb dX8_most_33 (lv_at hl 4 rfl) ?_
  refine lv_iload_n hx hb dX8_most_35 rfl (lv_at hl 2 rfl) ?_
  refine lv_icmp_le (tgt := 44) hx hb dX8_most_36 (by decide) (fun c5 => ?_) (fun c5 => ?_)
  · rw [if_pos c5] at hf
    refine lv_iload_n hx hb dX8_most_44 rfl (lv_at hl 2 rfl) ?_
    refine lv_istore_n (lv' := [(2, .int x2), (1, .int xt0), (0, .ref (ad 0)), (3, .int x3), (4, .int x4)]) hx hb dX8_most_45 rfl hl (by decide) rfl (fun ls hl => ?_)
    refine lv_iinc (v := (x3 + (1 : Int32))) (lv' := [(3, .int (x3 + (1 : Int32))), (2, .int x2), (1, .int xt0), (0, .ref (ad 0)), (4, .int x4)]) hx hb dX8_most_46 hl (k := 3) rfl rfl (by decide) rfl (fun ls hl => ?_)
    refine lv_goto (tgt := 6) hx hb dX8_most_49 (by decide) ?_
    exact hkb _ _ _ _ _ _ ls hf  hP hS (lv_sub hl [3, 2, 1, 0] rfl)
  · rw [if_neg c5] at hf
    refine lv_iload hx hb dX8_most_39 (lv_at hl 4 rfl) ?_
    refine lv_goto (tgt := 45) hx hb dX8_most_41 (by decide) ?_
    refine lv_istore_n (lv' := [(2, .int x4), (1, .int xt0), (0, .ref (ad 0)), (3, .int x3), (4, .int x4)]) hx hb dX8_most_45 rfl hl (by decide) rfl (fun ls hl => ?_)
    refine lv_iinc (v := (x3 + (1 : Int32))) (lv' := [(3, .int (x3 + (1 : Int32))), (2, .int x4), (1, .int xt0), (0, .ref (ad 0)), (4, .int x4)]) hx hb dX8_most_46 hl (k := 3) rfl rfl (by decide) rfl (fun ls hl => ?_)
    refine lv_goto (tgt := 6) hx hb dX8_most_49 (by decide) ?_
    exact hkb _ _ _ _ _ _ ls hf  hP hS (lv_sub hl [3, 2, 1, 0] rfl)
set_option maxHeartbeats 4000000 in
set_option maxRecDepth 100000 in
theorem vb_X8_most_6 (X : Cx D cI cP cB cA 19 ad tL tC p s m c cX8_most 5 args RX8) (hr : meth.sig.returnType = (some .int)) (hlk : meth.locks = false) {res : Int32 × Stt} (kb : Int32 → Int32 → Int32 → Stt → Option (Int32 × Stt)) (ke : Int32 → Int32 → Stt → Option (Int32 × Stt)) (hkb : ∀ (x1 : Int32) (x2 : Int32) (x3 : Int32) (S : Stt) (H : Heap) (locs : List Loc) (ls : Array Slot), kb x1 x2 x3 S = some res → va_P D vwCl (wl 19 ad (cfM ad cI S)) H → va_S (Ar 19 ad) s.heap H locs → lv_has ls 5 [(0, .ref (ad 0)), (1, .int x1), (2, .int x2), (3, .int x3)] → W p l e (rmD 8) s m args below meth c H locs 0 0 (MQ below (QI D 19 ad res.1 (cfM ad cI res.2)) args s 0 0 (Ar 19 ad)) (F0 m 6 ls [])) (hke : ∀ (x1 : Int32) (x2 : Int32) (S : Stt) (H : Heap) (locs : List Loc) (ls : Array Slot), ke x1 x2 S = some res → va_P D vwCl (wl 19 ad (cfM ad cI S)) H → va_S (Ar 19 ad) s.heap H locs → lv_has ls 5 [(0, .ref (ad 0)), (1, .int x1), (2, .int x2)] → W p l e (rmD 8) s m args below meth c H locs 0 0 (MQ below (QI D 19 ad res.1 (cfM ad cI res.2)) args s 0 0 (Ar 19 ad)) (F0 m 52 ls [])) : ∀ (x1 : Int32) (x2 : Int32) (x3 : Int32) (S : Stt) (H : Heap) (locs : List Loc) (ls : Array Slot), fb_X8_most_6 kb ke x1 x2 x3 S = some res → va_P D vwCl (wl 19 ad (cfM ad cI S)) H → va_S (Ar 19 ad) s.heap H locs → lv_has ls 5 [(0, .ref (ad 0)), (1, .int x1), (2, .int x2), (3, .int x3)] → W p l e (rmD 8) s m args below meth c H locs 0 0 (MQ below (QI D 19 ad res.1 (cfM ad cI res.2)) args s 0 0 (Ar 19 ad)) (F0 m 6 ls []) := by
  intro x1 x2 x3 S H locs ls hf hP hS hl
  have hx := X.1.1
  have hb := X.1.2.1
  unfold fb_X8_most_6 at hf
  refine lv_iload_n hx hb dX8_most_6 rfl (lv_at hl 3 rfl) ?_
  refine lv_bipush (v := (32 : Int32)) hx hb dX8_most_7 (by decide) ?_
  refine lv_icmp_ge (tgt := 52) hx hb dX8_most_9 (by decide) (fun c1 => ?_) (fun c1 => ?_)
  · rw [if_pos c1] at hf
    exact hke _ _ _ _ _ ls hf  hP hS (lv_sub hl [0, 1, 2] rfl)
  · rw [if_neg c1] at hf
    refine lv_aload_n hx hb dX8_most_12 rfl (lv_at hl 0 rfl) ?_
    refine lv_iload_n hx hb dX8_most_13 rfl (lv_at hl 3 rfl) ?_
    refine lv_bipush (v := (-9 : Int32)) hx hb dX8_most_14 (by decide) ?_
    obtain ⟨q2, e3, hf⟩ := bind_some hf
    refine aftI hS (cV (rest := []) X hP hS [.int x3, .int (-9 : Int32)] (m_X8_flipsOf  e3) cw_X8_flipsOf tw_359 tw_616 tw_822 (by decide) (cf_M ) rfl (fits9 (by first | decide | omega) (by decide)) rfl rfl hl.1 (Nat.le_of_ble_eq_true rfl) dX8_most_16 ⟨Nat.zero_le _, Nat.zero_le _⟩) (fun H locs hP hS => ?_)
    refine lv_istore (lv' := [(4, .int q2.1), (0, .ref (ad 0)), (1, .int x1), (2, .int x2), (3, .int x3)]) hx hb dX8_most_19 hl (by decide) rfl (fun ls hl => ?_)
    refine lv_iload hx hb dX8_most_21 (lv_at hl 0 rfl) ?_
    refine lv_iload_n hx hb dX8_most_23 rfl (lv_at hl 3 rfl) ?_
    refine lv_icmp_le (tgt := 31) hx hb dX8_most_24 (by decide) (fun c4 => ?_) (fun c4 => ?_)
    · rw [if_pos c4] at hf
      refine lv_iload_n hx hb dX8_most_31 rfl (lv_at hl 2 rfl) ?_
      exact vj_X8_most_32_6 X hr hlk _ _ hkb hke _ _ _ _ _ _ _ ls hf  hP hS (lv_sub hl [1, 3, 4, 0] rfl)
    · rw [if_neg c4] at hf
      refine lv_iload_n hx hb dX8_most_27 rfl (lv_at hl 4 rfl) ?_
      refine lv_goto (tgt := 32) hx hb dX8_most_28 (by decide) ?_
      exact vj_X8_most_32_6 X hr hlk _ _ hkb hke _ _ _ _ _ _ _ ls hf  hP hS (lv_sub hl [1, 3, 4, 0] rfl)
set_option maxHeartbeats 4000000 in
set_option maxRecDepth 100000 in
theorem vl_X8_most_6 (X : Cx D cI cP cB cA 19 ad tL tC p s m c cX8_most 5 args RX8) (hr : meth.sig.returnType = (some .int)) (hlk : meth.locks = false) {res : Int32 × Stt} (ke : Int32 → Int32 → Stt → Option (Int32 × Stt)) (hke : ∀ (x1 : Int32) (x2 : Int32) (S : Stt) (H : Heap) (locs : List Loc) (ls : Array Slot), ke x1 x2 S = some res → va_P D vwCl (wl 19 ad (cfM ad cI S)) H → va_S (Ar 19 ad) s.heap H locs → lv_has ls 5 [(0, .ref (ad 0)), (1, .int x1), (2, .int x2)] → W p l e (rmD 8) s m args below meth c H locs 0 0 (MQ below (QI D 19 ad res.1 (cfM ad cI res.2)) args s 0 0 (Ar 19 ad)) (F0 m 52 ls [])) : ∀ (n : Nat), ∀ (x1 : Int32) (x2 : Int32) (x3 : Int32) (S : Stt) (H : Heap) (locs : List Loc) (ls : Array Slot), fl_X8_most_6 ke n x1 x2 x3 S = some res → va_P D vwCl (wl 19 ad (cfM ad cI S)) H → va_S (Ar 19 ad) s.heap H locs → lv_has ls 5 [(0, .ref (ad 0)), (1, .int x1), (2, .int x2), (3, .int x3)] → W p l e (rmD 8) s m args below meth c H locs 0 0 (MQ below (QI D 19 ad res.1 (cfM ad cI res.2)) args s 0 0 (Ar 19 ad)) (F0 m 6 ls []) := by
  intro n
  induction n with
  | zero =>
    intro x1 x2 x3 S H locs ls hf hP hS hl
    cases hf
  | succ n ih =>
    intro x1 x2 x3 S H locs ls hf hP hS hl
    exact vb_X8_most_6 X hr hlk _ ke ih hke x1 x2 x3 S H locs ls hf  hP hS hl
end
set_option maxHeartbeats 4000000 in
set_option maxRecDepth 100000 in
theorem m_X8_most {l : Launch} {D : va_G} {cI cP cB cA : ClassId} {ad : Nat → Nat} {tL tC : Nat} {S : Stt} {res : Int32 × Stt} (hf : f_X8_most  S = some res) : Ct l D cI cP cB cA 19 ad tL tC yX8_most cX8_most 5 (some .int) 8 [.ref (ad 0)] (cfM ad cI S) (QI D 19 ad res.1 (cfM ad cI res.2)) := by
  refine ctOf (by decide) (Nat.le_of_ble_eq_true rfl) ?_
  intro p e s m args below meth c ls X hr hlk hP hl
  have hS : va_S (Ar 19 ad) s.heap s.heap [] := va_S.rf
  have hx := X.1.1
  have hb := X.1.2.1
  have hl : lv_has ls 5 [(0, .ref (ad 0))] := hl
  unfold f_X8_most at hf
  refine lv_iconst (v := (0 : Int32)) hx hb dX8_most_0 (by decide) ?_
  refine lv_istore_n (lv' := [(1, .int (0 : Int32)), (0, .ref (ad 0))]) hx hb dX8_most_1 rfl hl (by decide) rfl (fun ls hl => ?_)
  refine lv_iconst (v := (0 : Int32)) hx hb dX8_most_2 (by decide) ?_
  refine lv_istore_n (lv' := [(2, .int (0 : Int32)), (1, .int (0 : Int32)), (0, .ref (ad 0))]) hx hb dX8_most_3 rfl hl (by decide) rfl (fun ls hl => ?_)
  refine lv_iconst (v := (0 : Int32)) hx hb dX8_most_4 (by decide) ?_
  refine lv_istore_n (lv' := [(3, .int (0 : Int32)), (2, .int (0 : Int32)), (1, .int (0 : Int32)), (0, .ref (ad 0))]) hx hb dX8_most_5 rfl hl (by decide) rfl (fun ls hl => ?_)
  refine vl_X8_most_6 X hr hlk _ ?_ 300 _ _ _ _ _ _ ls hf  hP hS (lv_sub hl [3, 2, 1, 0] rfl)
  intro x1 x2 S H locs ls hf hP hS hl
  refine lv_aload_n hx hb dX8_most_52 rfl (lv_at hl 0 rfl) ?_
  refine lv_iload_n hx hb dX8_most_53 rfl (lv_at hl 2 rfl) ?_
  refine lv_iload_n hx hb dX8_most_54 rfl (lv_at hl 1 rfl) ?_
  obtain ⟨q6, e7, hf⟩ := bind_some hf
  refine aftI hS (cV (rest := []) X hP hS [.int x2, .int x1] (m_X8_ask  e7) cw_X8_ask tw_294 tw_552 tw_763 (by decide) (cf_M ) rfl (fits9 (by first | decide | omega) (by decide)) rfl rfl hl.1 (Nat.le_of_ble_eq_true rfl) dX8_most_55 ⟨Nat.zero_le _, Nat.zero_le _⟩) (fun H locs hP hS => ?_)
  cases hf
  exact rtI X hr hlk hP hS dX8_most_58
/-! X4_tryFrom -/
section
variable {p : Program} {l : Launch} {e : Env} {s : State} {m : MethodId} {args : Array Value} {below : List Frame} {meth : Method} {c : Code}
variable {D : va_G} {cI cP cB cA : ClassId} {ad : Nat → Nat} {tL tC : Nat}
set_option maxHeartbeats 4000000 in
set_option maxRecDepth 100000 in
theorem vb_X4_tryFrom_3 (X : Cx D cI cP cB cA 79 ad tL tC p s m c cX4_tryFrom 6 args RX4) (hr : meth.sig.returnType = none) (hlk : meth.locks = false) {res : Stt} {fr : Int32 → Int32 → Int32 → Stt → Option (Stt)} {dd : Nat} (hdd : 2 ≤ dd) (hfr : ∀  {x1 : Int32} {x2 : Int32} {x3 : Int32} {S : Stt} {res : Stt}, fr x1 x2 x3 S = some res → Ct l D cI cP cB cA 79 ad tL tC yX4_tryFrom cX4_tryFrom 6 none dd [.ref (ad 9), .int x1, .int x2, .int x3] (cfC ad cI cP cB cA S) (QV D 79 ad (cfC ad cI cP cB cA res))) (kb : Int32 → Int32 → Int32 → Int32 → Stt → Option (Stt)) (ke : Stt → Option (Stt)) (hkb : ∀ (x1 : Int32) (x2 : Int32) (x3 : Int32) (x4 : Int32) (S : Stt) (H : Heap) (locs : List Loc) (ls : Array Slot), kb x1 x2 x3 x4 S = some res → va_P D vwCl (wl 79 ad (cfC ad cI cP cB cA S)) H → va_S (Ar 79 ad) s.heap H locs → lv_has ls 6 [(0, .ref (ad 9)), (1, .int x1), (2, .int x2), (3, .int x3), (4, .int x4)] → W p l e (rmD (dd + 1)) s m args below meth c H locs 0 0 (MQ below (QV D 79 ad (cfC ad cI cP cB cA res)) args s 0 0 (Ar 79 ad)) (F0 m 3 ls [])) (hke : ∀ (S : Stt) (H : Heap) (locs : List Loc) (ls : Array Slot), ke S = some res → va_P D vwCl (wl 79 ad (cfC ad cI cP cB cA S)) H → va_S (Ar 79 ad) s.heap H locs → lv_has ls 6 [] → W p l e (rmD (dd + 1)) s m args below meth c H locs 0 0 (MQ below (QV D 79 ad (cfC ad cI cP cB cA res)) args s 0 0 (Ar 79 ad)) (F0 m 127 ls [])) : ∀ (x1 : Int32) (x2 : Int32) (x3 : Int32) (x4 : Int32) (S : Stt) (H : Heap) (locs : List Loc) (ls : Array Slot), fb_X4_tryFrom_3 fr kb ke x1 x2 x3 x4 S = some res → va_P D vwCl (wl 79 ad (cfC ad cI cP cB cA S)) H → va_S (Ar 79 ad) s.heap H locs → lv_has ls 6 [(0, .ref (ad 9)), (1, .int x1), (2, .int x2), (3, .int x3), (4, .int x4)] → W p l e (rmD (dd + 1)) s m args below meth c H locs 0 0 (MQ below (QV D 79 ad (cfC ad cI cP cB cA res)) args s 0 0 (Ar 79 ad)) (F0 m 3 ls []) := by
  intro x1 x2 x3 x4 S H locs ls hf hP hS hl
  have hx := X.1.1
  have hb := X.1.2.1
  unfold fb_X4_tryFrom_3 at hf
  refine lv_iload hx hb dX4_tryFrom_3 (lv_at hl 4 rfl) ?_
  refine lv_aload_n hx hb dX4_tryFrom_5 rfl (lv_at hl 0 rfl) ?_
  refine g_Planner_size X hP  tw_49 dX4_tryFrom_6 ?_
  refine lv_icmp_ge (tgt := 127) hx hb dX4_tryFrom_9 (by decide) (fun c1 => ?_) (fun c1 => ?_)
  · rw [if_pos c1] at hf
    exact hke  _ _ _ ls hf  hP hS (lv_sub hl [] rfl)
  · rw [if_neg c1] at hf
    refine lv_iload_n hx hb dX4_tryFrom_12 rfl (lv_at hl 1 rfl) ?_
    refine lv_aload_n hx hb dX4_tryFrom_13 rfl (lv_at hl 0 rfl) ?_
    refine g_Planner_size X hP  tw_49 dX4_tryFrom_14 ?_
    refine lv_icmp_ge (tgt := 127) hx hb dX4_tryFrom_17 (by decide) (fun c2 => ?_) (fun c2 => ?_)
    · rw [if_pos c2] at hf
      exact hke  _ _ _ ls hf  hP hS (lv_sub hl [] rfl)
    · rw [if_neg c2] at hf
      refine lv_iload_n hx hb dX4_tryFrom_20 rfl (lv_at hl 2 rfl) ?_
      refine lv_iload hx hb dX4_tryFrom_21 (lv_at hl 4 rfl) ?_
      obtain ⟨q3, e4, hf⟩ := bind_some hf
      refine aftI hS (cSN (rest := []) X hP hS [.int x2, .int x4] (m_X7_hasBit  e4) cw_X7_hasBit tw_235 tw_435 (fits9 (by first | decide | omega) (by decide)) rfl rfl hl.1 (Nat.le_of_ble_eq_true rfl) dX4_tryFrom_23 ⟨Nat.zero_le _, Nat.zero_le _⟩) (fun H locs hP hS => ?_)
      refine lv_if_eq (tgt := 32) hx hb dX4_tryFrom_26 (by decide) (fun c5 => ?_) (fun c5 => ?_)
      · rw [if_pos c5] at hf
        refine lv_aload_n hx hb dX4_tryFrom_32 rfl (lv_at hl 0 rfl) ?_
        refine lv_iload hx hb dX4_tryFrom_33 (lv_at hl 4 rfl) ?_
        refine lv_iload_n hx hb dX4_tryFrom_35 rfl (lv_at hl 3 rfl) ?_
        obtain ⟨q6, e7, hf⟩ := bind_some hf
        refine aftI hS (cV (rest := []) X hP hS [.int x4, .int x3] (m_X4_firstClear  e7) cw_X4_firstClear tw_234 tw_497 tw_682 (by decide) (cf_Planner ) rfl (fits9 (by first | decide | omega) (by decide)) rfl rfl hl.1 (Nat.le_of_ble_eq_true rfl) dX4_tryFrom_36 ⟨Nat.zero_le _, Nat.zero_le _⟩) (fun H locs hP hS => ?_)
        refine lv_istore (lv' := [(5, .int q6.1), (0, .ref (ad 9)), (1, .int x1), (2, .int x2), (3, .int x3), (4, .int x4)]) hx hb dX4_tryFrom_39 hl (by decide) rfl (fun ls hl => ?_)
        refine lv_iload hx hb dX4_tryFrom_41 (lv_at hl 0 rfl) ?_
        refine lv_bipush (v := (-9 : Int32)) hx hb dX4_tryFrom_43 (by decide) ?_
        refine lv_icmp_eq (tgt := 121) hx hb dX4_tryFrom_45 (by decide) (fun c8 => ?_) (fun c8 => ?_)
        · rw [if_pos c8] at hf
          refine lv_iinc (v := (x4 + (1 : Int32))) (lv' := [(4, .int (x4 + (1 : Int32))), (5, .int q6.1), (0, .ref (ad 9)), (1, .int x1), (2, .int x2), (3, .int x3)]) hx hb dX4_tryFrom_121 hl (k := 5) rfl rfl (by decide) rfl (fun ls hl => ?_)
          refine lv_goto (tgt := 3) hx hb dX4_tryFrom_124 (by decide) ?_
          exact hkb _ _ _ _ _ _ _ ls hf  hP hS (lv_sub hl [2, 3, 4, 5, 0] rfl)
        · rw [if_neg c8] at hf
          refine lv_iload hx hb dX4_tryFrom_48 (lv_at hl 0 rfl) ?_
          refine lv_aload_n hx hb dX4_tryFrom_50 rfl (lv_at hl 1 rfl) ?_
          refine g_Planner_soonest X hP  tw_53 dX4_tryFrom_51 ?_
          refine lv_icmp_lt (tgt := 60) hx hb dX4_tryFrom_54 (by decide) (fun c9 => ?_) (fun c9 => ?_)
          · rw [if_pos c9] at hf
            refine lv_aload_n hx hb dX4_tryFrom_60 rfl (lv_at hl 1 rfl) ?_
            refine g_Planner_tried X hP  tw_51 dX4_tryFrom_61 ?_
            refine lv_iload_n hx hb dX4_tryFrom_64 rfl (lv_at hl 2 rfl) ?_
            refine lv_iload hx hb dX4_tryFrom_65 (lv_at hl 5 rfl) ?_
            obtain ⟨g10, hf⟩ := grd_some hf
            refine w_ptried X hP hS  g10 dX4_tryFrom_67 (fun H locs hP hS => ?_)
            refine lv_iload_n hx hb dX4_tryFrom_68 rfl (lv_at hl 2 rfl) ?_
            refine lv_iconst (v := (1 : Int32)) hx hb dX4_tryFrom_69 (by decide) ?_
            refine lv_iadd hx hb dX4_tryFrom_70 ?_
            refine lv_aload_n hx hb dX4_tryFrom_71 rfl (lv_at hl 1 rfl) ?_
            refine g_Planner_size X hP  tw_49 dX4_tryFrom_72 ?_
            refine lv_icmp_ge (tgt := 98) hx hb dX4_tryFrom_75 (by decide) (fun c11 => ?_) (fun c11 => ?_)
            · rw [if_pos c11] at hf
              refine lv_aload_n hx hb dX4_tryFrom_98 rfl (lv_at hl 1 rfl) ?_
              refine lv_iload hx hb dX4_tryFrom_99 (lv_at hl 0 rfl) ?_
              refine p_Planner_soonest X hP hS  tw_53 dX4_tryFrom_101 (fun H locs hP hS => ?_)
              refine lv_aload_n hx hb dX4_tryFrom_104 rfl (lv_at hl 1 rfl) ?_
              refine g_Planner_tried X hP  tw_51 dX4_tryFrom_105 ?_
              refine lv_iconst (v := (0 : Int32)) hx hb dX4_tryFrom_108 (by decide) ?_
              refine lv_aload_n hx hb dX4_tryFrom_109 rfl (lv_at hl 1 rfl) ?_
              refine g_Planner_places X hP  tw_52 dX4_tryFrom_110 ?_
              refine lv_iconst (v := (0 : Int32)) hx hb dX4_tryFrom_113 (by decide) ?_
              refine lv_aload_n hx hb dX4_tryFrom_114 rfl (lv_at hl 1 rfl) ?_
              refine g_Planner_size X hP  tw_49 dX4_tryFrom_115 ?_
              obtain ⟨g12, hf⟩ := grd_some hf
              refine cpy_ptried_pplaces (rest := []) X hP hS hl.1   g12 tw_242 (by first | exact Nat.le_of_ble_eq_true rfl | exact Nat.succ_le_succ (Nat.zero_le _)) (by first | exact Nat.le_of_ble_eq_true rfl | exact Nat.le_trans (m := 44) (Nat.le_of_ble_eq_true rfl) (Nat.mul_le_mul_left 44 (Nat.succ_le_succ (Nat.zero_le _)))) dX4_tryFrom_118 (fun H locs hP hS => ?_)
              refine lv_iinc (v := (x4 + (1 : Int32))) (lv' := [(4, .int (x4 + (1 : Int32))), (5, .int q6.1), (0, .ref (ad 9)), (1, .int x1), (2, .int x2), (3, .int x3)]) hx hb dX4_tryFrom_121 hl (k := 5) rfl rfl (by decide) rfl (fun ls hl => ?_)
              refine lv_goto (tgt := 3) hx hb dX4_tryFrom_124 (by decide) ?_
              exact hkb _ _ _ _ _ _ _ ls hf  hP hS (lv_sub hl [2, 3, 4, 5, 0] rfl)
            · rw [if_neg c11] at hf
              refine lv_aload_n hx hb dX4_tryFrom_78 rfl (lv_at hl 1 rfl) ?_
              refine lv_iload_n hx hb dX4_tryFrom_79 rfl (lv_at hl 2 rfl) ?_
              refine lv_iconst (v := (1 : Int32)) hx hb dX4_tryFrom_80 (by decide) ?_
              refine lv_iadd hx hb dX4_tryFrom_81 ?_
              refine lv_iload_n hx hb dX4_tryFrom_82 rfl (lv_at hl 3 rfl) ?_
              refine lv_iconst (v := (1 : Int32)) hx hb dX4_tryFrom_83 (by decide) ?_
              refine lv_iload hx hb dX4_tryFrom_84 (lv_at hl 5 rfl) ?_
              refine lv_ishl hx hb dX4_tryFrom_86 ?_
              refine lv_ior hx hb dX4_tryFrom_87 ?_
              refine lv_iload hx hb dX4_tryFrom_88 (lv_at hl 0 rfl) ?_
              refine lv_iconst (v := (1 : Int32)) hx hb dX4_tryFrom_90 (by decide) ?_
              refine lv_iadd hx hb dX4_tryFrom_91 ?_
              obtain ⟨q13, e14, hf⟩ := bind_some hf
              refine aftV hS (cV (rest := []) X hP hS [.int (x1 + (1 : Int32)), .int (x2 ||| ((1 : Int32) <<< (x4 &&& 31))), .int (q6.1 + (1 : Int32))] (hfr  e14) cw_X4_tryFrom tw_241 tw_501 tw_685 (by decide) (cf_Planner ) rfl (fits9 (by first | decide | omega) (by decide)) rfl rfl hl.1 (Nat.le_of_ble_eq_true rfl) dX4_tryFrom_92 ⟨Nat.zero_le _, Nat.zero_le _⟩) (fun H locs hP hS => ?_)
              refine lv_goto (tgt := 121) hx hb dX4_tryFrom_95 (by decide) ?_
              refine lv_iinc (v := (x4 + (1 : Int32))) (lv' := [(4, .int (x4 + (1 : Int32))), (5, .int q6.1), (0, .ref (ad 9)), (1, .int x1), (2, .int x2), (3, .int x3)]) hx hb dX4_tryFrom_121 hl (k := 5) rfl rfl (by decide) rfl (fun ls hl => ?_)
              refine lv_goto (tgt := 3) hx hb dX4_tryFrom_124 (by decide) ?_
              exact hkb _ _ _ _ _ _ _ ls hf  hP hS (lv_sub hl [2, 3, 4, 5, 0] rfl)
          · rw [if_neg c9] at hf
            refine lv_goto (tgt := 121) hx hb dX4_tryFrom_57 (by decide) ?_
            refine lv_iinc (v := (x4 + (1 : Int32))) (lv' := [(4, .int (x4 + (1 : Int32))), (5, .int q6.1), (0, .ref (ad 9)), (1, .int x1), (2, .int x2), (3, .int x3)]) hx hb dX4_tryFrom_121 hl (k := 5) rfl rfl (by decide) rfl (fun ls hl => ?_)
            refine lv_goto (tgt := 3) hx hb dX4_tryFrom_124 (by decide) ?_
            exact hkb _ _ _ _ _ _ _ ls hf  hP hS (lv_sub hl [2, 3, 4, 5, 0] rfl)
      · rw [if_neg c5] at hf
        refine lv_goto (tgt := 121) hx hb dX4_tryFrom_29 (by decide) ?_
        refine lv_iinc (v := (x4 + (1 : Int32))) (lv' := [(4, .int (x4 + (1 : Int32))), (0, .ref (ad 9)), (1, .int x1), (2, .int x2), (3, .int x3)]) hx hb dX4_tryFrom_121 hl (k := 4) rfl rfl (by decide) rfl (fun ls hl => ?_)
        refine lv_goto (tgt := 3) hx hb dX4_tryFrom_124 (by decide) ?_
        exact hkb _ _ _ _ _ _ _ ls hf  hP hS (lv_sub hl [1, 2, 3, 4, 0] rfl)
set_option maxHeartbeats 4000000 in
set_option maxRecDepth 100000 in
theorem vl_X4_tryFrom_3 (X : Cx D cI cP cB cA 79 ad tL tC p s m c cX4_tryFrom 6 args RX4) (hr : meth.sig.returnType = none) (hlk : meth.locks = false) {res : Stt} {fr : Int32 → Int32 → Int32 → Stt → Option (Stt)} {dd : Nat} (hdd : 2 ≤ dd) (hfr : ∀  {x1 : Int32} {x2 : Int32} {x3 : Int32} {S : Stt} {res : Stt}, fr x1 x2 x3 S = some res → Ct l D cI cP cB cA 79 ad tL tC yX4_tryFrom cX4_tryFrom 6 none dd [.ref (ad 9), .int x1, .int x2, .int x3] (cfC ad cI cP cB cA S) (QV D 79 ad (cfC ad cI cP cB cA res))) (ke : Stt → Option (Stt)) (hke : ∀ (S : Stt) (H : Heap) (locs : List Loc) (ls : Array Slot), ke S = some res → va_P D vwCl (wl 79 ad (cfC ad cI cP cB cA S)) H → va_S (Ar 79 ad) s.heap H locs → lv_has ls 6 [] → W p l e (rmD (dd + 1)) s m args below meth c H locs 0 0 (MQ below (QV D 79 ad (cfC ad cI cP cB cA res)) args s 0 0 (Ar 79 ad)) (F0 m 127 ls [])) : ∀ (n : Nat), ∀ (x1 : Int32) (x2 : Int32) (x3 : Int32) (x4 : Int32) (S : Stt) (H : Heap) (locs : List Loc) (ls : Array Slot), fl_X4_tryFrom_3 fr ke n x1 x2 x3 x4 S = some res → va_P D vwCl (wl 79 ad (cfC ad cI cP cB cA S)) H → va_S (Ar 79 ad) s.heap H locs → lv_has ls 6 [(0, .ref (ad 9)), (1, .int x1), (2, .int x2), (3, .int x3), (4, .int x4)] → W p l e (rmD (dd + 1)) s m args below meth c H locs 0 0 (MQ below (QV D 79 ad (cfC ad cI cP cB cA res)) args s 0 0 (Ar 79 ad)) (F0 m 3 ls []) := by
  intro n
  induction n with
  | zero =>
    intro x1 x2 x3 x4 S H locs ls hf hP hS hl
    cases hf
  | succ n ih =>
    intro x1 x2 x3 x4 S H locs ls hf hP hS hl
    exact vb_X4_tryFrom_3 X hr hlk hdd hfr _ ke ih hke x1 x2 x3 x4 S H locs ls hf  hP hS hl
end
section
variable {p : Program} {l : Launch} {e : Env} {s : State} {m : MethodId} {args : Array Value} {below : List Frame} {meth : Method} {c : Code}
variable {D : va_G} {cI cP cB cA : ClassId} {ad : Nat → Nat} {tL tC : Nat}
set_option maxHeartbeats 4000000 in
set_option maxRecDepth 100000 in
theorem mo_X4_tryFrom {fr : Int32 → Int32 → Int32 → Stt → Option (Stt)} {dd : Nat} (hdd : 2 ≤ dd) (hfr : ∀  {x1 : Int32} {x2 : Int32} {x3 : Int32} {S : Stt} {res : Stt}, fr x1 x2 x3 S = some res → Ct l D cI cP cB cA 79 ad tL tC yX4_tryFrom cX4_tryFrom 6 none dd [.ref (ad 9), .int x1, .int x2, .int x3] (cfC ad cI cP cB cA S) (QV D 79 ad (cfC ad cI cP cB cA res)))  {x1 : Int32} {x2 : Int32} {x3 : Int32} {S : Stt} {res : Stt} (hf : fo_X4_tryFrom fr x1 x2 x3 S = some res) : Ct l D cI cP cB cA 79 ad tL tC yX4_tryFrom cX4_tryFrom 6 none (dd + 1) [.ref (ad 9), .int x1, .int x2, .int x3] (cfC ad cI cP cB cA S) (QV D 79 ad (cfC ad cI cP cB cA res)) := by
  refine ctOf (by decide) (Nat.le_of_ble_eq_true rfl) ?_
  intro p e s m args below meth c ls X hr hlk hP hl
  have hS : va_S (Ar 79 ad) s.heap s.heap [] := va_S.rf
  have hx := X.1.1
  have hb := X.1.2.1
  have hl : lv_has ls 6 [(0, .ref (ad 9)), (1, .int x1), (2, .int x2), (3, .int x3)] := hl
  unfold fo_X4_tryFrom at hf
  refine lv_iconst (v := (0 : Int32)) hx hb dX4_tryFrom_0 (by decide) ?_
  refine lv_istore (lv' := [(4, .int (0 : Int32)), (0, .ref (ad 9)), (1, .int x1), (2, .int x2), (3, .int x3)]) hx hb dX4_tryFrom_1 hl (by decide) rfl (fun ls hl => ?_)
  refine vl_X4_tryFrom_3 X hr hlk hdd hfr _ ?_ 300 _ _ _ _ _ _ _ ls hf  hP hS (lv_sub hl [1, 2, 3, 4, 0] rfl)
  intro S H locs ls hf hP hS hl
  cases hf
  exact rtV X hr hlk hP hS dX4_tryFrom_127
end
set_option maxHeartbeats 4000000 in
set_option maxRecDepth 100000 in
theorem m_X4_tryFrom {l : Launch} {D : va_G} {cI cP cB cA : ClassId} {ad : Nat → Nat} {tL tC : Nat} : ∀ (n : Nat) {x1 : Int32} {x2 : Int32} {x3 : Int32} {S : Stt} {res : Stt}, f_X4_tryFrom n x1 x2 x3 S = some res → Ct l D cI cP cB cA 79 ad tL tC yX4_tryFrom cX4_tryFrom 6 none (2 + n) [.ref (ad 9), .int x1, .int x2, .int x3] (cfC ad cI cP cB cA S) (QV D 79 ad (cfC ad cI cP cB cA res)) := by
  intro n
  induction n with
  | zero =>
    intro x1 x2 x3  S res hf
    cases hf
  | succ n ih =>
    intro x1 x2 x3  S res hf
    exact mo_X4_tryFrom (fr := f_X4_tryFrom n) (dd := (2 + n)) (by omega) ih  hf
/-! X4_planSoonest -/
section
variable {p : Program} {l : Launch} {e : Env} {s : State} {m : MethodId} {args : Array Value} {below : List Frame} {meth : Method} {c : Code}
variable {D : va_G} {cI cP cB cA : ClassId} {ad : Nat → Nat} {tL tC : Nat}
set_option maxHeartbeats 4000000 in
set_option maxRecDepth 100000 in
theorem vj_X4_planSoonest_32 (X : Cx D cI cP cB cA 79 ad tL tC p s m c cX4_planSoonest 1 args RX4) (hr : meth.sig.returnType = (some .boolean)) (hlk : meth.locks = false) {res : Int32 × Stt} : ∀ (S : Stt) (H : Heap) (locs : List Loc) (ls : Array Slot), fj_X4_planSoonest_32 S = some res → va_P D vwCl (wl 79 ad (cfC ad cI cP cB cA S)) H → va_S (Ar 79 ad) s.heap H locs → lv_has ls 1 [(0, .ref (ad 9))] → W p l e (rmD 13) s m args below meth c H locs 0 0 (MQ below (QI D 79 ad res.1 (cfC ad cI cP cB cA res.2)) args s 0 0 (Ar 79 ad)) (F0 m 32 ls []) := by
  intro S H locs ls hf hP hS hl
  have hx := X.1.1
  have hb := X.1.2.1
  unfold fj_X4_planSoonest_32 at hf
  refine lv_aload_n hx hb dX4_planSoonest_32 rfl (lv_at hl 0 rfl) ?_
  refine g_Planner_soonest X hP  tw_53 dX4_planSoonest_33 ?_
  refine lv_bipush (v := (99 : Int32)) hx hb dX4_planSoonest_36 (by decide) ?_
  refine lv_icmp_eq (tgt := 45) hx hb dX4_planSoonest_38 (by decide) (fun c3 => ?_) (fun c3 => ?_)
  · rw [if_pos c3] at hf
    refine lv_iconst (v := (0 : Int32)) hx hb dX4_planSoonest_45 (by decide) ?_
    cases hf
    exact rtZ X hr hlk hP hS (Or.inl rfl) dX4_planSoonest_46
  · rw [if_neg c3] at hf
    refine lv_iconst (v := (1 : Int32)) hx hb dX4_planSoonest_41 (by decide) ?_
    refine lv_goto (tgt := 46) hx hb dX4_planSoonest_42 (by decide) ?_
    cases hf
    exact rtZ X hr hlk hP hS (Or.inr rfl) dX4_planSoonest_46
set_option maxHeartbeats 4000000 in
set_option maxRecDepth 100000 in
theorem vj_X4_planSoonest_15 (X : Cx D cI cP cB cA 79 ad tL tC p s m c cX4_planSoonest 1 args RX4) (hr : meth.sig.returnType = (some .boolean)) (hlk : meth.locks = false) {res : Int32 × Stt} : ∀ (xt1 : Int32) (S : Stt) (H : Heap) (locs : List Loc) (ls : Array Slot), fj_X4_planSoonest_15 xt1 S = some res → va_P D vwCl (wl 79 ad (cfC ad cI cP cB cA S)) H → va_S (Ar 79 ad) s.heap H locs → lv_has ls 1 [(0, .ref (ad 9))] → W p l e (rmD 13) s m args below meth c H locs 0 0 (MQ below (QI D 79 ad res.1 (cfC ad cI cP cB cA res.2)) args s 0 0 (Ar 79 ad)) (F0 m 15 ls [.int xt1, .ref (ad 9)]) := by
  intro xt1 S H locs ls hf hP hS hl
  have hx := X.1.1
  have hb := X.1.2.1
  unfold fj_X4_planSoonest_15 at hf
  refine p_Planner_soonest X hP hS  tw_53 dX4_planSoonest_15 (fun H locs hP hS => ?_)
  refine lv_aload_n hx hb dX4_planSoonest_18 rfl (lv_at hl 0 rfl) ?_
  refine g_Planner_size X hP  tw_49 dX4_planSoonest_19 ?_
  refine lv_if_le (tgt := 32) hx hb dX4_planSoonest_22 (by decide) (fun c2 => ?_) (fun c2 => ?_)
  · rw [if_pos c2] at hf
    exact vj_X4_planSoonest_32 X hr hlk  _ _ _ ls hf  hP hS (lv_sub hl [0] rfl)
  · rw [if_neg c2] at hf
    refine lv_aload_n hx hb dX4_planSoonest_25 rfl (lv_at hl 0 rfl) ?_
    refine lv_iconst (v := (0 : Int32)) hx hb dX4_planSoonest_26 (by decide) ?_
    refine lv_iconst (v := (0 : Int32)) hx hb dX4_planSoonest_27 (by decide) ?_
    refine lv_iconst (v := (0 : Int32)) hx hb dX4_planSoonest_28 (by decide) ?_
    obtain ⟨q4, e5, hf⟩ := bind_some hf
    refine aftV hS (cV (rest := []) X hP hS [.int (0 : Int32), .int (0 : Int32), .int (0 : Int32)] (m_X4_tryFrom 10  e5) cw_X4_tryFrom tw_241 tw_501 tw_685 (by decide) (cf_Planner ) rfl (fits9 (by first | decide | omega) (by decide)) rfl rfl hl.1 (Nat.le_of_ble_eq_true rfl) dX4_planSoonest_29 ⟨Nat.zero_le _, Nat.zero_le _⟩) (fun H locs hP hS => ?_)
    exact vj_X4_planSoonest_32 X hr hlk  _ _ _ ls hf  hP hS (lv_sub hl [0] rfl)
end
set_option maxHeartbeats 4000000 in
set_option maxRecDepth 100000 in
theorem m_X4_planSoonest {l : Launch} {D : va_G} {cI cP cB cA : ClassId} {ad : Nat → Nat} {tL tC : Nat} {S : Stt} {res : Int32 × Stt} (hf : f_X4_planSoonest  S = some res) : Ct l D cI cP cB cA 79 ad tL tC yX4_planSoonest cX4_planSoonest 1 (some .boolean) 13 [.ref (ad 9)] (cfC ad cI cP cB cA S) (QI D 79 ad res.1 (cfC ad cI cP cB cA res.2)) := by
  refine ctOf (by decide) (Nat.le_of_ble_eq_true rfl) ?_
  intro p e s m args below meth c ls X hr hlk hP hl
  have hS : va_S (Ar 79 ad) s.heap s.heap [] := va_S.rf
  have hx := X.1.1
  have hb := X.1.2.1
  have hl : lv_has ls 1 [(0, .ref (ad 9))] := hl
  unfold f_X4_planSoonest at hf
  refine lv_aload_n hx hb dX4_planSoonest_0 rfl (lv_at hl 0 rfl) ?_
  refine lv_aload_n hx hb dX4_planSoonest_1 rfl (lv_at hl 0 rfl) ?_
  refine g_Planner_size X hP  tw_49 dX4_planSoonest_2 ?_
  refine lv_if_ne (tgt := 13) hx hb dX4_planSoonest_5 (by decide) (fun c1 => ?_) (fun c1 => ?_)
  · rw [if_neg c1] at hf
    refine lv_bipush (v := (99 : Int32)) hx hb dX4_planSoonest_13 (by decide) ?_
    exact vj_X4_planSoonest_15 X hr hlk _ _ _ _ ls hf  hP hS (lv_sub hl [0] rfl)
  · rw [if_pos c1] at hf
    refine lv_bipush (v := (-9 : Int32)) hx hb dX4_planSoonest_8 (by decide) ?_
    refine lv_goto (tgt := 15) hx hb dX4_planSoonest_10 (by decide) ?_
    exact vj_X4_planSoonest_15 X hr hlk _ _ _ _ ls hf  hP hS (lv_sub hl [0] rfl)
/-! X7_order -/
section
variable {p : Program} {l : Launch} {e : Env} {s : State} {m : MethodId} {args : Array Value} {below : List Frame} {meth : Method} {c : Code}
variable {D : va_G} {cI cP cB cA : ClassId} {ad : Nat → Nat} {tL tC : Nat}
end
set_option maxHeartbeats 4000000 in
set_option maxRecDepth 100000 in
theorem m_X7_order {l : Launch} {D : va_G} {cI cP cB cA : ClassId} {ad : Nat → Nat} {tL tC : Nat} {x1 : Int32} {x2 : Int32} {S : Stt} {res : Int32 × Stt} (hf : f_X7_order x1 x2 S = some res) : Ct l D cI cP cB cA 79 ad tL tC yX7_order cX7_order 4 (some .int) 14 [.ref (ad 0), .int x1, .int x2] (cfC ad cI cP cB cA S) (QI D 79 ad res.1 (cfC ad cI cP cB cA res.2)) := by
  refine ctOf (by decide) (Nat.le_of_ble_eq_true rfl) ?_
  intro p e s m args below meth c ls X hr hlk hP hl
  have hS : va_S (Ar 79 ad) s.heap s.heap [] := va_S.rf
  have hx := X.1.1
  have hb := X.1.2.1
  have hl : lv_has ls 4 [(0, .ref (ad 0)), (1, .int x1), (2, .int x2)] := hl
  unfold f_X7_order at hf
  refine lv_aload_n hx hb dX7_order_0 rfl (lv_at hl 0 rfl) ?_
  refine lv_iload_n hx hb dX7_order_1 rfl (lv_at hl 1 rfl) ?_
  refine lv_iload_n hx hb dX7_order_2 rfl (lv_at hl 2 rfl) ?_
  refine lv_iconst (v := (5 : Int32)) hx hb dX7_order_3 (by decide) ?_
  obtain ⟨q1, e2, hf⟩ := bind_some hf
  refine aftI hS (cV (rest := []) X hP hS [.int x1, .int x2, .int (5 : Int32)] (m_X7_refusalOfDeeds  e2) cw_X7_refusalOfDeeds tw_227 tw_493 tw_758 (by decide) (cf_LP ) rfl (fits9 (by first | decide | omega) (by decide)) rfl rfl hl.1 (Nat.le_of_ble_eq_true rfl) dX7_order_4 ⟨Nat.zero_le _, Nat.zero_le _⟩) (fun H locs hP hS => ?_)
  refine lv_istore_n (lv' := [(3, .int q1.1), (0, .ref (ad 0)), (1, .int x1), (2, .int x2)]) hx hb dX7_order_7 rfl hl (by decide) rfl (fun ls hl => ?_)
  refine lv_iload_n hx hb dX7_order_8 rfl (lv_at hl 0 rfl) ?_
  refine lv_if_eq (tgt := 14) hx hb dX7_order_9 (by decide) (fun c3 => ?_) (fun c3 => ?_)
  · rw [if_pos c3] at hf
    refine lv_aload_n hx hb dX7_order_14 rfl (lv_at hl 1 rfl) ?_
    refine g_LP_planner X hP  tw_67 dX7_order_15 ?_
    refine lv_aload_n hx hb dX7_order_18 rfl (lv_at hl 1 rfl) ?_
    refine g_LP_rows X hP  tw_60 dX7_order_19 ?_
    refine lv_iload_n hx hb dX7_order_22 rfl (lv_at hl 2 rfl) ?_
    refine lv_aload_n hx hb dX7_order_23 rfl (lv_at hl 1 rfl) ?_
    refine g_LP_court X hP  tw_66 dX7_order_24 ?_
    refine lv_aload_n hx hb dX7_order_27 rfl (lv_at hl 1 rfl) ?_
    refine g_LP_book X hP  tw_62 dX7_order_28 ?_
    obtain ⟨q4, e5, hf⟩ := bind_some hf
    refine aftV hS (cV (rest := []) X hP hS [.ref (ad (1 + 0)), .int x1, .ref (ad 8), .ref (ad (34 + 0))] (m_X4_take (by decide) (by decide) e5) cw_X4_take tw_228 tw_494 tw_681 (by decide) (cf_Planner ) rfl (fits9 (by first | decide | omega) (by decide)) rfl rfl hl.1 (Nat.le_of_ble_eq_true rfl) dX7_order_31 ⟨Nat.zero_le _, Nat.zero_le _⟩) (fun H locs hP hS => ?_)
    refine lv_aload_n hx hb dX7_order_34 rfl (lv_at hl 1 rfl) ?_
    refine g_LP_planner X hP  tw_67 dX7_order_35 ?_
    obtain ⟨q6, e7, hf⟩ := bind_some hf
    refine aftI hS (cV (rest := []) X hP hS [] (m_X4_planSoonest  e7) cw_X4_planSoonest tw_240 tw_500 tw_684 (by decide) (cf_Planner ) rfl (fits9 (by first | decide | omega) (by decide)) rfl rfl hl.1 (Nat.le_of_ble_eq_true rfl) dX7_order_38 ⟨Nat.zero_le _, Nat.zero_le _⟩) (fun H locs hP hS => ?_)
    refine lv_if_ne (tgt := 47) hx hb dX7_order_41 (by decide) (fun c8 => ?_) (fun c8 => ?_)
    · rw [if_neg c8] at hf
      refine lv_aload_n hx hb dX7_order_47 rfl (lv_at hl 1 rfl) ?_
      refine g_LP_planner X hP  tw_67 dX7_order_48 ?_
      refine lv_aload_n hx hb dX7_order_51 rfl (lv_at hl 1 rfl) ?_
      refine g_LP_rows X hP  tw_60 dX7_order_52 ?_
      refine lv_iload_n hx hb dX7_order_55 rfl (lv_at hl 3 rfl) ?_
      obtain ⟨q9, e10, hf⟩ := bind_some hf
      refine aftV hS (cV (rest := []) X hP hS [.ref (ad (1 + 0)), .int x2] (m_X4_tellPlaces (by decide) e10) cw_X4_tellPlaces tw_243 tw_502 tw_687 (by decide) (cf_Planner ) rfl (fits9 (by first | decide | omega) (by decide)) rfl rfl hl.1 (Nat.le_of_ble_eq_true rfl) dX7_order_56 ⟨Nat.zero_le _, Nat.zero_le _⟩) (fun H locs hP hS => ?_)
      refine lv_aload_n hx hb dX7_order_59 rfl (lv_at hl 1 rfl) ?_
      refine g_LP_planner X hP  tw_67 dX7_order_60 ?_
      refine gN_Planner_soonest X hP  tw_54 dX7_order_63 ?_
      cases hf
      exact rtI X hr hlk hP hS dX7_order_66
    · rw [if_pos c8] at hf
      refine lv_bipush (v := (-6 : Int32)) hx hb dX7_order_44 (by decide) ?_
      cases hf
      exact rtI X hr hlk hP hS dX7_order_46
  · rw [if_neg c3] at hf
    refine lv_iload_n hx hb dX7_order_12 rfl (lv_at hl 0 rfl) ?_
    cases hf
    exact rtI X hr hlk hP hS dX7_order_13
/-! X8_orderOn -/
section
variable {p : Program} {l : Launch} {e : Env} {s : State} {m : MethodId} {args : Array Value} {below : List Frame} {meth : Method} {c : Code}
variable {D : va_G} {cI cP cB cA : ClassId} {ad : Nat → Nat} {tL tC : Nat}
set_option maxHeartbeats 4000000 in
set_option maxRecDepth 100000 in
theorem vj_X8_orderOn_98_58 (X : Cx D cI cP cB cA 19 ad tL tC p s m c cX8_orderOn 7 args RX8) (hr : meth.sig.returnType = none) (hlk : meth.locks = false) {res : Stt} {fr : Int32 → Int32 → Int32 → Int32 → Stt → Option (Stt)} {dd : Nat} (hdd : 7 ≤ dd) (hfr : ∀  {x1 : Int32} {x2 : Int32} {x3 : Int32} {x4 : Int32} {S : Stt} {res : Stt}, fr x1 x2 x3 x4 S = some res → Ct l D cI cP cB cA 19 ad tL tC yX8_orderOn cX8_orderOn 7 none dd [.ref (ad 0), .int x1, .int x2, .int x3, .int x4] (cfM ad cI S) (QV D 19 ad (cfM ad cI res))) (kb : Int32 → Int32 → Int32 → Int32 → Int32 → Stt → Option (Stt)) (ke : Stt → Option (Stt)) (hkb : ∀ (x1 : Int32) (x2 : Int32) (x3 : Int32) (x4 : Int32) (x5 : Int32) (S : Stt) (H : Heap) (locs : List Loc) (ls : Array Slot), kb x1 x2 x3 x4 x5 S = some res → va_P D vwCl (wl 19 ad (cfM ad cI S)) H → va_S (Ar 19 ad) s.heap H locs → lv_has ls 7 [(0, .ref (ad 0)), (1, .int x1), (2, .int x2), (3, .int x3), (4, .int x4), (5, .int x5)] → W p l e (rmD (dd + 1)) s m args below meth c H locs 0 0 (MQ below (QV D 19 ad (cfM ad cI res)) args s 0 0 (Ar 19 ad)) (F0 m 58 ls [])) (hke : ∀ (S : Stt) (H : Heap) (locs : List Loc) (ls : Array Slot), ke S = some res → va_P D vwCl (wl 19 ad (cfM ad cI S)) H → va_S (Ar 19 ad) s.heap H locs → lv_has ls 7 [] → W p l e (rmD (dd + 1)) s m args below meth c H locs 0 0 (MQ below (QV D 19 ad (cfM ad cI res)) args s 0 0 (Ar 19 ad)) (F0 m 139 ls [])) : ∀ (x1 : Int32) (x2 : Int32) (x3 : Int32) (x4 : Int32) (x5 : Int32) (xt0 : Int32) (S : Stt) (H : Heap) (locs : List Loc) (ls : Array Slot), fj_X8_orderOn_98_58 fr kb ke x1 x2 x3 x4 x5 xt0 S = some res → va_P D vwCl (wl 19 ad (cfM ad cI S)) H → va_S (Ar 19 ad) s.heap H locs → lv_has ls 7 [(0, .ref (ad 0)), (1, .int x1), (2, .int x2), (3, .int x3), (4, .int x4), (5, .int x5)] → W p l e (rmD (dd + 1)) s m args below meth c H locs 0 0 (MQ below (QV D 19 ad (cfM ad cI res)) args s 0 0 (Ar 19 ad)) (F0 m 98 ls [.int xt0]) := by
  intro x1 x2 x3 x4 x5 xt0 S H locs ls hf hP hS hl
  have hx := X.1.1
  have hb := X.1.2.1
  unfold fj_X8_orderOn_98_58 at hf
  refine lv_istore (lv' := [(6, .int xt0), (0, .ref (ad 0)), (1, .int x1), (2, .int x2), (3, .int x3), (4, .int x4), (5, .int x5)]) hx hb dX8_orderOn_98 hl (by decide) rfl (fun ls hl => ?_)
  refine lv_iload hx hb dX8_orderOn_100 (lv_at hl 0 rfl) ?_
  refine lv_bipush (v := (-9 : Int32)) hx hb dX8_orderOn_102 (by decide) ?_
  refine lv_icmp_eq (tgt := 133) hx hb dX8_orderOn_104 (by decide) (fun c8 => ?_) (fun c8 => ?_)
  · rw [if_pos c8] at hf
    refine lv_iinc (v := (x5 + (1 : Int32))) (lv' := [(5, .int (x5 + (1 : Int32))), (6, .int xt0), (0, .ref (ad 0)), (1, .int x1), (2, .int x2), (3, .int x3), (4, .int x4)]) hx hb dX8_orderOn_133 hl (k := 6) rfl rfl (by decide) rfl (fun ls hl => ?_)
    refine lv_goto (tgt := 58) hx hb dX8_orderOn_136 (by decide) ?_
    exact hkb _ _ _ _ _ _ _ _ ls hf  hP hS (lv_sub hl [2, 3, 4, 5, 6, 0] rfl)
  · rw [if_neg c8] at hf
    refine lv_aload_n hx hb dX8_orderOn_107 rfl (lv_at hl 1 rfl) ?_
    refine g_M_laid X hP  tw_101 dX8_orderOn_108 ?_
    refine lv_iload_n hx hb dX8_orderOn_111 rfl (lv_at hl 3 rfl) ?_
    refine lv_iload hx hb dX8_orderOn_112 (lv_at hl 6 rfl) ?_
    obtain ⟨g9, hf⟩ := grd_some hf
    refine w_m_laid X hP hS  g9 dX8_orderOn_114 (fun H locs hP hS => ?_)
    refine lv_aload_n hx hb dX8_orderOn_115 rfl (lv_at hl 1 rfl) ?_
    refine lv_iload_n hx hb dX8_orderOn_116 rfl (lv_at hl 2 rfl) ?_
    refine lv_iload_n hx hb dX8_orderOn_117 rfl (lv_at hl 3 rfl) ?_
    refine lv_iconst (v := (1 : Int32)) hx hb dX8_orderOn_118 (by decide) ?_
    refine lv_iadd hx hb dX8_orderOn_119 ?_
    refine lv_iload_n hx hb dX8_orderOn_120 rfl (lv_at hl 4 rfl) ?_
    refine lv_iconst (v := (1 : Int32)) hx hb dX8_orderOn_121 (by decide) ?_
    refine lv_iload hx hb dX8_orderOn_122 (lv_at hl 6 rfl) ?_
    refine lv_ishl hx hb dX8_orderOn_124 ?_
    refine lv_iconst (v := (-1 : Int32)) hx hb dX8_orderOn_125 (by decide) ?_
    refine lv_ixor hx hb dX8_orderOn_126 ?_
    refine lv_iand hx hb dX8_orderOn_127 ?_
    refine lv_iload hx hb dX8_orderOn_128 (lv_at hl 0 rfl) ?_
    obtain ⟨q10, e11, hf⟩ := bind_some hf
    refine aftV hS (cV (rest := []) X hP hS [.int x1, .int (x2 + (1 : Int32)), .int (x3 &&& (((1 : Int32) <<< (x5 &&& 31)) ^^^ (-1 : Int32))), .int xt0] (hfr  e11) cw_X8_orderOn tw_357 tw_614 tw_820 (by decide) (cf_M ) rfl (fits9 (by first | decide | omega) (by decide)) rfl rfl hl.1 (Nat.le_of_ble_eq_true rfl) dX8_orderOn_130 ⟨Nat.zero_le _, Nat.zero_le _⟩) (fun H locs hP hS => ?_)
    refine lv_iinc (v := (x5 + (1 : Int32))) (lv' := [(5, .int (x5 + (1 : Int32))), (6, .int xt0), (0, .ref (ad 0)), (1, .int x1), (2, .int x2), (3, .int x3), (4, .int x4)]) hx hb dX8_orderOn_133 hl (k := 6) rfl rfl (by decide) rfl (fun ls hl => ?_)
    refine lv_goto (tgt := 58) hx hb dX8_orderOn_136 (by decide) ?_
    exact hkb _ _ _ _ _ _ _ _ ls hf  hP hS (lv_sub hl [2, 3, 4, 5, 6, 0] rfl)
set_option maxHeartbeats 4000000 in
set_option maxRecDepth 100000 in
theorem vb_X8_orderOn_58 (X : Cx D cI cP cB cA 19 ad tL tC p s m c cX8_orderOn 7 args RX8) (hr : meth.sig.returnType = none) (hlk : meth.locks = false) {res : Stt} {fr : Int32 → Int32 → Int32 → Int32 → Stt → Option (Stt)} {dd : Nat} (hdd : 7 ≤ dd) (hfr : ∀  {x1 : Int32} {x2 : Int32} {x3 : Int32} {x4 : Int32} {S : Stt} {res : Stt}, fr x1 x2 x3 x4 S = some res → Ct l D cI cP cB cA 19 ad tL tC yX8_orderOn cX8_orderOn 7 none dd [.ref (ad 0), .int x1, .int x2, .int x3, .int x4] (cfM ad cI S) (QV D 19 ad (cfM ad cI res))) (kb : Int32 → Int32 → Int32 → Int32 → Int32 → Stt → Option (Stt)) (ke : Stt → Option (Stt)) (hkb : ∀ (x1 : Int32) (x2 : Int32) (x3 : Int32) (x4 : Int32) (x5 : Int32) (S : Stt) (H : Heap) (locs : List Loc) (ls : Array Slot), kb x1 x2 x3 x4 x5 S = some res → va_P D vwCl (wl 19 ad (cfM ad cI S)) H → va_S (Ar 19 ad) s.heap H locs → lv_has ls 7 [(0, .ref (ad 0)), (1, .int x1), (2, .int x2), (3, .int x3), (4, .int x4), (5, .int x5)] → W p l e (rmD (dd + 1)) s m args below meth c H locs 0 0 (MQ below (QV D 19 ad (cfM ad cI res)) args s 0 0 (Ar 19 ad)) (F0 m 58 ls [])) (hke : ∀ (S : Stt) (H : Heap) (locs : List Loc) (ls : Array Slot), ke S = some res → va_P D vwCl (wl 19 ad (cfM ad cI S)) H → va_S (Ar 19 ad) s.heap H locs → lv_has ls 7 [] → W p l e (rmD (dd + 1)) s m args below meth c H locs 0 0 (MQ below (QV D 19 ad (cfM ad cI res)) args s 0 0 (Ar 19 ad)) (F0 m 139 ls [])) : ∀ (x1 : Int32) (x2 : Int32) (x3 : Int32) (x4 : Int32) (x5 : Int32) (S : Stt) (H : Heap) (locs : List Loc) (ls : Array Slot), fb_X8_orderOn_58 fr kb ke x1 x2 x3 x4 x5 S = some res → va_P D vwCl (wl 19 ad (cfM ad cI S)) H → va_S (Ar 19 ad) s.heap H locs → lv_has ls 7 [(0, .ref (ad 0)), (1, .int x1), (2, .int x2), (3, .int x3), (4, .int x4), (5, .int x5)] → W p l e (rmD (dd + 1)) s m args below meth c H locs 0 0 (MQ below (QV D 19 ad (cfM ad cI res)) args s 0 0 (Ar 19 ad)) (F0 m 58 ls []) := by
  intro x1 x2 x3 x4 x5 S H locs ls hf hP hS hl
  have hx := X.1.1
  have hb := X.1.2.1
  unfold fb_X8_orderOn_58 at hf
  refine lv_iload hx hb dX8_orderOn_58 (lv_at hl 5 rfl) ?_
  refine lv_aload_n hx hb dX8_orderOn_60 rfl (lv_at hl 0 rfl) ?_
  refine g_M_sizes X hP  tw_81 dX8_orderOn_61 ?_
  refine lv_iload_n hx hb dX8_orderOn_64 rfl (lv_at hl 1 rfl) ?_
  obtain ⟨g3, hf⟩ := grd_some hf
  refine r_m_sizes X hP  g3 dX8_orderOn_65 ?_
  refine lv_icmp_ge (tgt := 139) hx hb dX8_orderOn_66 (by decide) (fun c4 => ?_) (fun c4 => ?_)
  · rw [if_pos c4] at hf
    exact hke  _ _ _ ls hf  hP hS (lv_sub hl [] rfl)
  · rw [if_neg c4] at hf
    refine lv_iload_n hx hb dX8_orderOn_69 rfl (lv_at hl 3 rfl) ?_
    refine lv_iload hx hb dX8_orderOn_70 (lv_at hl 5 rfl) ?_
    obtain ⟨q5, e6, hf⟩ := bind_some hf
    refine aftI hS (cS (rest := []) X hP hS [.int x3, .int x5] (m_X8_has  e6) cw_X8_has tw_333 tw_590 (fits9 (by first | decide | omega) (by decide)) rfl rfl hl.1 (Nat.le_of_ble_eq_true rfl) dX8_orderOn_72 ⟨Nat.zero_le _, Nat.zero_le _⟩) (fun H locs hP hS => ?_)
    refine lv_if_eq (tgt := 96) hx hb dX8_orderOn_75 (by decide) (fun c7 => ?_) (fun c7 => ?_)
    · rw [if_pos c7] at hf
      refine lv_bipush (v := (-9 : Int32)) hx hb dX8_orderOn_96 (by decide) ?_
      exact vj_X8_orderOn_98_58 X hr hlk hdd hfr _ _ hkb hke _ _ _ _ _ _ _ _ _ ls hf  hP hS (lv_sub hl [0, 1, 2, 3, 4, 5] rfl)
    · rw [if_neg c7] at hf
      refine lv_aload_n hx hb dX8_orderOn_78 rfl (lv_at hl 0 rfl) ?_
      refine lv_aload_n hx hb dX8_orderOn_79 rfl (lv_at hl 0 rfl) ?_
      refine lv_iload_n hx hb dX8_orderOn_80 rfl (lv_at hl 1 rfl) ?_
      refine lv_iload hx hb dX8_orderOn_81 (lv_at hl 5 rfl) ?_
      obtain ⟨q12, e13, hf⟩ := bind_some hf
      refine aftI hS (cV (rest := [.ref (ad 0)]) X hP hS [.int x1, .int x5] (m_X8_rowAt  e13) cw_X8_rowAt tw_293 tw_551 tw_766 (by decide) (cf_M ) rfl (fits9 (by first | decide | omega) (by decide)) rfl rfl hl.1 (Nat.le_of_ble_eq_true rfl) dX8_orderOn_83 ⟨Nat.zero_le _, Nat.zero_le _⟩) (fun H locs hP hS => ?_)
      refine lv_iload hx hb dX8_orderOn_86 (lv_at hl 4 rfl) ?_
      refine lv_iconst (v := (1 : Int32)) hx hb dX8_orderOn_88 (by decide) ?_
      refine lv_iadd hx hb dX8_orderOn_89 ?_
      obtain ⟨q14, e15, hf⟩ := bind_some hf
      refine aftI hS (cV (rest := []) X hP hS [.int q12.1, .int (x4 + (1 : Int32))] (m_X8_freeFrom  e15) cw_X8_freeFrom tw_351 tw_608 tw_815 (by decide) (cf_M ) rfl (fits9 (by first | decide | omega) (by decide)) rfl rfl hl.1 (Nat.le_of_ble_eq_true rfl) dX8_orderOn_90 ⟨Nat.zero_le _, Nat.zero_le _⟩) (fun H locs hP hS => ?_)
      refine lv_goto (tgt := 98) hx hb dX8_orderOn_93 (by decide) ?_
      exact vj_X8_orderOn_98_58 X hr hlk hdd hfr _ _ hkb hke _ _ _ _ _ _ _ _ _ ls hf  hP hS (lv_sub hl [0, 1, 2, 3, 4, 5] rfl)
set_option maxHeartbeats 4000000 in
set_option maxRecDepth 100000 in
theorem vl_X8_orderOn_58 (X : Cx D cI cP cB cA 19 ad tL tC p s m c cX8_orderOn 7 args RX8) (hr : meth.sig.returnType = none) (hlk : meth.locks = false) {res : Stt} {fr : Int32 → Int32 → Int32 → Int32 → Stt → Option (Stt)} {dd : Nat} (hdd : 7 ≤ dd) (hfr : ∀  {x1 : Int32} {x2 : Int32} {x3 : Int32} {x4 : Int32} {S : Stt} {res : Stt}, fr x1 x2 x3 x4 S = some res → Ct l D cI cP cB cA 19 ad tL tC yX8_orderOn cX8_orderOn 7 none dd [.ref (ad 0), .int x1, .int x2, .int x3, .int x4] (cfM ad cI S) (QV D 19 ad (cfM ad cI res))) (ke : Stt → Option (Stt)) (hke : ∀ (S : Stt) (H : Heap) (locs : List Loc) (ls : Array Slot), ke S = some res → va_P D vwCl (wl 19 ad (cfM ad cI S)) H → va_S (Ar 19 ad) s.heap H locs → lv_has ls 7 [] → W p l e (rmD (dd + 1)) s m args below meth c H locs 0 0 (MQ below (QV D 19 ad (cfM ad cI res)) args s 0 0 (Ar 19 ad)) (F0 m 139 ls [])) : ∀ (n : Nat), ∀ (x1 : Int32) (x2 : Int32) (x3 : Int32) (x4 : Int32) (x5 : Int32) (S : Stt) (H : Heap) (locs : List Loc) (ls : Array Slot), fl_X8_orderOn_58 fr ke n x1 x2 x3 x4 x5 S = some res → va_P D vwCl (wl 19 ad (cfM ad cI S)) H → va_S (Ar 19 ad) s.heap H locs → lv_has ls 7 [(0, .ref (ad 0)), (1, .int x1), (2, .int x2), (3, .int x3), (4, .int x4), (5, .int x5)] → W p l e (rmD (dd + 1)) s m args below meth c H locs 0 0 (MQ below (QV D 19 ad (cfM ad cI res)) args s 0 0 (Ar 19 ad)) (F0 m 58 ls []) := by
  intro n
  induction n with
  | zero =>
    intro x1 x2 x3 x4 x5 S H locs ls hf hP hS hl
    cases hf
  | succ n ih =>
    intro x1 x2 x3 x4 x5 S H locs ls hf hP hS hl
    exact vb_X8_orderOn_58 X hr hlk hdd hfr _ ke ih hke x1 x2 x3 x4 x5 S H locs ls hf  hP hS hl
set_option maxHeartbeats 4000000 in
set_option maxRecDepth 100000 in
theorem vb_X8_orderOn_28 (X : Cx D cI cP cB cA 19 ad tL tC p s m c cX8_orderOn 7 args RX8) (hr : meth.sig.returnType = none) (hlk : meth.locks = false) {res : Stt} {fr : Int32 → Int32 → Int32 → Int32 → Stt → Option (Stt)} {dd : Nat} (hdd : 7 ≤ dd) (hfr : ∀  {x1 : Int32} {x2 : Int32} {x3 : Int32} {x4 : Int32} {S : Stt} {res : Stt}, fr x1 x2 x3 x4 S = some res → Ct l D cI cP cB cA 19 ad tL tC yX8_orderOn cX8_orderOn 7 none dd [.ref (ad 0), .int x1, .int x2, .int x3, .int x4] (cfM ad cI S) (QV D 19 ad (cfM ad cI res))) (kb : Int32 → Int32 → Stt → Option (Stt)) (ke : Stt → Option (Stt)) (hkb : ∀ (x2 : Int32) (x5 : Int32) (S : Stt) (H : Heap) (locs : List Loc) (ls : Array Slot), kb x2 x5 S = some res → va_P D vwCl (wl 19 ad (cfM ad cI S)) H → va_S (Ar 19 ad) s.heap H locs → lv_has ls 7 [(0, .ref (ad 0)), (2, .int x2), (5, .int x5)] → W p l e (rmD (dd + 1)) s m args below meth c H locs 0 0 (MQ below (QV D 19 ad (cfM ad cI res)) args s 0 0 (Ar 19 ad)) (F0 m 28 ls [])) (hke : ∀ (S : Stt) (H : Heap) (locs : List Loc) (ls : Array Slot), ke S = some res → va_P D vwCl (wl 19 ad (cfM ad cI S)) H → va_S (Ar 19 ad) s.heap H locs → lv_has ls 7 [] → W p l e (rmD (dd + 1)) s m args below meth c H locs 0 0 (MQ below (QV D 19 ad (cfM ad cI res)) args s 0 0 (Ar 19 ad)) (F0 m 54 ls [])) : ∀ (x2 : Int32) (x5 : Int32) (S : Stt) (H : Heap) (locs : List Loc) (ls : Array Slot), fb_X8_orderOn_28 fr kb ke x2 x5 S = some res → va_P D vwCl (wl 19 ad (cfM ad cI S)) H → va_S (Ar 19 ad) s.heap H locs → lv_has ls 7 [(0, .ref (ad 0)), (2, .int x2), (5, .int x5)] → W p l e (rmD (dd + 1)) s m args below meth c H locs 0 0 (MQ below (QV D 19 ad (cfM ad cI res)) args s 0 0 (Ar 19 ad)) (F0 m 28 ls []) := by
  intro x2 x5 S H locs ls hf hP hS hl
  have hx := X.1.1
  have hb := X.1.2.1
  unfold fb_X8_orderOn_28 at hf
  refine lv_iload hx hb dX8_orderOn_28 (lv_at hl 2 rfl) ?_
  refine lv_iload_n hx hb dX8_orderOn_30 rfl (lv_at hl 1 rfl) ?_
  refine lv_icmp_ge (tgt := 54) hx hb dX8_orderOn_31 (by decide) (fun c17 => ?_) (fun c17 => ?_)
  · rw [if_pos c17] at hf
    exact hke  _ _ _ ls hf  hP hS (lv_sub hl [] rfl)
  · rw [if_neg c17] at hf
    refine lv_aload_n hx hb dX8_orderOn_34 rfl (lv_at hl 0 rfl) ?_
    refine g_M_told X hP  tw_99 dX8_orderOn_35 ?_
    refine lv_iload hx hb dX8_orderOn_38 (lv_at hl 2 rfl) ?_
    refine lv_aload_n hx hb dX8_orderOn_40 rfl (lv_at hl 0 rfl) ?_
    refine g_M_laid X hP  tw_101 dX8_orderOn_41 ?_
    refine lv_iload hx hb dX8_orderOn_44 (lv_at hl 2 rfl) ?_
    obtain ⟨g18, hf⟩ := grd_some hf
    refine r_m_laid X hP  g18 dX8_orderOn_46 ?_
    obtain ⟨g19, hf⟩ := grd_some hf
    refine w_m_told X hP hS  g19 dX8_orderOn_47 (fun H locs hP hS => ?_)
    refine lv_iinc (v := (x5 + (1 : Int32))) (lv' := [(5, .int (x5 + (1 : Int32))), (0, .ref (ad 0)), (2, .int x2)]) hx hb dX8_orderOn_48 hl (k := 2) rfl rfl (by decide) rfl (fun ls hl => ?_)
    refine lv_goto (tgt := 28) hx hb dX8_orderOn_51 (by decide) ?_
    exact hkb _ _ _ _ _ ls hf  hP hS (lv_sub hl [1, 2, 0] rfl)
set_option maxHeartbeats 4000000 in
set_option maxRecDepth 100000 in
theorem vl_X8_orderOn_28 (X : Cx D cI cP cB cA 19 ad tL tC p s m c cX8_orderOn 7 args RX8) (hr : meth.sig.returnType = none) (hlk : meth.locks = false) {res : Stt} {fr : Int32 → Int32 → Int32 → Int32 → Stt → Option (Stt)} {dd : Nat} (hdd : 7 ≤ dd) (hfr : ∀  {x1 : Int32} {x2 : Int32} {x3 : Int32} {x4 : Int32} {S : Stt} {res : Stt}, fr x1 x2 x3 x4 S = some res → Ct l D cI cP cB cA 19 ad tL tC yX8_orderOn cX8_orderOn 7 none dd [.ref (ad 0), .int x1, .int x2, .int x3, .int x4] (cfM ad cI S) (QV D 19 ad (cfM ad cI res))) (ke : Stt → Option (Stt)) (hke : ∀ (S : Stt) (H : Heap) (locs : List Loc) (ls : Array Slot), ke S = some res → va_P D vwCl (wl 19 ad (cfM ad cI S)) H → va_S (Ar 19 ad) s.heap H locs → lv_has ls 7 [] → W p l e (rmD (dd + 1)) s m args below meth c H locs 0 0 (MQ below (QV D 19 ad (cfM ad cI res)) args s 0 0 (Ar 19 ad)) (F0 m 54 ls [])) : ∀ (n : Nat), ∀ (x2 : Int32) (x5 : Int32) (S : Stt) (H : Heap) (locs : List Loc) (ls : Array Slot), fl_X8_orderOn_28 fr ke n x2 x5 S = some res → va_P D vwCl (wl 19 ad (cfM ad cI S)) H → va_S (Ar 19 ad) s.heap H locs → lv_has ls 7 [(0, .ref (ad 0)), (2, .int x2), (5, .int x5)] → W p l e (rmD (dd + 1)) s m args below meth c H locs 0 0 (MQ below (QV D 19 ad (cfM ad cI res)) args s 0 0 (Ar 19 ad)) (F0 m 28 ls []) := by
  intro n
  induction n with
  | zero =>
    intro x2 x5 S H locs ls hf hP hS hl
    cases hf
  | succ n ih =>
    intro x2 x5 S H locs ls hf hP hS hl
    exact vb_X8_orderOn_28 X hr hlk hdd hfr _ ke ih hke x2 x5 S H locs ls hf  hP hS hl
end
section
variable {p : Program} {l : Launch} {e : Env} {s : State} {m : MethodId} {args : Array Value} {below : List Frame} {meth : Method} {c : Code}
variable {D : va_G} {cI cP cB cA : ClassId} {ad : Nat → Nat} {tL tC : Nat}
set_option maxHeartbeats 4000000 in
set_option maxRecDepth 100000 in
theorem mo_X8_orderOn {fr : Int32 → Int32 → Int32 → Int32 → Stt → Option (Stt)} {dd : Nat} (hdd : 7 ≤ dd) (hfr : ∀  {x1 : Int32} {x2 : Int32} {x3 : Int32} {x4 : Int32} {S : Stt} {res : Stt}, fr x1 x2 x3 x4 S = some res → Ct l D cI cP cB cA 19 ad tL tC yX8_orderOn cX8_orderOn 7 none dd [.ref (ad 0), .int x1, .int x2, .int x3, .int x4] (cfM ad cI S) (QV D 19 ad (cfM ad cI res)))  {x1 : Int32} {x2 : Int32} {x3 : Int32} {x4 : Int32} {S : Stt} {res : Stt} (hf : fo_X8_orderOn fr x1 x2 x3 x4 S = some res) : Ct l D cI cP cB cA 19 ad tL tC yX8_orderOn cX8_orderOn 7 none (dd + 1) [.ref (ad 0), .int x1, .int x2, .int x3, .int x4] (cfM ad cI S) (QV D 19 ad (cfM ad cI res)) := by
  refine ctOf (by decide) (Nat.le_of_ble_eq_true rfl) ?_
  intro p e s m args below meth c ls X hr hlk hP hl
  have hS : va_S (Ar 19 ad) s.heap s.heap [] := va_S.rf
  have hx := X.1.1
  have hb := X.1.2.1
  have hl : lv_has ls 7 [(0, .ref (ad 0)), (1, .int x1), (2, .int x2), (3, .int x3), (4, .int x4)] := hl
  unfold fo_X8_orderOn at hf
  refine lv_iload_n hx hb dX8_orderOn_0 rfl (lv_at hl 2 rfl) ?_
  refine lv_aload_n hx hb dX8_orderOn_1 rfl (lv_at hl 0 rfl) ?_
  refine g_M_sizes X hP  tw_81 dX8_orderOn_2 ?_
  refine lv_iload_n hx hb dX8_orderOn_5 rfl (lv_at hl 1 rfl) ?_
  obtain ⟨g1, hf⟩ := grd_some hf
  refine r_m_sizes X hP  g1 dX8_orderOn_6 ?_
  refine lv_icmp_ne (tgt := 55) hx hb dX8_orderOn_7 (by decide) (fun c2 => ?_) (fun c2 => ?_)
  · rw [if_neg c2] at hf
    refine lv_iconst (v := (0 : Int32)) hx hb dX8_orderOn_55 (by decide) ?_
    refine lv_istore (lv' := [(5, .int (0 : Int32)), (0, .ref (ad 0)), (1, .int x1), (2, .int x2), (3, .int x3), (4, .int x4)]) hx hb dX8_orderOn_56 hl (by decide) rfl (fun ls hl => ?_)
    refine vl_X8_orderOn_58 X hr hlk hdd hfr _ ?_ 300 _ _ _ _ _ _ _ _ ls hf  hP hS (lv_sub hl [1, 2, 3, 4, 5, 0] rfl)
    intro S H locs ls hf hP hS hl
    cases hf
    exact rtV X hr hlk hP hS dX8_orderOn_139
  · rw [if_pos c2] at hf
    refine lv_iload hx hb dX8_orderOn_10 (lv_at hl 4 rfl) ?_
    refine lv_aload_n hx hb dX8_orderOn_12 rfl (lv_at hl 0 rfl) ?_
    refine g_M_bestLast X hP  tw_100 dX8_orderOn_13 ?_
    refine lv_icmp_ge (tgt := 54) hx hb dX8_orderOn_16 (by decide) (fun c16 => ?_) (fun c16 => ?_)
    · rw [if_pos c16] at hf
      cases hf
      exact rtV X hr hlk hP hS dX8_orderOn_54
    · rw [if_neg c16] at hf
      refine lv_aload_n hx hb dX8_orderOn_19 rfl (lv_at hl 0 rfl) ?_
      refine lv_iload hx hb dX8_orderOn_20 (lv_at hl 4 rfl) ?_
      refine p_M_bestLast X hP hS  tw_100 dX8_orderOn_22 (fun H locs hP hS => ?_)
      refine lv_iconst (v := (0 : Int32)) hx hb dX8_orderOn_25 (by decide) ?_
      refine lv_istore (lv' := [(5, .int (0 : Int32)), (0, .ref (ad 0)), (1, .int x1), (2, .int x2), (3, .int x3), (4, .int x4)]) hx hb dX8_orderOn_26 hl (by decide) rfl (fun ls hl => ?_)
      refine vl_X8_orderOn_28 X hr hlk hdd hfr _ ?_ 300 _ _ _ _ _ ls hf  hP hS (lv_sub hl [1, 3, 0] rfl)
      intro S H locs ls hf hP hS hl
      cases hf
      exact rtV X hr hlk hP hS dX8_orderOn_54
end
set_option maxHeartbeats 4000000 in
set_option maxRecDepth 100000 in
theorem m_X8_orderOn {l : Launch} {D : va_G} {cI cP cB cA : ClassId} {ad : Nat → Nat} {tL tC : Nat} : ∀ (n : Nat) {x1 : Int32} {x2 : Int32} {x3 : Int32} {x4 : Int32} {S : Stt} {res : Stt}, f_X8_orderOn n x1 x2 x3 x4 S = some res → Ct l D cI cP cB cA 19 ad tL tC yX8_orderOn cX8_orderOn 7 none (7 + n) [.ref (ad 0), .int x1, .int x2, .int x3, .int x4] (cfM ad cI S) (QV D 19 ad (cfM ad cI res)) := by
  intro n
  induction n with
  | zero =>
    intro x1 x2 x3 x4  S res hf
    cases hf
  | succ n ih =>
    intro x1 x2 x3 x4  S res hf
    exact mo_X8_orderOn (fr := f_X8_orderOn n) (dd := (7 + n)) (by omega) ih  hf
/-! X8_readOn -/
section
variable {p : Program} {l : Launch} {e : Env} {s : State} {m : MethodId} {args : Array Value} {below : List Frame} {meth : Method} {c : Code}
variable {D : va_G} {cI cP cB cA : ClassId} {ad : Nat → Nat} {tL tC : Nat}
set_option maxHeartbeats 4000000 in
set_option maxRecDepth 100000 in
theorem vb_X8_readOn_61 (X : Cx D cI cP cB cA 19 ad tL tC p s m c cX8_readOn 5 args RX8) (hr : meth.sig.returnType = none) (hlk : meth.locks = false) {res : Stt} {fr : Int32 → Int32 → Stt → Option (Stt)} {dd : Nat} (hdd : 7 ≤ dd) (hfr : ∀  {x1 : Int32} {x2 : Int32} {S : Stt} {res : Stt}, fr x1 x2 S = some res → Ct l D cI cP cB cA 19 ad tL tC yX8_readOn cX8_readOn 5 none dd [.ref (ad 0), .int x1, .int x2] (cfM ad cI S) (QV D 19 ad (cfM ad cI res))) (kb : Int32 → Int32 → Int32 → Stt → Option (Stt)) (ke : Stt → Option (Stt)) (hkb : ∀ (x1 : Int32) (x2 : Int32) (x3 : Int32) (S : Stt) (H : Heap) (locs : List Loc) (ls : Array Slot), kb x1 x2 x3 S = some res → va_P D vwCl (wl 19 ad (cfM ad cI S)) H → va_S (Ar 19 ad) s.heap H locs → lv_has ls 5 [(0, .ref (ad 0)), (1, .int x1), (2, .int x2), (3, .int x3)] → W p l e (rmD (dd + 1)) s m args below meth c H locs 0 0 (MQ below (QV D 19 ad (cfM ad cI res)) args s 0 0 (Ar 19 ad)) (F0 m 61 ls [])) (hke : ∀ (S : Stt) (H : Heap) (locs : List Loc) (ls : Array Slot), ke S = some res → va_P D vwCl (wl 19 ad (cfM ad cI S)) H → va_S (Ar 19 ad) s.heap H locs → lv_has ls 5 [] → W p l e (rmD (dd + 1)) s m args below meth c H locs 0 0 (MQ below (QV D 19 ad (cfM ad cI res)) args s 0 0 (Ar 19 ad)) (F0 m 111 ls [])) : ∀ (x1 : Int32) (x2 : Int32) (x3 : Int32) (S : Stt) (H : Heap) (locs : List Loc) (ls : Array Slot), fb_X8_readOn_61 fr kb ke x1 x2 x3 S = some res → va_P D vwCl (wl 19 ad (cfM ad cI S)) H → va_S (Ar 19 ad) s.heap H locs → lv_has ls 5 [(0, .ref (ad 0)), (1, .int x1), (2, .int x2), (3, .int x3)] → W p l e (rmD (dd + 1)) s m args below meth c H locs 0 0 (MQ below (QV D 19 ad (cfM ad cI res)) args s 0 0 (Ar 19 ad)) (F0 m 61 ls []) := by
  intro x1 x2 x3 S H locs ls hf hP hS hl
  have hx := X.1.1
  have hb := X.1.2.1
  unfold fb_X8_readOn_61 at hf
  refine lv_iload_n hx hb dX8_readOn_61 rfl (lv_at hl 3 rfl) ?_
  refine lv_aload_n hx hb dX8_readOn_62 rfl (lv_at hl 0 rfl) ?_
  refine g_M_many X hP  tw_86 dX8_readOn_63 ?_
  refine lv_icmp_ge (tgt := 111) hx hb dX8_readOn_66 (by decide) (fun c2 => ?_) (fun c2 => ?_)
  · rw [if_pos c2] at hf
    exact hke  _ _ _ ls hf  hP hS (lv_sub hl [] rfl)
  · rw [if_neg c2] at hf
    refine lv_iload_n hx hb dX8_readOn_69 rfl (lv_at hl 2 rfl) ?_
    refine lv_iload_n hx hb dX8_readOn_70 rfl (lv_at hl 3 rfl) ?_
    obtain ⟨q3, e4, hf⟩ := bind_some hf
    refine aftI hS (cS (rest := []) X hP hS [.int x2, .int x3] (m_X8_has  e4) cw_X8_has tw_333 tw_590 (fits9 (by first | decide | omega) (by decide)) rfl rfl hl.1 (Nat.le_of_ble_eq_true rfl) dX8_readOn_71 ⟨Nat.zero_le _, Nat.zero_le _⟩) (fun H locs hP hS => ?_)
    refine lv_if_eq (tgt := 105) hx hb dX8_readOn_74 (by decide) (fun c5 => ?_) (fun c5 => ?_)
    · rw [if_pos c5] at hf
      refine lv_iinc (v := (x3 + (1 : Int32))) (lv' := [(3, .int (x3 + (1 : Int32))), (0, .ref (ad 0)), (1, .int x1), (2, .int x2)]) hx hb dX8_readOn_105 hl (k := 3) rfl rfl (by decide) rfl (fun ls hl => ?_)
      refine lv_goto (tgt := 61) hx hb dX8_readOn_108 (by decide) ?_
      exact hkb _ _ _ _ _ _ ls hf  hP hS (lv_sub hl [1, 2, 3, 0] rfl)
    · rw [if_neg c5] at hf
      refine lv_aload_n hx hb dX8_readOn_77 rfl (lv_at hl 0 rfl) ?_
      refine g_M_laid X hP  tw_101 dX8_readOn_78 ?_
      refine lv_iload_n hx hb dX8_readOn_81 rfl (lv_at hl 1 rfl) ?_
      refine lv_iload_n hx hb dX8_readOn_82 rfl (lv_at hl 3 rfl) ?_
      obtain ⟨g6, hf⟩ := grd_some hf
      refine w_m_laid X hP hS  g6 dX8_readOn_83 (fun H locs hP hS => ?_)
      refine lv_aload_n hx hb dX8_readOn_84 rfl (lv_at hl 0 rfl) ?_
      refine g_M_days X hP  tw_92 dX8_readOn_85 ?_
      refine lv_iload_n hx hb dX8_readOn_88 rfl (lv_at hl 3 rfl) ?_
      refine lv_iload_n hx hb dX8_readOn_89 rfl (lv_at hl 1 rfl) ?_
      obtain ⟨g7, hf⟩ := grd_some hf
      refine w_m_days X hP hS  g7 dX8_readOn_90 (fun H locs hP hS => ?_)
      refine lv_aload_n hx hb dX8_readOn_91 rfl (lv_at hl 0 rfl) ?_
      refine lv_iload_n hx hb dX8_readOn_92 rfl (lv_at hl 1 rfl) ?_
      refine lv_iconst (v := (1 : Int32)) hx hb dX8_readOn_93 (by decide) ?_
      refine lv_iadd hx hb dX8_readOn_94 ?_
      refine lv_iload_n hx hb dX8_readOn_95 rfl (lv_at hl 2 rfl) ?_
      refine lv_iconst (v := (1 : Int32)) hx hb dX8_readOn_96 (by decide) ?_
      refine lv_iload_n hx hb dX8_readOn_97 rfl (lv_at hl 3 rfl) ?_
      refine lv_ishl hx hb dX8_readOn_98 ?_
      refine lv_iconst (v := (-1 : Int32)) hx hb dX8_readOn_99 (by decide) ?_
      refine lv_ixor hx hb dX8_readOn_100 ?_
      refine lv_iand hx hb dX8_readOn_101 ?_
      obtain ⟨q8, e9, hf⟩ := bind_some hf
      refine aftV hS (cV (rest := []) X hP hS [.int (x1 + (1 : Int32)), .int (x2 &&& (((1 : Int32) <<< (x3 &&& 31)) ^^^ (-1 : Int32)))] (hfr  e9) cw_X8_readOn tw_365 tw_622 tw_829 (by decide) (cf_M ) rfl (fits9 (by first | decide | omega) (by decide)) rfl rfl hl.1 (Nat.le_of_ble_eq_true rfl) dX8_readOn_102 ⟨Nat.zero_le _, Nat.zero_le _⟩) (fun H locs hP hS => ?_)
      refine lv_iinc (v := (x3 + (1 : Int32))) (lv' := [(3, .int (x3 + (1 : Int32))), (0, .ref (ad 0)), (1, .int x1), (2, .int x2)]) hx hb dX8_readOn_105 hl (k := 3) rfl rfl (by decide) rfl (fun ls hl => ?_)
      refine lv_goto (tgt := 61) hx hb dX8_readOn_108 (by decide) ?_
      exact hkb _ _ _ _ _ _ ls hf  hP hS (lv_sub hl [1, 2, 3, 0] rfl)
set_option maxHeartbeats 4000000 in
set_option maxRecDepth 100000 in
theorem vl_X8_readOn_61 (X : Cx D cI cP cB cA 19 ad tL tC p s m c cX8_readOn 5 args RX8) (hr : meth.sig.returnType = none) (hlk : meth.locks = false) {res : Stt} {fr : Int32 → Int32 → Stt → Option (Stt)} {dd : Nat} (hdd : 7 ≤ dd) (hfr : ∀  {x1 : Int32} {x2 : Int32} {S : Stt} {res : Stt}, fr x1 x2 S = some res → Ct l D cI cP cB cA 19 ad tL tC yX8_readOn cX8_readOn 5 none dd [.ref (ad 0), .int x1, .int x2] (cfM ad cI S) (QV D 19 ad (cfM ad cI res))) (ke : Stt → Option (Stt)) (hke : ∀ (S : Stt) (H : Heap) (locs : List Loc) (ls : Array Slot), ke S = some res → va_P D vwCl (wl 19 ad (cfM ad cI S)) H → va_S (Ar 19 ad) s.heap H locs → lv_has ls 5 [] → W p l e (rmD (dd + 1)) s m args below meth c H locs 0 0 (MQ below (QV D 19 ad (cfM ad cI res)) args s 0 0 (Ar 19 ad)) (F0 m 111 ls [])) : ∀ (n : Nat), ∀ (x1 : Int32) (x2 : Int32) (x3 : Int32) (S : Stt) (H : Heap) (locs : List Loc) (ls : Array Slot), fl_X8_readOn_61 fr ke n x1 x2 x3 S = some res → va_P D vwCl (wl 19 ad (cfM ad cI S)) H → va_S (Ar 19 ad) s.heap H locs → lv_has ls 5 [(0, .ref (ad 0)), (1, .int x1), (2, .int x2), (3, .int x3)] → W p l e (rmD (dd + 1)) s m args below meth c H locs 0 0 (MQ below (QV D 19 ad (cfM ad cI res)) args s 0 0 (Ar 19 ad)) (F0 m 61 ls []) := by
  intro n
  induction n with
  | zero =>
    intro x1 x2 x3 S H locs ls hf hP hS hl
    cases hf
  | succ n ih =>
    intro x1 x2 x3 S H locs ls hf hP hS hl
    exact vb_X8_readOn_61 X hr hlk hdd hfr _ ke ih hke x1 x2 x3 S H locs ls hf  hP hS hl
set_option maxHeartbeats 4000000 in
set_option maxRecDepth 100000 in
theorem vb_X8_readOn_29 (X : Cx D cI cP cB cA 19 ad tL tC p s m c cX8_readOn 5 args RX8) (hr : meth.sig.returnType = none) (hlk : meth.locks = false) {res : Stt} {fr : Int32 → Int32 → Stt → Option (Stt)} {dd : Nat} (hdd : 7 ≤ dd) (hfr : ∀  {x1 : Int32} {x2 : Int32} {S : Stt} {res : Stt}, fr x1 x2 S = some res → Ct l D cI cP cB cA 19 ad tL tC yX8_readOn cX8_readOn 5 none dd [.ref (ad 0), .int x1, .int x2] (cfM ad cI S) (QV D 19 ad (cfM ad cI res))) (kb : Int32 → Stt → Option (Stt)) (ke : Stt → Option (Stt)) (hkb : ∀ (x4 : Int32) (S : Stt) (H : Heap) (locs : List Loc) (ls : Array Slot), kb x4 S = some res → va_P D vwCl (wl 19 ad (cfM ad cI S)) H → va_S (Ar 19 ad) s.heap H locs → lv_has ls 5 [(0, .ref (ad 0)), (4, .int x4)] → W p l e (rmD (dd + 1)) s m args below meth c H locs 0 0 (MQ below (QV D 19 ad (cfM ad cI res)) args s 0 0 (Ar 19 ad)) (F0 m 29 ls [])) (hke : ∀ (S : Stt) (H : Heap) (locs : List Loc) (ls : Array Slot), ke S = some res → va_P D vwCl (wl 19 ad (cfM ad cI S)) H → va_S (Ar 19 ad) s.heap H locs → lv_has ls 5 [] → W p l e (rmD (dd + 1)) s m args below meth c H locs 0 0 (MQ below (QV D 19 ad (cfM ad cI res)) args s 0 0 (Ar 19 ad)) (F0 m 58 ls [])) : ∀ (x4 : Int32) (S : Stt) (H : Heap) (locs : List Loc) (ls : Array Slot), fb_X8_readOn_29 fr kb ke x4 S = some res → va_P D vwCl (wl 19 ad (cfM ad cI S)) H → va_S (Ar 19 ad) s.heap H locs → lv_has ls 5 [(0, .ref (ad 0)), (4, .int x4)] → W p l e (rmD (dd + 1)) s m args below meth c H locs 0 0 (MQ below (QV D 19 ad (cfM ad cI res)) args s 0 0 (Ar 19 ad)) (F0 m 29 ls []) := by
  intro x4 S H locs ls hf hP hS hl
  have hx := X.1.1
  have hb := X.1.2.1
  unfold fb_X8_readOn_29 at hf
  refine lv_iload hx hb dX8_readOn_29 (lv_at hl 1 rfl) ?_
  refine lv_aload_n hx hb dX8_readOn_31 rfl (lv_at hl 0 rfl) ?_
  refine g_M_many X hP  tw_86 dX8_readOn_32 ?_
  refine lv_icmp_ge (tgt := 58) hx hb dX8_readOn_35 (by decide) (fun c13 => ?_) (fun c13 => ?_)
  · rw [if_pos c13] at hf
    exact hke  _ _ _ ls hf  hP hS (lv_sub hl [] rfl)
  · rw [if_neg c13] at hf
    refine lv_aload_n hx hb dX8_readOn_38 rfl (lv_at hl 0 rfl) ?_
    refine g_M_bestLaid X hP  tw_105 dX8_readOn_39 ?_
    refine lv_iload hx hb dX8_readOn_42 (lv_at hl 1 rfl) ?_
    refine lv_aload_n hx hb dX8_readOn_44 rfl (lv_at hl 0 rfl) ?_
    refine g_M_laid X hP  tw_101 dX8_readOn_45 ?_
    refine lv_iload hx hb dX8_readOn_48 (lv_at hl 1 rfl) ?_
    obtain ⟨g14, hf⟩ := grd_some hf
    refine r_m_laid X hP  g14 dX8_readOn_50 ?_
    obtain ⟨g15, hf⟩ := grd_some hf
    refine w_m_bestLaid X hP hS  g15 dX8_readOn_51 (fun H locs hP hS => ?_)
    refine lv_iinc (v := (x4 + (1 : Int32))) (lv' := [(4, .int (x4 + (1 : Int32))), (0, .ref (ad 0))]) hx hb dX8_readOn_52 hl (k := 1) rfl rfl (by decide) rfl (fun ls hl => ?_)
    refine lv_goto (tgt := 29) hx hb dX8_readOn_55 (by decide) ?_
    exact hkb _ _ _ _ ls hf  hP hS (lv_sub hl [1, 0] rfl)
set_option maxHeartbeats 4000000 in
set_option maxRecDepth 100000 in
theorem vl_X8_readOn_29 (X : Cx D cI cP cB cA 19 ad tL tC p s m c cX8_readOn 5 args RX8) (hr : meth.sig.returnType = none) (hlk : meth.locks = false) {res : Stt} {fr : Int32 → Int32 → Stt → Option (Stt)} {dd : Nat} (hdd : 7 ≤ dd) (hfr : ∀  {x1 : Int32} {x2 : Int32} {S : Stt} {res : Stt}, fr x1 x2 S = some res → Ct l D cI cP cB cA 19 ad tL tC yX8_readOn cX8_readOn 5 none dd [.ref (ad 0), .int x1, .int x2] (cfM ad cI S) (QV D 19 ad (cfM ad cI res))) (ke : Stt → Option (Stt)) (hke : ∀ (S : Stt) (H : Heap) (locs : List Loc) (ls : Array Slot), ke S = some res → va_P D vwCl (wl 19 ad (cfM ad cI S)) H → va_S (Ar 19 ad) s.heap H locs → lv_has ls 5 [] → W p l e (rmD (dd + 1)) s m args below meth c H locs 0 0 (MQ below (QV D 19 ad (cfM ad cI res)) args s 0 0 (Ar 19 ad)) (F0 m 58 ls [])) : ∀ (n : Nat), ∀ (x4 : Int32) (S : Stt) (H : Heap) (locs : List Loc) (ls : Array Slot), fl_X8_readOn_29 fr ke n x4 S = some res → va_P D vwCl (wl 19 ad (cfM ad cI S)) H → va_S (Ar 19 ad) s.heap H locs → lv_has ls 5 [(0, .ref (ad 0)), (4, .int x4)] → W p l e (rmD (dd + 1)) s m args below meth c H locs 0 0 (MQ below (QV D 19 ad (cfM ad cI res)) args s 0 0 (Ar 19 ad)) (F0 m 29 ls []) := by
  intro n
  induction n with
  | zero =>
    intro x4 S H locs ls hf hP hS hl
    cases hf
  | succ n ih =>
    intro x4 S H locs ls hf hP hS hl
    exact vb_X8_readOn_29 X hr hlk hdd hfr _ ke ih hke x4 S H locs ls hf  hP hS hl
end
section
variable {p : Program} {l : Launch} {e : Env} {s : State} {m : MethodId} {args : Array Value} {below : List Frame} {meth : Method} {c : Code}
variable {D : va_G} {cI cP cB cA : ClassId} {ad : Nat → Nat} {tL tC : Nat}
set_option maxHeartbeats 4000000 in
set_option maxRecDepth 100000 in
theorem mo_X8_readOn {fr : Int32 → Int32 → Stt → Option (Stt)} {dd : Nat} (hdd : 7 ≤ dd) (hfr : ∀  {x1 : Int32} {x2 : Int32} {S : Stt} {res : Stt}, fr x1 x2 S = some res → Ct l D cI cP cB cA 19 ad tL tC yX8_readOn cX8_readOn 5 none dd [.ref (ad 0), .int x1, .int x2] (cfM ad cI S) (QV D 19 ad (cfM ad cI res)))  {x1 : Int32} {x2 : Int32} {S : Stt} {res : Stt} (hf : fo_X8_readOn fr x1 x2 S = some res) : Ct l D cI cP cB cA 19 ad tL tC yX8_readOn cX8_readOn 5 none (dd + 1) [.ref (ad 0), .int x1, .int x2] (cfM ad cI S) (QV D 19 ad (cfM ad cI res)) := by
  refine ctOf (by decide) (Nat.le_of_ble_eq_true rfl) ?_
  intro p e s m args below meth c ls X hr hlk hP hl
  have hS : va_S (Ar 19 ad) s.heap s.heap [] := va_S.rf
  have hx := X.1.1
  have hb := X.1.2.1
  have hl : lv_has ls 5 [(0, .ref (ad 0)), (1, .int x1), (2, .int x2)] := hl
  unfold fo_X8_readOn at hf
  refine lv_iload_n hx hb dX8_readOn_0 rfl (lv_at hl 1 rfl) ?_
  refine lv_aload_n hx hb dX8_readOn_1 rfl (lv_at hl 0 rfl) ?_
  refine g_M_many X hP  tw_86 dX8_readOn_2 ?_
  refine lv_icmp_ne (tgt := 59) hx hb dX8_readOn_5 (by decide) (fun c1 => ?_) (fun c1 => ?_)
  · rw [if_neg c1] at hf
    refine lv_iconst (v := (0 : Int32)) hx hb dX8_readOn_59 (by decide) ?_
    refine lv_istore_n (lv' := [(3, .int (0 : Int32)), (0, .ref (ad 0)), (1, .int x1), (2, .int x2)]) hx hb dX8_readOn_60 rfl hl (by decide) rfl (fun ls hl => ?_)
    refine vl_X8_readOn_61 X hr hlk hdd hfr _ ?_ 300 _ _ _ _ _ _ ls hf  hP hS (lv_sub hl [1, 2, 3, 0] rfl)
    intro S H locs ls hf hP hS hl
    cases hf
    exact rtV X hr hlk hP hS dX8_readOn_111
  · rw [if_pos c1] at hf
    refine lv_aload_n hx hb dX8_readOn_8 rfl (lv_at hl 0 rfl) ?_
    obtain ⟨q10, e11, hf⟩ := bind_some hf
    refine aftI hS (cV (rest := []) X hP hS [] (m_X8_allWaits  e11) cw_X8_allWaits tw_349 tw_606 tw_813 (by decide) (cf_M ) rfl (fits9 (by first | decide | omega) (by decide)) rfl rfl hl.1 (Nat.le_of_ble_eq_true rfl) dX8_readOn_9 ⟨Nat.zero_le _, Nat.zero_le _⟩) (fun H locs hP hS => ?_)
    refine lv_istore_n (lv' := [(3, .int q10.1), (0, .ref (ad 0)), (1, .int x1), (2, .int x2)]) hx hb dX8_readOn_12 rfl hl (by decide) rfl (fun ls hl => ?_)
    refine lv_iload_n hx hb dX8_readOn_13 rfl (lv_at hl 0 rfl) ?_
    refine lv_aload_n hx hb dX8_readOn_14 rfl (lv_at hl 1 rfl) ?_
    refine g_M_bestWaits X hP  tw_104 dX8_readOn_15 ?_
    refine lv_icmp_ge (tgt := 58) hx hb dX8_readOn_18 (by decide) (fun c12 => ?_) (fun c12 => ?_)
    · rw [if_pos c12] at hf
      cases hf
      exact rtV X hr hlk hP hS dX8_readOn_58
    · rw [if_neg c12] at hf
      refine lv_aload_n hx hb dX8_readOn_21 rfl (lv_at hl 1 rfl) ?_
      refine lv_iload_n hx hb dX8_readOn_22 rfl (lv_at hl 0 rfl) ?_
      refine p_M_bestWaits X hP hS  tw_104 dX8_readOn_23 (fun H locs hP hS => ?_)
      refine lv_iconst (v := (0 : Int32)) hx hb dX8_readOn_26 (by decide) ?_
      refine lv_istore (lv' := [(4, .int (0 : Int32)), (3, .int q10.1), (0, .ref (ad 0)), (1, .int x1), (2, .int x2)]) hx hb dX8_readOn_27 hl (by decide) rfl (fun ls hl => ?_)
      refine vl_X8_readOn_29 X hr hlk hdd hfr _ ?_ 300 _ _ _ _ ls hf  hP hS (lv_sub hl [2, 0] rfl)
      intro S H locs ls hf hP hS hl
      cases hf
      exact rtV X hr hlk hP hS dX8_readOn_58
end
set_option maxHeartbeats 4000000 in
set_option maxRecDepth 100000 in
theorem m_X8_readOn {l : Launch} {D : va_G} {cI cP cB cA : ClassId} {ad : Nat → Nat} {tL tC : Nat} : ∀ (n : Nat) {x1 : Int32} {x2 : Int32} {S : Stt} {res : Stt}, f_X8_readOn n x1 x2 S = some res → Ct l D cI cP cB cA 19 ad tL tC yX8_readOn cX8_readOn 5 none (7 + n) [.ref (ad 0), .int x1, .int x2] (cfM ad cI S) (QV D 19 ad (cfM ad cI res)) := by
  intro n
  induction n with
  | zero =>
    intro x1 x2  S res hf
    cases hf
  | succ n ih =>
    intro x1 x2  S res hf
    exact mo_X8_readOn (fr := f_X8_readOn n) (dd := (7 + n)) (by omega) ih  hf
/-! X8_best -/
section
variable {p : Program} {l : Launch} {e : Env} {s : State} {m : MethodId} {args : Array Value} {below : List Frame} {meth : Method} {c : Code}
variable {D : va_G} {cI cP cB cA : ClassId} {ad : Nat → Nat} {tL tC : Nat}
set_option maxHeartbeats 4000000 in
set_option maxRecDepth 100000 in
theorem vb_X8_best_58 (X : Cx D cI cP cB cA 19 ad tL tC p s m c cX8_best 3 args RX8) (hr : meth.sig.returnType = (some .int)) (hlk : meth.locks = false) {res : Int32 × Stt} (kb : Int32 → Int32 → Stt → Option (Int32 × Stt)) (ke : Stt → Option (Int32 × Stt)) (hkb : ∀ (x1 : Int32) (x2 : Int32) (S : Stt) (H : Heap) (locs : List Loc) (ls : Array Slot), kb x1 x2 S = some res → va_P D vwCl (wl 19 ad (cfM ad cI S)) H → va_S (Ar 19 ad) s.heap H locs → lv_has ls 3 [(0, .ref (ad 0)), (1, .int x1), (2, .int x2)] → W p l e (rmD 18) s m args below meth c H locs 0 0 (MQ below (QI D 19 ad res.1 (cfM ad cI res.2)) args s 0 0 (Ar 19 ad)) (F0 m 58 ls [])) (hke : ∀ (S : Stt) (H : Heap) (locs : List Loc) (ls : Array Slot), ke S = some res → va_P D vwCl (wl 19 ad (cfM ad cI S)) H → va_S (Ar 19 ad) s.heap H locs → lv_has ls 3 [(0, .ref (ad 0))] → W p l e (rmD 18) s m args below meth c H locs 0 0 (MQ below (QI D 19 ad res.1 (cfM ad cI res.2)) args s 0 0 (Ar 19 ad)) (F0 m 84 ls [])) : ∀ (x1 : Int32) (x2 : Int32) (S : Stt) (H : Heap) (locs : List Loc) (ls : Array Slot), fb_X8_best_58 kb ke x1 x2 S = some res → va_P D vwCl (wl 19 ad (cfM ad cI S)) H → va_S (Ar 19 ad) s.heap H locs → lv_has ls 3 [(0, .ref (ad 0)), (1, .int x1), (2, .int x2)] → W p l e (rmD 18) s m args below meth c H locs 0 0 (MQ below (QI D 19 ad res.1 (cfM ad cI res.2)) args s 0 0 (Ar 19 ad)) (F0 m 58 ls []) := by
  intro x1 x2 S H locs ls hf hP hS hl
  have hx := X.1.1
  have hb := X.1.2.1
  unfold fb_X8_best_58 at hf
  refine lv_iload_n hx hb dX8_best_58 rfl (lv_at hl 2 rfl) ?_
  refine lv_aload_n hx hb dX8_best_59 rfl (lv_at hl 0 rfl) ?_
  refine g_M_many X hP  tw_86 dX8_best_60 ?_
  refine lv_icmp_ge (tgt := 84) hx hb dX8_best_63 (by decide) (fun c13 => ?_) (fun c13 => ?_)
  · rw [if_pos c13] at hf
    exact hke  _ _ _ ls hf  hP hS (lv_sub hl [0] rfl)
  · rw [if_neg c13] at hf
    refine lv_aload_n hx hb dX8_best_66 rfl (lv_at hl 0 rfl) ?_
    refine lv_iload_n hx hb dX8_best_67 rfl (lv_at hl 1 rfl) ?_
    refine lv_iload_n hx hb dX8_best_68 rfl (lv_at hl 2 rfl) ?_
    refine lv_aload_n hx hb dX8_best_69 rfl (lv_at hl 0 rfl) ?_
    refine g_M_bestLaid X hP  tw_105 dX8_best_70 ?_
    refine lv_iload_n hx hb dX8_best_73 rfl (lv_at hl 2 rfl) ?_
    obtain ⟨g14, hf⟩ := grd_some hf
    refine r_m_bestLaid X hP  g14 dX8_best_74 ?_
    obtain ⟨q15, e16, hf⟩ := bind_some hf
    refine aftV hS (cV (rest := []) X hP hS [.int x1, .int x2, .int (S.1 18 0 x2.toNatClampNeg)] (m_X8_setRow  e16) cw_X8_setRow tw_290 tw_548 tw_767 (by decide) (cf_M ) rfl (fits9 (by first | decide | omega) (by decide)) rfl rfl hl.1 (Nat.le_of_ble_eq_true rfl) dX8_best_75 ⟨Nat.zero_le _, Nat.zero_le _⟩) (fun H locs hP hS => ?_)
    refine lv_iinc (v := (x2 + (1 : Int32))) (lv' := [(2, .int (x2 + (1 : Int32))), (0, .ref (ad 0)), (1, .int x1)]) hx hb dX8_best_78 hl (k := 2) rfl rfl (by decide) rfl (fun ls hl => ?_)
    refine lv_goto (tgt := 58) hx hb dX8_best_81 (by decide) ?_
    exact hkb _ _ _ _ _ ls hf  hP hS (lv_sub hl [1, 2, 0] rfl)
set_option maxHeartbeats 4000000 in
set_option maxRecDepth 100000 in
theorem vl_X8_best_58 (X : Cx D cI cP cB cA 19 ad tL tC p s m c cX8_best 3 args RX8) (hr : meth.sig.returnType = (some .int)) (hlk : meth.locks = false) {res : Int32 × Stt} (ke : Stt → Option (Int32 × Stt)) (hke : ∀ (S : Stt) (H : Heap) (locs : List Loc) (ls : Array Slot), ke S = some res → va_P D vwCl (wl 19 ad (cfM ad cI S)) H → va_S (Ar 19 ad) s.heap H locs → lv_has ls 3 [(0, .ref (ad 0))] → W p l e (rmD 18) s m args below meth c H locs 0 0 (MQ below (QI D 19 ad res.1 (cfM ad cI res.2)) args s 0 0 (Ar 19 ad)) (F0 m 84 ls [])) : ∀ (n : Nat), ∀ (x1 : Int32) (x2 : Int32) (S : Stt) (H : Heap) (locs : List Loc) (ls : Array Slot), fl_X8_best_58 ke n x1 x2 S = some res → va_P D vwCl (wl 19 ad (cfM ad cI S)) H → va_S (Ar 19 ad) s.heap H locs → lv_has ls 3 [(0, .ref (ad 0)), (1, .int x1), (2, .int x2)] → W p l e (rmD 18) s m args below meth c H locs 0 0 (MQ below (QI D 19 ad res.1 (cfM ad cI res.2)) args s 0 0 (Ar 19 ad)) (F0 m 58 ls []) := by
  intro n
  induction n with
  | zero =>
    intro x1 x2 S H locs ls hf hP hS hl
    cases hf
  | succ n ih =>
    intro x1 x2 S H locs ls hf hP hS hl
    exact vb_X8_best_58 X hr hlk _ ke ih hke x1 x2 S H locs ls hf  hP hS hl
end
set_option maxHeartbeats 4000000 in
set_option maxRecDepth 100000 in
theorem m_X8_best {l : Launch} {D : va_G} {cI cP cB cA : ClassId} {ad : Nat → Nat} {tL tC : Nat} {x1 : Int32} {S : Stt} {res : Int32 × Stt} (hf : f_X8_best x1 S = some res) : Ct l D cI cP cB cA 19 ad tL tC yX8_best cX8_best 3 (some .int) 18 [.ref (ad 0), .int x1] (cfM ad cI S) (QI D 19 ad res.1 (cfM ad cI res.2)) := by
  refine ctOf (by decide) (Nat.le_of_ble_eq_true rfl) ?_
  intro p e s m args below meth c ls X hr hlk hP hl
  have hS : va_S (Ar 19 ad) s.heap s.heap [] := va_S.rf
  have hx := X.1.1
  have hb := X.1.2.1
  have hl : lv_has ls 3 [(0, .ref (ad 0)), (1, .int x1)] := hl
  unfold f_X8_best at hf
  refine lv_iload_n hx hb dX8_best_0 rfl (lv_at hl 1 rfl) ?_
  obtain ⟨q1, e2, hf⟩ := bind_some hf
  refine aftI hS (cS (rest := []) X hP hS [.int x1] (m_X8_isRow  e2) cw_X8_isRow tw_287 tw_545 (fits9 (by first | decide | omega) (by decide)) rfl rfl hl.1 (Nat.le_of_ble_eq_true rfl) dX8_best_1 ⟨Nat.zero_le _, Nat.zero_le _⟩) (fun H locs hP hS => ?_)
  refine lv_if_ne (tgt := 9) hx hb dX8_best_4 (by decide) (fun c3 => ?_) (fun c3 => ?_)
  · rw [if_neg c3] at hf
    refine lv_aload_n hx hb dX8_best_9 rfl (lv_at hl 0 rfl) ?_
    refine g_M_many X hP  tw_86 dX8_best_10 ?_
    refine lv_if_ne (tgt := 19) hx hb dX8_best_13 (by decide) (fun c4 => ?_) (fun c4 => ?_)
    · rw [if_neg c4] at hf
      refine lv_aload_n hx hb dX8_best_19 rfl (lv_at hl 0 rfl) ?_
      obtain ⟨q5, e6, hf⟩ := bind_some hf
      refine aftV hS (cV (rest := []) X hP hS [] (m_X8_putAside  e6) cw_X8_putAside tw_364 tw_621 tw_827 (by decide) (cf_M ) rfl (fits9 (by first | decide | omega) (by decide)) rfl rfl hl.1 (Nat.le_of_ble_eq_true rfl) dX8_best_20 ⟨Nat.zero_le _, Nat.zero_le _⟩) (fun H locs hP hS => ?_)
      refine lv_aload_n hx hb dX8_best_23 rfl (lv_at hl 0 rfl) ?_
      refine lv_ldc (v := (1048576 : Int32)) hx hb X.1.2.2.2.1 (X.1.2.2.2.2 _ tw_613) dX8_best_24 ?_
      refine p_M_bestWaits X hP hS  tw_104 dX8_best_26 (fun H locs hP hS => ?_)
      refine lv_aload_n hx hb dX8_best_29 rfl (lv_at hl 0 rfl) ?_
      refine lv_iconst (v := (0 : Int32)) hx hb dX8_best_30 (by decide) ?_
      refine lv_iconst (v := (1 : Int32)) hx hb dX8_best_31 (by decide) ?_
      refine lv_aload_n hx hb dX8_best_32 rfl (lv_at hl 0 rfl) ?_
      refine g_M_many X hP  tw_86 dX8_best_33 ?_
      refine lv_ishl hx hb dX8_best_36 ?_
      refine lv_iconst (v := (1 : Int32)) hx hb dX8_best_37 (by decide) ?_
      refine lv_isub hx hb dX8_best_38 ?_
      obtain ⟨q7, e8, hf⟩ := bind_some hf
      refine aftV hS (cV (rest := []) X hP hS [.int (0 : Int32), .int (((1 : Int32) <<< (((put q5 0 28 0 (1048576 : Int32)).1 0 10 0) &&& 31)) - (1 : Int32))] (m_X8_readOn 10  e8) cw_X8_readOn tw_365 tw_622 tw_829 (by decide) (cf_M ) rfl (fits9 (by first | decide | omega) (by decide)) rfl rfl hl.1 (Nat.le_of_ble_eq_true rfl) dX8_best_39 ⟨Nat.zero_le _, Nat.zero_le _⟩) (fun H locs hP hS => ?_)
      refine lv_aload_n hx hb dX8_best_42 rfl (lv_at hl 0 rfl) ?_
      obtain ⟨q9, e10, hf⟩ := bind_some hf
      refine aftV hS (cV (rest := []) X hP hS [] (m_X8_comeBack  e10) cw_X8_comeBack tw_366 tw_623 tw_828 (by decide) (cf_M ) rfl (fits9 (by first | decide | omega) (by decide)) rfl rfl hl.1 (Nat.le_of_ble_eq_true rfl) dX8_best_43 ⟨Nat.zero_le _, Nat.zero_le _⟩) (fun H locs hP hS => ?_)
      refine lv_aload_n hx hb dX8_best_46 rfl (lv_at hl 0 rfl) ?_
      refine lv_iload_n hx hb dX8_best_47 rfl (lv_at hl 1 rfl) ?_
      refine lv_aload_n hx hb dX8_best_48 rfl (lv_at hl 0 rfl) ?_
      refine g_M_many X hP  tw_86 dX8_best_49 ?_
      obtain ⟨q11, e12, hf⟩ := bind_some hf
      refine aftI hS (cV (rest := []) X hP hS [.int x1, .int (q9.1 0 10 0)] (m_X8_row  e12) cw_X8_row tw_355 tw_544 tw_768 (by decide) (cf_M ) rfl (fits9 (by first | decide | omega) (by decide)) rfl rfl hl.1 (Nat.le_of_ble_eq_true rfl) dX8_best_52 ⟨Nat.zero_le _, Nat.zero_le _⟩) (fun H locs hP hS => ?_)
      refine lv_pop hx hb dX8_best_55 rfl ?_
      refine lv_iconst (v := (0 : Int32)) hx hb dX8_best_56 (by decide) ?_
      refine lv_istore_n (lv' := [(2, .int (0 : Int32)), (0, .ref (ad 0)), (1, .int x1)]) hx hb dX8_best_57 rfl hl (by decide) rfl (fun ls hl => ?_)
      refine vl_X8_best_58 X hr hlk _ ?_ 300 _ _ _ _ _ ls hf  hP hS (lv_sub hl [1, 2, 0] rfl)
      intro S H locs ls hf hP hS hl
      refine lv_aload_n hx hb dX8_best_84 rfl (lv_at hl 0 rfl) ?_
      refine g_M_bestWaits X hP  tw_104 dX8_best_85 ?_
      cases hf
      exact rtI X hr hlk hP hS dX8_best_88
    · rw [if_pos c4] at hf
      refine lv_bipush (v := (-4 : Int32)) hx hb dX8_best_16 (by decide) ?_
      cases hf
      exact rtI X hr hlk hP hS dX8_best_18
  · rw [if_pos c3] at hf
    refine lv_iconst (v := (-1 : Int32)) hx hb dX8_best_7 (by decide) ?_
    cases hf
    exact rtI X hr hlk hP hS dX8_best_8
/-! X8_order -/
section
variable {p : Program} {l : Launch} {e : Env} {s : State} {m : MethodId} {args : Array Value} {below : List Frame} {meth : Method} {c : Code}
variable {D : va_G} {cI cP cB cA : ClassId} {ad : Nat → Nat} {tL tC : Nat}
set_option maxHeartbeats 4000000 in
set_option maxRecDepth 100000 in
theorem vj_X8_order_17 (X : Cx D cI cP cB cA 19 ad tL tC p s m c cX8_order 4 args RX8) (hr : meth.sig.returnType = (some .int)) (hlk : meth.locks = false) {res : Int32 × Stt} : ∀ (x1 : Int32) (x2 : Int32) (xt0 : Int32) (S : Stt) (H : Heap) (locs : List Loc) (ls : Array Slot), fj_X8_order_17 x1 x2 xt0 S = some res → va_P D vwCl (wl 19 ad (cfM ad cI S)) H → va_S (Ar 19 ad) s.heap H locs → lv_has ls 4 [(0, .ref (ad 0)), (1, .int x1), (2, .int x2)] → W p l e (rmD 18) s m args below meth c H locs 0 0 (MQ below (QI D 19 ad res.1 (cfM ad cI res.2)) args s 0 0 (Ar 19 ad)) (F0 m 17 ls [.int xt0]) := by
  intro x1 x2 xt0 S H locs ls hf hP hS hl
  have hx := X.1.1
  have hb := X.1.2.1
  unfold fj_X8_order_17 at hf
  refine lv_istore_n (lv' := [(3, .int xt0), (0, .ref (ad 0)), (1, .int x1), (2, .int x2)]) hx hb dX8_order_17 rfl hl (by decide) rfl (fun ls hl => ?_)
  refine lv_iload_n hx hb dX8_order_18 rfl (lv_at hl 0 rfl) ?_
  refine lv_if_ge (tgt := 24) hx hb dX8_order_19 (by decide) (fun c6 => ?_) (fun c6 => ?_)
  · rw [if_pos c6] at hf
    refine lv_aload_n hx hb dX8_order_24 rfl (lv_at hl 1 rfl) ?_
    refine lv_ldc (v := (1048576 : Int32)) hx hb X.1.2.2.2.1 (X.1.2.2.2.2 _ tw_613) dX8_order_25 ?_
    refine p_M_bestLast X hP hS  tw_100 dX8_order_27 (fun H locs hP hS => ?_)
    refine lv_aload_n hx hb dX8_order_30 rfl (lv_at hl 1 rfl) ?_
    refine lv_iload_n hx hb dX8_order_31 rfl (lv_at hl 2 rfl) ?_
    refine lv_iconst (v := (0 : Int32)) hx hb dX8_order_32 (by decide) ?_
    refine lv_iconst (v := (1 : Int32)) hx hb dX8_order_33 (by decide) ?_
    refine lv_aload_n hx hb dX8_order_34 rfl (lv_at hl 1 rfl) ?_
    refine g_M_sizes X hP  tw_81 dX8_order_35 ?_
    refine lv_iload_n hx hb dX8_order_38 rfl (lv_at hl 2 rfl) ?_
    obtain ⟨g7, hf⟩ := grd_some hf
    refine r_m_sizes X hP  g7 dX8_order_39 ?_
    refine lv_ishl hx hb dX8_order_40 ?_
    refine lv_iconst (v := (1 : Int32)) hx hb dX8_order_41 (by decide) ?_
    refine lv_isub hx hb dX8_order_42 ?_
    refine lv_iconst (v := (-1 : Int32)) hx hb dX8_order_43 (by decide) ?_
    obtain ⟨q8, e9, hf⟩ := bind_some hf
    refine aftV hS (cV (rest := []) X hP hS [.int x1, .int (0 : Int32), .int (((1 : Int32) <<< (((put S 0 24 0 (1048576 : Int32)).1 2 0 x1.toNatClampNeg) &&& 31)) - (1 : Int32)), .int (-1 : Int32)] (m_X8_orderOn 10  e9) cw_X8_orderOn tw_357 tw_614 tw_820 (by decide) (cf_M ) rfl (fits9 (by first | decide | omega) (by decide)) rfl rfl hl.1 (Nat.le_of_ble_eq_true rfl) dX8_order_44 ⟨Nat.zero_le _, Nat.zero_le _⟩) (fun H locs hP hS => ?_)
    refine lv_aload_n hx hb dX8_order_47 rfl (lv_at hl 1 rfl) ?_
    refine g_M_bestLast X hP  tw_100 dX8_order_48 ?_
    refine lv_ldc (v := (1048576 : Int32)) hx hb X.1.2.2.2.1 (X.1.2.2.2.2 _ tw_613) dX8_order_51 ?_
    refine lv_icmp_ne (tgt := 59) hx hb dX8_order_53 (by decide) (fun c10 => ?_) (fun c10 => ?_)
    · rw [if_neg c10] at hf
      refine lv_aload_n hx hb dX8_order_59 rfl (lv_at hl 1 rfl) ?_
      refine lv_iload_n hx hb dX8_order_60 rfl (lv_at hl 3 rfl) ?_
      refine lv_aload_n hx hb dX8_order_61 rfl (lv_at hl 1 rfl) ?_
      refine g_M_sizes X hP  tw_81 dX8_order_62 ?_
      refine lv_iload_n hx hb dX8_order_65 rfl (lv_at hl 2 rfl) ?_
      obtain ⟨g11, hf⟩ := grd_some hf
      refine r_m_sizes X hP  g11 dX8_order_66 ?_
      obtain ⟨q12, e13, hf⟩ := bind_some hf
      refine aftV hS (cV (rest := []) X hP hS [.int x2, .int (q8.1 2 0 x1.toNatClampNeg)] (m_X8_layTold  e13) cw_X8_layTold tw_354 tw_611 tw_818 (by decide) (cf_M ) rfl (fits9 (by first | decide | omega) (by decide)) rfl rfl hl.1 (Nat.le_of_ble_eq_true rfl) dX8_order_67 ⟨Nat.zero_le _, Nat.zero_le _⟩) (fun H locs hP hS => ?_)
      refine lv_aload_n hx hb dX8_order_70 rfl (lv_at hl 1 rfl) ?_
      refine g_M_bestLast X hP  tw_100 dX8_order_71 ?_
      refine lv_if_ge (tgt := 82) hx hb dX8_order_74 (by decide) (fun c14 => ?_) (fun c14 => ?_)
      · rw [if_pos c14] at hf
        refine lv_aload_n hx hb dX8_order_82 rfl (lv_at hl 1 rfl) ?_
        refine g_M_bestLast X hP  tw_100 dX8_order_83 ?_
        cases hf
        exact rtI X hr hlk hP hS dX8_order_86
      · rw [if_neg c14] at hf
        refine lv_bipush (v := (-9 : Int32)) hx hb dX8_order_77 (by decide) ?_
        refine lv_goto (tgt := 86) hx hb dX8_order_79 (by decide) ?_
        cases hf
        exact rtI X hr hlk hP hS dX8_order_86
    · rw [if_pos c10] at hf
      refine lv_bipush (v := (-6 : Int32)) hx hb dX8_order_56 (by decide) ?_
      cases hf
      exact rtI X hr hlk hP hS dX8_order_58
  · rw [if_neg c6] at hf
    refine lv_iload_n hx hb dX8_order_22 rfl (lv_at hl 0 rfl) ?_
    cases hf
    exact rtI X hr hlk hP hS dX8_order_23
end
set_option maxHeartbeats 4000000 in
set_option maxRecDepth 100000 in
theorem m_X8_order {l : Launch} {D : va_G} {cI cP cB cA : ClassId} {ad : Nat → Nat} {tL tC : Nat} {x1 : Int32} {x2 : Int32} {S : Stt} {res : Int32 × Stt} (hf : f_X8_order x1 x2 S = some res) : Ct l D cI cP cB cA 19 ad tL tC yX8_order cX8_order 4 (some .int) 18 [.ref (ad 0), .int x1, .int x2] (cfM ad cI S) (QI D 19 ad res.1 (cfM ad cI res.2)) := by
  refine ctOf (by decide) (Nat.le_of_ble_eq_true rfl) ?_
  intro p e s m args below meth c ls X hr hlk hP hl
  have hS : va_S (Ar 19 ad) s.heap s.heap [] := va_S.rf
  have hx := X.1.1
  have hb := X.1.2.1
  have hl : lv_has ls 4 [(0, .ref (ad 0)), (1, .int x1), (2, .int x2)] := hl
  unfold f_X8_order at hf
  refine lv_iload_n hx hb dX8_order_0 rfl (lv_at hl 2 rfl) ?_
  obtain ⟨q1, e2, hf⟩ := bind_some hf
  refine aftI hS (cS (rest := []) X hP hS [.int x2] (m_X8_isRow  e2) cw_X8_isRow tw_287 tw_545 (fits9 (by first | decide | omega) (by decide)) rfl rfl hl.1 (Nat.le_of_ble_eq_true rfl) dX8_order_1 ⟨Nat.zero_le _, Nat.zero_le _⟩) (fun H locs hP hS => ?_)
  refine lv_if_ne (tgt := 11) hx hb dX8_order_4 (by decide) (fun c3 => ?_) (fun c3 => ?_)
  · rw [if_neg c3] at hf
    refine lv_aload_n hx hb dX8_order_11 rfl (lv_at hl 0 rfl) ?_
    refine lv_iload_n hx hb dX8_order_12 rfl (lv_at hl 1 rfl) ?_
    refine lv_iconst (v := (5 : Int32)) hx hb dX8_order_13 (by decide) ?_
    obtain ⟨q4, e5, hf⟩ := bind_some hf
    refine aftI hS (cV (rest := []) X hP hS [.int x1, .int (5 : Int32)] (m_X8_askedDeeds  e5) cw_X8_askedDeeds tw_353 tw_610 tw_817 (by decide) (cf_M ) rfl (fits9 (by first | decide | omega) (by decide)) rfl rfl hl.1 (Nat.le_of_ble_eq_true rfl) dX8_order_14 ⟨Nat.zero_le _, Nat.zero_le _⟩) (fun H locs hP hS => ?_)
    exact vj_X8_order_17 X hr hlk _ _ _ _ _ _ ls hf  hP hS (lv_sub hl [0, 1, 2] rfl)
  · rw [if_pos c3] at hf
    refine lv_iconst (v := (-1 : Int32)) hx hb dX8_order_7 (by decide) ?_
    refine lv_goto (tgt := 17) hx hb dX8_order_8 (by decide) ?_
    exact vj_X8_order_17 X hr hlk _ _ _ _ _ _ ls hf  hP hS (lv_sub hl [0, 1, 2] rfl)
/-! X2_goOn -/
section
variable {p : Program} {l : Launch} {e : Env} {s : State} {m : MethodId} {args : Array Value} {below : List Frame} {meth : Method} {c : Code}
variable {D : va_G} {cI cP cB cA : ClassId} {ad : Nat → Nat} {tL tC : Nat}
end
section
variable {p : Program} {l : Launch} {e : Env} {s : State} {m : MethodId} {args : Array Value} {below : List Frame} {meth : Method} {c : Code}
variable {D : va_G} {cI cP cB cA : ClassId} {ad : Nat → Nat} {tL tC : Nat}
set_option maxHeartbeats 4000000 in
set_option maxRecDepth 100000 in
theorem m_X2_goOn {fr : Nat → Int32 → Int32 → Stt → Option (Stt)} {dd : Nat} (hdd : 1 ≤ dd) (hfr : ∀  {b1 : Nat} {x3 : Int32} {x4 : Int32} (hb_1_0 : b1 < 5) {S : Stt} {res : Stt}, fr b1 x3 x4 S = some res → Ct l D cI cP cB cA 79 ad tL tC yX2_tryDay cX2_tryDay 7 none dd [.ref (ad 10), .ref (ad (34 + b1)), .ref (ad 8), .int x3, .int x4] (cfC ad cI cP cB cA S) (QV D 79 ad (cfC ad cI cP cB cA res)))  {b1 : Nat} {x3 : Int32} {x4 : Int32} (hb_1_0 : b1 < 5) {S : Stt} {res : Stt} (hf : f_X2_goOn fr b1 x3 x4 S = some res) : Ct l D cI cP cB cA 79 ad tL tC yX2_goOn cX2_goOn 5 none (dd + 1) [.ref (ad 10), .ref (ad (34 + b1)), .ref (ad 8), .int x3, .int x4] (cfC ad cI cP cB cA S) (QV D 79 ad (cfC ad cI cP cB cA res)) := by
  refine ctOf (by decide) (Nat.le_of_ble_eq_true rfl) ?_
  intro p e s m args below meth c ls X hr hlk hP hl
  have hS : va_S (Ar 79 ad) s.heap s.heap [] := va_S.rf
  have hx := X.1.1
  have hb := X.1.2.1
  have hl : lv_has ls 5 [(0, .ref (ad 10)), (1, .ref (ad (34 + b1))), (2, .ref (ad 8)), (3, .int x3), (4, .int x4)] := hl
  unfold f_X2_goOn at hf
  refine lv_iload_n hx hb dX2_goOn_0 rfl (lv_at hl 3 rfl) ?_
  refine lv_iconst (v := (1 : Int32)) hx hb dX2_goOn_1 (by decide) ?_
  refine lv_iadd hx hb dX2_goOn_2 ?_
  refine lv_aload_n hx hb dX2_goOn_3 rfl (lv_at hl 1 rfl) ?_
  refine gN_Book_count X hP hb_1_0 tw_25 dX2_goOn_4 ?_
  refine lv_icmp_ge (tgt := 24) hx hb dX2_goOn_7 (by decide) (fun c1 => ?_) (fun c1 => ?_)
  · rw [if_pos c1] at hf
    refine lv_aload_n hx hb dX2_goOn_24 rfl (lv_at hl 0 rfl) ?_
    refine lv_iload hx hb dX2_goOn_25 (lv_at hl 4 rfl) ?_
    refine p_Orders_least X hP hS  tw_58 dX2_goOn_27 (fun H locs hP hS => ?_)
    refine lv_aload_n hx hb dX2_goOn_30 rfl (lv_at hl 0 rfl) ?_
    refine g_Orders_tried X hP  tw_55 dX2_goOn_31 ?_
    refine lv_iconst (v := (0 : Int32)) hx hb dX2_goOn_34 (by decide) ?_
    refine lv_aload_n hx hb dX2_goOn_35 rfl (lv_at hl 0 rfl) ?_
    refine g_Orders_best X hP  tw_56 dX2_goOn_36 ?_
    refine lv_iconst (v := (0 : Int32)) hx hb dX2_goOn_39 (by decide) ?_
    refine lv_aload_n hx hb dX2_goOn_40 rfl (lv_at hl 1 rfl) ?_
    refine gN_Book_count X hP hb_1_0 tw_25 dX2_goOn_41 ?_
    obtain ⟨g2, hf⟩ := grd_some hf
    refine cpy_otried_obest (rest := []) X hP hS hl.1   g2 tw_260 (by first | exact Nat.le_of_ble_eq_true rfl | exact Nat.succ_le_succ (Nat.zero_le _)) (by first | exact Nat.le_of_ble_eq_true rfl | exact Nat.le_trans (m := 44) (Nat.le_of_ble_eq_true rfl) (Nat.mul_le_mul_left 44 (Nat.succ_le_succ (Nat.zero_le _)))) dX2_goOn_44 (fun H locs hP hS => ?_)
    cases hf
    exact rtV X hr hlk hP hS dX2_goOn_47
  · rw [if_neg c1] at hf
    refine lv_aload_n hx hb dX2_goOn_10 rfl (lv_at hl 0 rfl) ?_
    refine lv_aload_n hx hb dX2_goOn_11 rfl (lv_at hl 1 rfl) ?_
    refine lv_aload_n hx hb dX2_goOn_12 rfl (lv_at hl 2 rfl) ?_
    refine lv_iload_n hx hb dX2_goOn_13 rfl (lv_at hl 3 rfl) ?_
    refine lv_iconst (v := (1 : Int32)) hx hb dX2_goOn_14 (by decide) ?_
    refine lv_iadd hx hb dX2_goOn_15 ?_
    refine lv_iload hx hb dX2_goOn_16 (lv_at hl 4 rfl) ?_
    obtain ⟨q3, e4, hf⟩ := bind_some hf
    refine aftV hS (cV (rest := []) X hP hS [.ref (ad (34 + b1)), .ref (ad 8), .int (x3 + (1 : Int32)), .int x4] (hfr hb_1_0 e4) cw_X2_tryDay tw_255 tw_514 tw_674 (by decide) (cf_Orders ) rfl (fits9 (by first | decide | omega) (by decide)) rfl rfl hl.1 (Nat.le_of_ble_eq_true rfl) dX2_goOn_18 ⟨Nat.zero_le _, Nat.zero_le _⟩) (fun H locs hP hS => ?_)
    refine lv_goto (tgt := 47) hx hb dX2_goOn_21 (by decide) ?_
    cases hf
    exact rtV X hr hlk hP hS dX2_goOn_47
end
/-! X2_tryDay -/
section
variable {p : Program} {l : Launch} {e : Env} {s : State} {m : MethodId} {args : Array Value} {below : List Frame} {meth : Method} {c : Code}
variable {D : va_G} {cI cP cB cA : ClassId} {ad : Nat → Nat} {tL tC : Nat}
set_option maxHeartbeats 4000000 in
set_option maxRecDepth 100000 in
theorem vj_X2_tryDay_93_3 (X : Cx D cI cP cB cA 79 ad tL tC p s m c cX2_tryDay 7 args RX2) (hr : meth.sig.returnType = none) (hlk : meth.locks = false) {res : Stt} {fr : Nat → Int32 → Int32 → Stt → Option (Stt)} {dd : Nat} (hdd : 4 ≤ dd) (hfr : ∀  {b1 : Nat} {x3 : Int32} {x4 : Int32} (hb_1_0 : b1 < 5) {S : Stt} {res : Stt}, fr b1 x3 x4 S = some res → Ct l D cI cP cB cA 79 ad tL tC yX2_tryDay cX2_tryDay 7 none dd [.ref (ad 10), .ref (ad (34 + b1)), .ref (ad 8), .int x3, .int x4] (cfC ad cI cP cB cA S) (QV D 79 ad (cfC ad cI cP cB cA res))) (kb : Nat → Int32 → Int32 → Int32 → Stt → Option (Stt)) (ke : Stt → Option (Stt)) (hkb : ∀ (b1 : Nat) (x3 : Int32) (x4 : Int32) (x5 : Int32) (S : Stt) (H : Heap) (locs : List Loc) (ls : Array Slot), kb b1 x3 x4 x5 S = some res → b1 < 5 → va_P D vwCl (wl 79 ad (cfC ad cI cP cB cA S)) H → va_S (Ar 79 ad) s.heap H locs → lv_has ls 7 [(0, .ref (ad 10)), (1, .ref (ad (34 + b1))), (2, .ref (ad 8)), (3, .int x3), (4, .int x4), (5, .int x5)] → W p l e (rmD (dd + 2)) s m args below meth c H locs 0 0 (MQ below (QV D 79 ad (cfC ad cI cP cB cA res)) args s 0 0 (Ar 79 ad)) (F0 m 3 ls [])) (hke : ∀ (S : Stt) (H : Heap) (locs : List Loc) (ls : Array Slot), ke S = some res → va_P D vwCl (wl 79 ad (cfC ad cI cP cB cA S)) H → va_S (Ar 79 ad) s.heap H locs → lv_has ls 7 [] → W p l e (rmD (dd + 2)) s m args below meth c H locs 0 0 (MQ below (QV D 79 ad (cfC ad cI cP cB cA res)) args s 0 0 (Ar 79 ad)) (F0 m 111 ls [])) : ∀ (b1 : Nat) (x3 : Int32) (x4 : Int32) (x5 : Int32) (S : Stt) (H : Heap) (locs : List Loc) (ls : Array Slot), fj_X2_tryDay_93_3 fr kb ke b1 x3 x4 x5 S = some res → b1 < 5 → va_P D vwCl (wl 79 ad (cfC ad cI cP cB cA S)) H → va_S (Ar 79 ad) s.heap H locs → lv_has ls 7 [(0, .ref (ad 10)), (1, .ref (ad (34 + b1))), (2, .ref (ad 8)), (3, .int x3), (4, .int x4), (5, .int x5)] → W p l e (rmD (dd + 2)) s m args below meth c H locs 0 0 (MQ below (QV D 79 ad (cfC ad cI cP cB cA res)) args s 0 0 (Ar 79 ad)) (F0 m 93 ls []) := by
  intro b1 x3 x4 x5 S H locs ls hf hb_1_0 hP hS hl
  have hx := X.1.1
  have hb := X.1.2.1
  unfold fj_X2_tryDay_93_3 at hf
  refine lv_aload_n hx hb dX2_tryDay_93 rfl (lv_at hl 1 rfl) ?_
  refine gN_Book_pages X hP hb_1_0 tw_21 dX2_tryDay_94 ?_
  refine lv_iload hx hb dX2_tryDay_97 (lv_at hl 5 rfl) ?_
  obtain ⟨g13, hf⟩ := grd_some hf
  refine q_pages X hP hb_1_0 g13 dX2_tryDay_99 ?_
  refine lv_bipush (v := (99 : Int32)) hx hb dX2_tryDay_100 (by decide) ?_
  refine pN_Page_day X hP hS hb_1_0 (ixb_lt g13) tw_15 dX2_tryDay_102 (fun H locs hP hS => ?_)
  refine lv_iinc (v := (x5 + (1 : Int32))) (lv' := [(5, .int (x5 + (1 : Int32))), (0, .ref (ad 10)), (1, .ref (ad (34 + b1))), (2, .ref (ad 8)), (3, .int x3), (4, .int x4)]) hx hb dX2_tryDay_105 hl (k := 5) rfl rfl (by decide) rfl (fun ls hl => ?_)
  refine lv_goto (tgt := 3) hx hb dX2_tryDay_108 (by decide) ?_
  exact hkb _ _ _ _ _ _ _ ls hf hb_1_0 hP hS (lv_sub hl [1, 2, 3, 4, 5, 0] rfl)
set_option maxHeartbeats 4000000 in
set_option maxRecDepth 100000 in
theorem vb_X2_tryDay_3 (X : Cx D cI cP cB cA 79 ad tL tC p s m c cX2_tryDay 7 args RX2) (hr : meth.sig.returnType = none) (hlk : meth.locks = false) {res : Stt} {fr : Nat → Int32 → Int32 → Stt → Option (Stt)} {dd : Nat} (hdd : 4 ≤ dd) (hfr : ∀  {b1 : Nat} {x3 : Int32} {x4 : Int32} (hb_1_0 : b1 < 5) {S : Stt} {res : Stt}, fr b1 x3 x4 S = some res → Ct l D cI cP cB cA 79 ad tL tC yX2_tryDay cX2_tryDay 7 none dd [.ref (ad 10), .ref (ad (34 + b1)), .ref (ad 8), .int x3, .int x4] (cfC ad cI cP cB cA S) (QV D 79 ad (cfC ad cI cP cB cA res))) (kb : Nat → Int32 → Int32 → Int32 → Stt → Option (Stt)) (ke : Stt → Option (Stt)) (hkb : ∀ (b1 : Nat) (x3 : Int32) (x4 : Int32) (x5 : Int32) (S : Stt) (H : Heap) (locs : List Loc) (ls : Array Slot), kb b1 x3 x4 x5 S = some res → b1 < 5 → va_P D vwCl (wl 79 ad (cfC ad cI cP cB cA S)) H → va_S (Ar 79 ad) s.heap H locs → lv_has ls 7 [(0, .ref (ad 10)), (1, .ref (ad (34 + b1))), (2, .ref (ad 8)), (3, .int x3), (4, .int x4), (5, .int x5)] → W p l e (rmD (dd + 2)) s m args below meth c H locs 0 0 (MQ below (QV D 79 ad (cfC ad cI cP cB cA res)) args s 0 0 (Ar 79 ad)) (F0 m 3 ls [])) (hke : ∀ (S : Stt) (H : Heap) (locs : List Loc) (ls : Array Slot), ke S = some res → va_P D vwCl (wl 79 ad (cfC ad cI cP cB cA S)) H → va_S (Ar 79 ad) s.heap H locs → lv_has ls 7 [] → W p l e (rmD (dd + 2)) s m args below meth c H locs 0 0 (MQ below (QV D 79 ad (cfC ad cI cP cB cA res)) args s 0 0 (Ar 79 ad)) (F0 m 111 ls [])) : ∀ (b1 : Nat) (x3 : Int32) (x4 : Int32) (x5 : Int32) (S : Stt) (H : Heap) (locs : List Loc) (ls : Array Slot), fb_X2_tryDay_3 fr kb ke b1 x3 x4 x5 S = some res → b1 < 5 → va_P D vwCl (wl 79 ad (cfC ad cI cP cB cA S)) H → va_S (Ar 79 ad) s.heap H locs → lv_has ls 7 [(0, .ref (ad 10)), (1, .ref (ad (34 + b1))), (2, .ref (ad 8)), (3, .int x3), (4, .int x4), (5, .int x5)] → W p l e (rmD (dd + 2)) s m args below meth c H locs 0 0 (MQ below (QV D 79 ad (cfC ad cI cP cB cA res)) args s 0 0 (Ar 79 ad)) (F0 m 3 ls []) := by
  intro b1 x3 x4 x5 S H locs ls hf hb_1_0 hP hS hl
  have hx := X.1.1
  have hb := X.1.2.1
  unfold fb_X2_tryDay_3 at hf
  refine lv_iload hx hb dX2_tryDay_3 (lv_at hl 5 rfl) ?_
  refine lv_aload_n hx hb dX2_tryDay_5 rfl (lv_at hl 1 rfl) ?_
  refine gN_Book_count X hP hb_1_0 tw_25 dX2_tryDay_6 ?_
  refine lv_icmp_ge (tgt := 111) hx hb dX2_tryDay_9 (by decide) (fun c1 => ?_) (fun c1 => ?_)
  · rw [if_pos c1] at hf
    exact hke  _ _ _ ls hf  hP hS (lv_sub hl [] rfl)
  · rw [if_neg c1] at hf
    refine lv_iload_n hx hb dX2_tryDay_12 rfl (lv_at hl 3 rfl) ?_
    refine lv_aload_n hx hb dX2_tryDay_13 rfl (lv_at hl 1 rfl) ?_
    refine gN_Book_count X hP hb_1_0 tw_25 dX2_tryDay_14 ?_
    refine lv_icmp_ge (tgt := 111) hx hb dX2_tryDay_17 (by decide) (fun c2 => ?_) (fun c2 => ?_)
    · rw [if_pos c2] at hf
      exact hke  _ _ _ ls hf  hP hS (lv_sub hl [] rfl)
    · rw [if_neg c2] at hf
      refine lv_aload_n hx hb dX2_tryDay_20 rfl (lv_at hl 1 rfl) ?_
      refine gN_Book_pages X hP hb_1_0 tw_21 dX2_tryDay_21 ?_
      refine lv_iload hx hb dX2_tryDay_24 (lv_at hl 5 rfl) ?_
      obtain ⟨g3, hf⟩ := grd_some hf
      refine q_pages X hP hb_1_0 g3 dX2_tryDay_26 ?_
      refine gN_Page_day X hP hb_1_0 (ixb_lt g3) tw_15 dX2_tryDay_27 ?_
      refine lv_bipush (v := (99 : Int32)) hx hb dX2_tryDay_30 (by decide) ?_
      refine lv_icmp_eq (tgt := 38) hx hb dX2_tryDay_32 (by decide) (fun c4 => ?_) (fun c4 => ?_)
      · rw [if_pos c4] at hf
        refine lv_aload_n hx hb dX2_tryDay_38 rfl (lv_at hl 1 rfl) ?_
        refine gN_Book_pages X hP hb_1_0 tw_21 dX2_tryDay_39 ?_
        refine lv_iload hx hb dX2_tryDay_42 (lv_at hl 5 rfl) ?_
        obtain ⟨g5, hf⟩ := grd_some hf
        refine q_pages X hP hb_1_0 g5 dX2_tryDay_44 ?_
        refine lv_iload_n hx hb dX2_tryDay_45 rfl (lv_at hl 3 rfl) ?_
        refine pN_Page_day X hP hS hb_1_0 (ixb_lt g5) tw_15 dX2_tryDay_46 (fun H locs hP hS => ?_)
        refine lv_aload_n hx hb dX2_tryDay_49 rfl (lv_at hl 2 rfl) ?_
        refine lv_aload_n hx hb dX2_tryDay_50 rfl (lv_at hl 1 rfl) ?_
        refine lv_iload_n hx hb dX2_tryDay_51 rfl (lv_at hl 3 rfl) ?_
        obtain ⟨q6, e7, hf⟩ := bind_some hf
        refine aftV hS (cV (rest := []) X hP hS [.ref (ad (34 + b1)), .int x3] (m_X1_hear hb_1_0 e7) cw_X1_hear tw_256 tw_477 tw_665 (by decide) (cf_Court ) rfl (fits9 (by first | decide | omega) (by decide)) rfl rfl hl.1 (Nat.le_of_ble_eq_true rfl) dX2_tryDay_52 ⟨Nat.zero_le _, Nat.zero_le _⟩) (fun H locs hP hS => ?_)
        refine lv_iload hx hb dX2_tryDay_55 (lv_at hl 4 rfl) ?_
        refine lv_aload_n hx hb dX2_tryDay_57 rfl (lv_at hl 2 rfl) ?_
        obtain ⟨q8, e9, hf⟩ := bind_some hf
        refine aftI hS (cV (rest := [.int x4]) X hP hS [] (m_X1_waiting  e9) cw_X1_waiting tw_257 tw_488 tw_667 (by decide) (cf_Court ) rfl (fits9 (by first | decide | omega) (by decide)) rfl rfl hl.1 (Nat.le_of_ble_eq_true rfl) dX2_tryDay_58 ⟨Nat.zero_le _, Nat.zero_le _⟩) (fun H locs hP hS => ?_)
        obtain ⟨q10, e11, hf⟩ := bind_some hf
        refine aftI hS (cS (rest := [.int x4]) X hP hS [.int q8.1] (m_J6_bitCount_0f7a4  e11) cw_J6_bitCount_0f7a4 tw_258 tw_438 (fits9 (by first | decide | omega) (by decide)) rfl rfl hl.1 (Nat.le_of_ble_eq_true rfl) dX2_tryDay_61 ⟨Nat.zero_le _, Nat.zero_le _⟩) (fun H locs hP hS => ?_)
        refine lv_iadd hx hb dX2_tryDay_64 ?_
        refine lv_istore (lv' := [(6, .int (x4 + q10.1)), (0, .ref (ad 10)), (1, .ref (ad (34 + b1))), (2, .ref (ad 8)), (3, .int x3), (4, .int x4), (5, .int x5)]) hx hb dX2_tryDay_65 hl (by decide) rfl (fun ls hl => ?_)
        refine lv_iload hx hb dX2_tryDay_67 (lv_at hl 0 rfl) ?_
        refine lv_aload_n hx hb dX2_tryDay_69 rfl (lv_at hl 1 rfl) ?_
        refine g_Orders_least X hP  tw_58 dX2_tryDay_70 ?_
        refine lv_icmp_ge (tgt := 93) hx hb dX2_tryDay_73 (by decide) (fun c12 => ?_) (fun c12 => ?_)
        · rw [if_pos c12] at hf
          exact vj_X2_tryDay_93_3 X hr hlk hdd hfr _ _ hkb hke _ _ _ _ _ _ _ ls hf hb_1_0 hP hS (lv_sub hl [1, 2, 3, 4, 5, 6] rfl)
        · rw [if_neg c12] at hf
          refine lv_aload_n hx hb dX2_tryDay_76 rfl (lv_at hl 1 rfl) ?_
          refine g_Orders_tried X hP  tw_55 dX2_tryDay_77 ?_
          refine lv_iload_n hx hb dX2_tryDay_80 rfl (lv_at hl 4 rfl) ?_
          refine lv_iload hx hb dX2_tryDay_81 (lv_at hl 6 rfl) ?_
          obtain ⟨g14, hf⟩ := grd_some hf
          refine w_otried X hP hS  g14 dX2_tryDay_83 (fun H locs hP hS => ?_)
          refine lv_aload_n hx hb dX2_tryDay_84 rfl (lv_at hl 1 rfl) ?_
          refine lv_aload_n hx hb dX2_tryDay_85 rfl (lv_at hl 2 rfl) ?_
          refine lv_aload_n hx hb dX2_tryDay_86 rfl (lv_at hl 3 rfl) ?_
          refine lv_iload_n hx hb dX2_tryDay_87 rfl (lv_at hl 4 rfl) ?_
          refine lv_iload hx hb dX2_tryDay_88 (lv_at hl 0 rfl) ?_
          obtain ⟨q15, e16, hf⟩ := bind_some hf
          refine aftV hS (cV (rest := []) X hP hS [.ref (ad (34 + b1)), .ref (ad 8), .int x3, .int (x4 + q10.1)] (m_X2_goOn (by omega) hfr hb_1_0 e16) cw_X2_goOn tw_259 tw_515 tw_675 (by decide) (cf_Orders ) rfl (fits9 (by first | decide | omega) (by decide)) rfl rfl hl.1 (Nat.le_of_ble_eq_true rfl) dX2_tryDay_90 ⟨Nat.zero_le _, Nat.zero_le _⟩) (fun H locs hP hS => ?_)
          exact vj_X2_tryDay_93_3 X hr hlk hdd hfr _ _ hkb hke _ _ _ _ _ _ _ ls hf hb_1_0 hP hS (lv_sub hl [1, 2, 3, 4, 5, 6] rfl)
      · rw [if_neg c4] at hf
        refine lv_goto (tgt := 105) hx hb dX2_tryDay_35 (by decide) ?_
        refine lv_iinc (v := (x5 + (1 : Int32))) (lv' := [(5, .int (x5 + (1 : Int32))), (0, .ref (ad 10)), (1, .ref (ad (34 + b1))), (2, .ref (ad 8)), (3, .int x3), (4, .int x4)]) hx hb dX2_tryDay_105 hl (k := 5) rfl rfl (by decide) rfl (fun ls hl => ?_)
        refine lv_goto (tgt := 3) hx hb dX2_tryDay_108 (by decide) ?_
        exact hkb _ _ _ _ _ _ _ ls hf hb_1_0 hP hS (lv_sub hl [1, 2, 3, 4, 5, 0] rfl)
set_option maxHeartbeats 4000000 in
set_option maxRecDepth 100000 in
theorem vl_X2_tryDay_3 (X : Cx D cI cP cB cA 79 ad tL tC p s m c cX2_tryDay 7 args RX2) (hr : meth.sig.returnType = none) (hlk : meth.locks = false) {res : Stt} {fr : Nat → Int32 → Int32 → Stt → Option (Stt)} {dd : Nat} (hdd : 4 ≤ dd) (hfr : ∀  {b1 : Nat} {x3 : Int32} {x4 : Int32} (hb_1_0 : b1 < 5) {S : Stt} {res : Stt}, fr b1 x3 x4 S = some res → Ct l D cI cP cB cA 79 ad tL tC yX2_tryDay cX2_tryDay 7 none dd [.ref (ad 10), .ref (ad (34 + b1)), .ref (ad 8), .int x3, .int x4] (cfC ad cI cP cB cA S) (QV D 79 ad (cfC ad cI cP cB cA res))) (ke : Stt → Option (Stt)) (hke : ∀ (S : Stt) (H : Heap) (locs : List Loc) (ls : Array Slot), ke S = some res → va_P D vwCl (wl 79 ad (cfC ad cI cP cB cA S)) H → va_S (Ar 79 ad) s.heap H locs → lv_has ls 7 [] → W p l e (rmD (dd + 2)) s m args below meth c H locs 0 0 (MQ below (QV D 79 ad (cfC ad cI cP cB cA res)) args s 0 0 (Ar 79 ad)) (F0 m 111 ls [])) : ∀ (n : Nat), ∀ (b1 : Nat) (x3 : Int32) (x4 : Int32) (x5 : Int32) (S : Stt) (H : Heap) (locs : List Loc) (ls : Array Slot), fl_X2_tryDay_3 fr ke n b1 x3 x4 x5 S = some res → b1 < 5 → va_P D vwCl (wl 79 ad (cfC ad cI cP cB cA S)) H → va_S (Ar 79 ad) s.heap H locs → lv_has ls 7 [(0, .ref (ad 10)), (1, .ref (ad (34 + b1))), (2, .ref (ad 8)), (3, .int x3), (4, .int x4), (5, .int x5)] → W p l e (rmD (dd + 2)) s m args below meth c H locs 0 0 (MQ below (QV D 79 ad (cfC ad cI cP cB cA res)) args s 0 0 (Ar 79 ad)) (F0 m 3 ls []) := by
  intro n
  induction n with
  | zero =>
    intro b1 x3 x4 x5 S H locs ls hf hb_1_0 hP hS hl
    cases hf
  | succ n ih =>
    intro b1 x3 x4 x5 S H locs ls hf hb_1_0 hP hS hl
    exact vb_X2_tryDay_3 X hr hlk hdd hfr _ ke ih hke b1 x3 x4 x5 S H locs ls hf hb_1_0 hP hS hl
end
section
variable {p : Program} {l : Launch} {e : Env} {s : State} {m : MethodId} {args : Array Value} {below : List Frame} {meth : Method} {c : Code}
variable {D : va_G} {cI cP cB cA : ClassId} {ad : Nat → Nat} {tL tC : Nat}
set_option maxHeartbeats 4000000 in
set_option maxRecDepth 100000 in
theorem mo_X2_tryDay {fr : Nat → Int32 → Int32 → Stt → Option (Stt)} {dd : Nat} (hdd : 4 ≤ dd) (hfr : ∀  {b1 : Nat} {x3 : Int32} {x4 : Int32} (hb_1_0 : b1 < 5) {S : Stt} {res : Stt}, fr b1 x3 x4 S = some res → Ct l D cI cP cB cA 79 ad tL tC yX2_tryDay cX2_tryDay 7 none dd [.ref (ad 10), .ref (ad (34 + b1)), .ref (ad 8), .int x3, .int x4] (cfC ad cI cP cB cA S) (QV D 79 ad (cfC ad cI cP cB cA res)))  {b1 : Nat} {x3 : Int32} {x4 : Int32} (hb_1_0 : b1 < 5) {S : Stt} {res : Stt} (hf : fo_X2_tryDay fr b1 x3 x4 S = some res) : Ct l D cI cP cB cA 79 ad tL tC yX2_tryDay cX2_tryDay 7 none (dd + 2) [.ref (ad 10), .ref (ad (34 + b1)), .ref (ad 8), .int x3, .int x4] (cfC ad cI cP cB cA S) (QV D 79 ad (cfC ad cI cP cB cA res)) := by
  refine ctOf (by decide) (Nat.le_of_ble_eq_true rfl) ?_
  intro p e s m args below meth c ls X hr hlk hP hl
  have hS : va_S (Ar 79 ad) s.heap s.heap [] := va_S.rf
  have hx := X.1.1
  have hb := X.1.2.1
  have hl : lv_has ls 7 [(0, .ref (ad 10)), (1, .ref (ad (34 + b1))), (2, .ref (ad 8)), (3, .int x3), (4, .int x4)] := hl
  unfold fo_X2_tryDay at hf
  refine lv_iconst (v := (0 : Int32)) hx hb dX2_tryDay_0 (by decide) ?_
  refine lv_istore (lv' := [(5, .int (0 : Int32)), (0, .ref (ad 10)), (1, .ref (ad (34 + b1))), (2, .ref (ad 8)), (3, .int x3), (4, .int x4)]) hx hb dX2_tryDay_1 hl (by decide) rfl (fun ls hl => ?_)
  refine vl_X2_tryDay_3 X hr hlk hdd hfr _ ?_ 300 _ _ _ _ _ _ _ ls hf hb_1_0 hP hS (lv_sub hl [1, 2, 3, 4, 5, 0] rfl)
  intro S H locs ls hf hP hS hl
  cases hf
  exact rtV X hr hlk hP hS dX2_tryDay_111
end
set_option maxHeartbeats 4000000 in
set_option maxRecDepth 100000 in
theorem m_X2_tryDay {l : Launch} {D : va_G} {cI cP cB cA : ClassId} {ad : Nat → Nat} {tL tC : Nat} : ∀ (n : Nat) {b1 : Nat} {x3 : Int32} {x4 : Int32} (hb_1_0 : b1 < 5) {S : Stt} {res : Stt}, f_X2_tryDay n b1 x3 x4 S = some res → Ct l D cI cP cB cA 79 ad tL tC yX2_tryDay cX2_tryDay 7 none (4 + 2 * n) [.ref (ad 10), .ref (ad (34 + b1)), .ref (ad 8), .int x3, .int x4] (cfC ad cI cP cB cA S) (QV D 79 ad (cfC ad cI cP cB cA res)) := by
  intro n
  induction n with
  | zero =>
    intro b1 x3 x4 hb_1_0 S res hf
    cases hf
  | succ n ih =>
    intro b1 x3 x4 hb_1_0 S res hf
    exact mo_X2_tryDay (fr := f_X2_tryDay n) (dd := (4 + 2 * n)) (by omega) ih hb_1_0 hf
