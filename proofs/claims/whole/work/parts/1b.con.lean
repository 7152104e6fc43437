/-! X8_doesPoint -/
section
variable {p : Program} {l : Launch} {e : Env} {s : State} {m : MethodId} {args : Array Value} {below : List Frame} {meth : Method} {c : Code}
variable {D : va_G} {cI cP cB cA : ClassId} {ad : Nat → Nat} {tL tC : Nat}
end
set_option maxHeartbeats 4000000 in
set_option maxRecDepth 100000 in
theorem m_X8_doesPoint {l : Launch} {D : va_G} {cI cP cB cA : ClassId} {ad : Nat → Nat} {tL tC : Nat} {x0 : Int32} {S : Stt} {res : Int32 × Stt} (hf : f_X8_doesPoint x0 S = some res) : Ct l D cI cP cB cA 19 ad tL tC yX8_doesPoint cX8_doesPoint 1 (some .boolean) 1 [.int x0] (cfM ad cI S) (QI D 19 ad res.1 (cfM ad cI res.2)) := by
  refine ctOf (by decide) (Nat.le_of_ble_eq_true rfl) ?_
  intro p e s m args below meth c ls X hr hlk hP hl
  have hS : va_S (Ar 19 ad) s.heap s.heap [] := va_S.rf
  have hx := X.1.1
  have hb := X.1.2.1
  have hl : lv_has ls 1 [(0, .int x0)] := hl
  unfold f_X8_doesPoint at hf
  refine lv_iload_n hx hb dX8_doesPoint_0 rfl (lv_at hl 0 rfl) ?_
  refine lv_iconst (v := (2 : Int32)) hx hb dX8_doesPoint_1 (by decide) ?_
  refine lv_icmp_eq (tgt := 10) hx hb dX8_doesPoint_2 (by decide) (fun c1 => ?_) (fun c1 => ?_)
  · rw [if_pos c1] at hf
    refine lv_iconst (v := (1 : Int32)) hx hb dX8_doesPoint_10 (by decide) ?_
    refine lv_goto (tgt := 15) hx hb dX8_doesPoint_11 (by decide) ?_
    cases hf
    exact rtZ X hr hlk hP hS (Or.inr rfl) dX8_doesPoint_15
  · rw [if_neg c1] at hf
    refine lv_iload_n hx hb dX8_doesPoint_5 rfl (lv_at hl 0 rfl) ?_
    refine lv_iconst (v := (5 : Int32)) hx hb dX8_doesPoint_6 (by decide) ?_
    refine lv_icmp_ne (tgt := 14) hx hb dX8_doesPoint_7 (by decide) (fun c2 => ?_) (fun c2 => ?_)
    · rw [if_neg c2] at hf
      refine lv_iconst (v := (0 : Int32)) hx hb dX8_doesPoint_14 (by decide) ?_
      cases hf
      exact rtZ X hr hlk hP hS (Or.inl rfl) dX8_doesPoint_15
    · rw [if_pos c2] at hf
      refine lv_iconst (v := (1 : Int32)) hx hb dX8_doesPoint_10 (by decide) ?_
      refine lv_goto (tgt := 15) hx hb dX8_doesPoint_11 (by decide) ?_
      cases hf
      exact rtZ X hr hlk hP hS (Or.inr rfl) dX8_doesPoint_15
/-! X8_finding -/
section
variable {p : Program} {l : Launch} {e : Env} {s : State} {m : MethodId} {args : Array Value} {below : List Frame} {meth : Method} {c : Code}
variable {D : va_G} {cI cP cB cA : ClassId} {ad : Nat → Nat} {tL tC : Nat}
end
set_option maxHeartbeats 4000000 in
set_option maxRecDepth 100000 in
theorem m_X8_finding {l : Launch} {D : va_G} {cI cP cB cA : ClassId} {ad : Nat → Nat} {tL tC : Nat} {S : Stt} {res : Int32 × Stt} (hf : f_X8_finding  S = some res) : Ct l D cI cP cB cA 19 ad tL tC yX8_finding cX8_finding 1 (some .int) 1 [.ref (ad 0)] (cfM ad cI S) (QI D 19 ad res.1 (cfM ad cI res.2)) := by
  refine ctOf (by decide) (Nat.le_of_ble_eq_true rfl) ?_
  intro p e s m args below meth c ls X hr hlk hP hl
  have hS : va_S (Ar 19 ad) s.heap s.heap [] := va_S.rf
  have hx := X.1.1
  have hb := X.1.2.1
  have hl : lv_has ls 1 [(0, .ref (ad 0))] := hl
  unfold f_X8_finding at hf
  refine lv_aload_n hx hb dX8_finding_0 rfl (lv_at hl 0 rfl) ?_
  refine g_M_finding X hP  tw_76 dX8_finding_1 ?_
  cases hf
  exact rtI X hr hlk hP hS dX8_finding_4
/-! X8_has -/
section
variable {p : Program} {l : Launch} {e : Env} {s : State} {m : MethodId} {args : Array Value} {below : List Frame} {meth : Method} {c : Code}
variable {D : va_G} {cI cP cB cA : ClassId} {ad : Nat → Nat} {tL tC : Nat}
end
set_option maxHeartbeats 4000000 in
set_option maxRecDepth 100000 in
theorem m_X8_has {l : Launch} {D : va_G} {cI cP cB cA : ClassId} {ad : Nat → Nat} {tL tC : Nat} {x0 : Int32} {x1 : Int32} {S : Stt} {res : Int32 × Stt} (hf : f_X8_has x0 x1 S = some res) : Ct l D cI cP cB cA 19 ad tL tC yX8_has cX8_has 2 (some .boolean) 1 [.int x0, .int x1] (cfM ad cI S) (QI D 19 ad res.1 (cfM ad cI res.2)) := by
  refine ctOf (by decide) (Nat.le_of_ble_eq_true rfl) ?_
  intro p e s m args below meth c ls X hr hlk hP hl
  have hS : va_S (Ar 19 ad) s.heap s.heap [] := va_S.rf
  have hx := X.1.1
  have hb := X.1.2.1
  have hl : lv_has ls 2 [(0, .int x0), (1, .int x1)] := hl
  unfold f_X8_has at hf
  refine lv_iload_n hx hb dX8_has_0 rfl (lv_at hl 0 rfl) ?_
  refine lv_iload_n hx hb dX8_has_1 rfl (lv_at hl 1 rfl) ?_
  refine lv_ishr hx hb dX8_has_2 ?_
  refine lv_iconst (v := (1 : Int32)) hx hb dX8_has_3 (by decide) ?_
  refine lv_iand hx hb dX8_has_4 ?_
  refine lv_iconst (v := (1 : Int32)) hx hb dX8_has_5 (by decide) ?_
  refine lv_icmp_ne (tgt := 13) hx hb dX8_has_6 (by decide) (fun c1 => ?_) (fun c1 => ?_)
  · rw [if_neg c1] at hf
    refine lv_iconst (v := (0 : Int32)) hx hb dX8_has_13 (by decide) ?_
    cases hf
    exact rtZ X hr hlk hP hS (Or.inl rfl) dX8_has_14
  · rw [if_pos c1] at hf
    refine lv_iconst (v := (1 : Int32)) hx hb dX8_has_9 (by decide) ?_
    refine lv_goto (tgt := 14) hx hb dX8_has_10 (by decide) ?_
    cases hf
    exact rtZ X hr hlk hP hS (Or.inr rfl) dX8_has_14
/-! X8_here -/
section
variable {p : Program} {l : Launch} {e : Env} {s : State} {m : MethodId} {args : Array Value} {below : List Frame} {meth : Method} {c : Code}
variable {D : va_G} {cI cP cB cA : ClassId} {ad : Nat → Nat} {tL tC : Nat}
end
set_option maxHeartbeats 4000000 in
set_option maxRecDepth 100000 in
theorem m_X8_here {l : Launch} {D : va_G} {cI cP cB cA : ClassId} {ad : Nat → Nat} {tL tC : Nat} {x1 : Int32} {S : Stt} {res : Int32 × Stt} (hf : f_X8_here x1 S = some res) : Ct l D cI cP cB cA 19 ad tL tC yX8_here cX8_here 2 (some .int) 1 [.ref (ad 0), .int x1] (cfM ad cI S) (QI D 19 ad res.1 (cfM ad cI res.2)) := by
  refine ctOf (by decide) (Nat.le_of_ble_eq_true rfl) ?_
  intro p e s m args below meth c ls X hr hlk hP hl
  have hS : va_S (Ar 19 ad) s.heap s.heap [] := va_S.rf
  have hx := X.1.1
  have hb := X.1.2.1
  have hl : lv_has ls 2 [(0, .ref (ad 0)), (1, .int x1)] := hl
  unfold f_X8_here at hf
  refine lv_aload_n hx hb dX8_here_0 rfl (lv_at hl 0 rfl) ?_
  refine g_M_readAt X hP  tw_93 dX8_here_1 ?_
  refine lv_aload_n hx hb dX8_here_4 rfl (lv_at hl 0 rfl) ?_
  refine g_M_lengths X hP  tw_84 dX8_here_5 ?_
  refine lv_iload_n hx hb dX8_here_8 rfl (lv_at hl 1 rfl) ?_
  obtain ⟨g1, hf⟩ := grd_some hf
  refine r_m_lengths X hP  g1 dX8_here_9 ?_
  refine lv_icmp_ge (tgt := 30) hx hb dX8_here_10 (by decide) (fun c2 => ?_) (fun c2 => ?_)
  · rw [if_pos c2] at hf
    refine lv_bipush (v := (-9 : Int32)) hx hb dX8_here_30 (by decide) ?_
    cases hf
    exact rtI X hr hlk hP hS dX8_here_32
  · rw [if_neg c2] at hf
    refine lv_aload_n hx hb dX8_here_13 rfl (lv_at hl 0 rfl) ?_
    refine g_M_texts X hP  tw_85 dX8_here_14 ?_
    refine lv_bipush (v := (80 : Int32)) hx hb dX8_here_17 (by decide) ?_
    refine lv_iload_n hx hb dX8_here_19 rfl (lv_at hl 1 rfl) ?_
    refine lv_imul hx hb dX8_here_20 ?_
    refine lv_aload_n hx hb dX8_here_21 rfl (lv_at hl 0 rfl) ?_
    refine g_M_readAt X hP  tw_93 dX8_here_22 ?_
    refine lv_iadd hx hb dX8_here_25 ?_
    obtain ⟨g3, hf⟩ := grd_some hf
    refine r_m_texts X hP  g3 dX8_here_26 ?_
    refine lv_goto (tgt := 32) hx hb dX8_here_27 (by decide) ?_
    cases hf
    exact rtI X hr hlk hP hS dX8_here_32
/-! X8_in -/
section
variable {p : Program} {l : Launch} {e : Env} {s : State} {m : MethodId} {args : Array Value} {below : List Frame} {meth : Method} {c : Code}
variable {D : va_G} {cI cP cB cA : ClassId} {ad : Nat → Nat} {tL tC : Nat}
end
set_option maxHeartbeats 4000000 in
set_option maxRecDepth 100000 in
theorem m_X8_in {l : Launch} {D : va_G} {cI cP cB cA : ClassId} {ad : Nat → Nat} {tL tC : Nat} {x0 : Int32} {x1 : Int32} {x2 : Int32} {S : Stt} {res : Int32 × Stt} (hf : f_X8_in x0 x1 x2 S = some res) : Ct l D cI cP cB cA 19 ad tL tC yX8_in cX8_in 3 (some .boolean) 1 [.int x0, .int x1, .int x2] (cfM ad cI S) (QI D 19 ad res.1 (cfM ad cI res.2)) := by
  refine ctOf (by decide) (Nat.le_of_ble_eq_true rfl) ?_
  intro p e s m args below meth c ls X hr hlk hP hl
  have hS : va_S (Ar 19 ad) s.heap s.heap [] := va_S.rf
  have hx := X.1.1
  have hb := X.1.2.1
  have hl : lv_has ls 3 [(0, .int x0), (1, .int x1), (2, .int x2)] := hl
  unfold f_X8_in at hf
  refine lv_iload_n hx hb dX8_in_0 rfl (lv_at hl 0 rfl) ?_
  refine lv_iload_n hx hb dX8_in_1 rfl (lv_at hl 1 rfl) ?_
  refine lv_icmp_lt (tgt := 14) hx hb dX8_in_2 (by decide) (fun c1 => ?_) (fun c1 => ?_)
  · rw [if_pos c1] at hf
    refine lv_iconst (v := (0 : Int32)) hx hb dX8_in_14 (by decide) ?_
    cases hf
    exact rtZ X hr hlk hP hS (Or.inl rfl) dX8_in_15
  · rw [if_neg c1] at hf
    refine lv_iload_n hx hb dX8_in_5 rfl (lv_at hl 0 rfl) ?_
    refine lv_iload_n hx hb dX8_in_6 rfl (lv_at hl 2 rfl) ?_
    refine lv_icmp_gt (tgt := 14) hx hb dX8_in_7 (by decide) (fun c2 => ?_) (fun c2 => ?_)
    · rw [if_pos c2] at hf
      refine lv_iconst (v := (0 : Int32)) hx hb dX8_in_14 (by decide) ?_
      cases hf
      exact rtZ X hr hlk hP hS (Or.inl rfl) dX8_in_15
    · rw [if_neg c2] at hf
      refine lv_iconst (v := (1 : Int32)) hx hb dX8_in_10 (by decide) ?_
      refine lv_goto (tgt := 15) hx hb dX8_in_11 (by decide) ?_
      cases hf
      exact rtZ X hr hlk hP hS (Or.inr rfl) dX8_in_15
/-! X8_isA -/
section
variable {p : Program} {l : Launch} {e : Env} {s : State} {m : MethodId} {args : Array Value} {below : List Frame} {meth : Method} {c : Code}
variable {D : va_G} {cI cP cB cA : ClassId} {ad : Nat → Nat} {tL tC : Nat}
set_option maxHeartbeats 4000000 in
set_option maxRecDepth 100000 in
theorem vj_X8_isA_25 (X : Cx D cI cP cB cA 19 ad tL tC p s m c cX8_isA 3 args RX8) (hr : meth.sig.returnType = (some .boolean)) (hlk : meth.locks = false) {res : Int32 × Stt} : ∀ (x1 : Int32) (x2 : Int32) (S : Stt) (H : Heap) (locs : List Loc) (ls : Array Slot), fj_X8_isA_25 x1 x2 S = some res → va_P D vwCl (wl 19 ad (cfM ad cI S)) H → va_S (Ar 19 ad) s.heap H locs → lv_has ls 3 [(0, .ref (ad 0)), (1, .int x1), (2, .int x2)] → W p l e (rmD 1) s m args below meth c H locs 0 0 (MQ below (QI D 19 ad res.1 (cfM ad cI res.2)) args s 0 0 (Ar 19 ad)) (F0 m 25 ls []) := by
  intro x1 x2 S H locs ls hf hP hS hl
  have hx := X.1.1
  have hb := X.1.2.1
  unfold fj_X8_isA_25 at hf
  refine lv_iload_n hx hb dX8_isA_25 rfl (lv_at hl 2 rfl) ?_
  refine lv_iconst (v := (2 : Int32)) hx hb dX8_isA_26 (by decide) ?_
  refine lv_icmp_ne (tgt := 44) hx hb dX8_isA_27 (by decide) (fun c4 => ?_) (fun c4 => ?_)
  · rw [if_neg c4] at hf
    refine lv_iconst (v := (0 : Int32)) hx hb dX8_isA_44 (by decide) ?_
    cases hf
    exact rtZ X hr hlk hP hS (Or.inl rfl) dX8_isA_45
  · rw [if_pos c4] at hf
    refine lv_aload_n hx hb dX8_isA_30 rfl (lv_at hl 0 rfl) ?_
    refine g_M_kinds X hP  tw_87 dX8_isA_31 ?_
    refine lv_iload_n hx hb dX8_isA_34 rfl (lv_at hl 1 rfl) ?_
    obtain ⟨g5, hf⟩ := grd_some hf
    refine r_m_kinds X hP  g5 dX8_isA_35 ?_
    refine lv_iconst (v := (5 : Int32)) hx hb dX8_isA_36 (by decide) ?_
    refine lv_icmp_ne (tgt := 44) hx hb dX8_isA_37 (by decide) (fun c6 => ?_) (fun c6 => ?_)
    · rw [if_neg c6] at hf
      refine lv_iconst (v := (0 : Int32)) hx hb dX8_isA_44 (by decide) ?_
      cases hf
      exact rtZ X hr hlk hP hS (Or.inl rfl) dX8_isA_45
    · rw [if_pos c6] at hf
      refine lv_iconst (v := (1 : Int32)) hx hb dX8_isA_40 (by decide) ?_
      refine lv_goto (tgt := 45) hx hb dX8_isA_41 (by decide) ?_
      cases hf
      exact rtZ X hr hlk hP hS (Or.inr rfl) dX8_isA_45
end
set_option maxHeartbeats 4000000 in
set_option maxRecDepth 100000 in
theorem m_X8_isA {l : Launch} {D : va_G} {cI cP cB cA : ClassId} {ad : Nat → Nat} {tL tC : Nat} {x1 : Int32} {x2 : Int32} {S : Stt} {res : Int32 × Stt} (hf : f_X8_isA x1 x2 S = some res) : Ct l D cI cP cB cA 19 ad tL tC yX8_isA cX8_isA 3 (some .boolean) 1 [.ref (ad 0), .int x1, .int x2] (cfM ad cI S) (QI D 19 ad res.1 (cfM ad cI res.2)) := by
  refine ctOf (by decide) (Nat.le_of_ble_eq_true rfl) ?_
  intro p e s m args below meth c ls X hr hlk hP hl
  have hS : va_S (Ar 19 ad) s.heap s.heap [] := va_S.rf
  have hx := X.1.1
  have hb := X.1.2.1
  have hl : lv_has ls 3 [(0, .ref (ad 0)), (1, .int x1), (2, .int x2)] := hl
  unfold f_X8_isA at hf
  refine lv_aload_n hx hb dX8_isA_0 rfl (lv_at hl 0 rfl) ?_
  refine g_M_kinds X hP  tw_87 dX8_isA_1 ?_
  refine lv_iload_n hx hb dX8_isA_4 rfl (lv_at hl 1 rfl) ?_
  obtain ⟨g1, hf⟩ := grd_some hf
  refine r_m_kinds X hP  g1 dX8_isA_5 ?_
  refine lv_iload_n hx hb dX8_isA_6 rfl (lv_at hl 2 rfl) ?_
  refine lv_icmp_eq (tgt := 40) hx hb dX8_isA_7 (by decide) (fun c2 => ?_) (fun c2 => ?_)
  · rw [if_pos c2] at hf
    refine lv_iconst (v := (1 : Int32)) hx hb dX8_isA_40 (by decide) ?_
    refine lv_goto (tgt := 45) hx hb dX8_isA_41 (by decide) ?_
    cases hf
    exact rtZ X hr hlk hP hS (Or.inr rfl) dX8_isA_45
  · rw [if_neg c2] at hf
    refine lv_iload_n hx hb dX8_isA_10 rfl (lv_at hl 2 rfl) ?_
    refine lv_iconst (v := (1 : Int32)) hx hb dX8_isA_11 (by decide) ?_
    refine lv_icmp_ne (tgt := 25) hx hb dX8_isA_12 (by decide) (fun c3 => ?_) (fun c3 => ?_)
    · rw [if_neg c3] at hf
      exact vj_X8_isA_25 X hr hlk _ _ _ _ _ ls hf  hP hS (lv_sub hl [0, 1, 2] rfl)
    · rw [if_pos c3] at hf
      refine lv_aload_n hx hb dX8_isA_15 rfl (lv_at hl 0 rfl) ?_
      refine g_M_kinds X hP  tw_87 dX8_isA_16 ?_
      refine lv_iload_n hx hb dX8_isA_19 rfl (lv_at hl 1 rfl) ?_
      obtain ⟨g7, hf⟩ := grd_some hf
      refine r_m_kinds X hP  g7 dX8_isA_20 ?_
      refine lv_iconst (v := (4 : Int32)) hx hb dX8_isA_21 (by decide) ?_
      refine lv_icmp_eq (tgt := 40) hx hb dX8_isA_22 (by decide) (fun c8 => ?_) (fun c8 => ?_)
      · rw [if_pos c8] at hf
        refine lv_iconst (v := (1 : Int32)) hx hb dX8_isA_40 (by decide) ?_
        refine lv_goto (tgt := 45) hx hb dX8_isA_41 (by decide) ?_
        cases hf
        exact rtZ X hr hlk hP hS (Or.inr rfl) dX8_isA_45
      · rw [if_neg c8] at hf
        exact vj_X8_isA_25 X hr hlk _ _ _ _ _ ls hf  hP hS (lv_sub hl [0, 1, 2] rfl)
/-! X8_kindOf -/
section
variable {p : Program} {l : Launch} {e : Env} {s : State} {m : MethodId} {args : Array Value} {below : List Frame} {meth : Method} {c : Code}
variable {D : va_G} {cI cP cB cA : ClassId} {ad : Nat → Nat} {tL tC : Nat}
end
set_option maxHeartbeats 4000000 in
set_option maxRecDepth 100000 in
theorem m_X8_kindOf {l : Launch} {D : va_G} {cI cP cB cA : ClassId} {ad : Nat → Nat} {tL tC : Nat} {x0 : Int32} {S : Stt} {res : Int32 × Stt} (hf : f_X8_kindOf x0 S = some res) : Ct l D cI cP cB cA 19 ad tL tC yX8_kindOf cX8_kindOf 1 (some .int) 1 [.int x0] (cfM ad cI S) (QI D 19 ad res.1 (cfM ad cI res.2)) := by
  refine ctOf (by decide) (Nat.le_of_ble_eq_true rfl) ?_
  intro p e s m args below meth c ls X hr hlk hP hl
  have hS : va_S (Ar 19 ad) s.heap s.heap [] := va_S.rf
  have hx := X.1.1
  have hb := X.1.2.1
  have hl : lv_has ls 1 [(0, .int x0)] := hl
  unfold f_X8_kindOf at hf
  refine lv_iload_n hx hb dX8_kindOf_0 rfl (lv_at hl 0 rfl) ?_
  refine lv_bipush (v := (112 : Int32)) hx hb dX8_kindOf_1 (by decide) ?_
  refine lv_icmp_ne (tgt := 10) hx hb dX8_kindOf_3 (by decide) (fun c1 => ?_) (fun c1 => ?_)
  · rw [if_neg c1] at hf
    refine lv_iload_n hx hb dX8_kindOf_10 rfl (lv_at hl 0 rfl) ?_
    refine lv_bipush (v := (101 : Int32)) hx hb dX8_kindOf_11 (by decide) ?_
    refine lv_icmp_ne (tgt := 20) hx hb dX8_kindOf_13 (by decide) (fun c2 => ?_) (fun c2 => ?_)
    · rw [if_neg c2] at hf
      refine lv_iload_n hx hb dX8_kindOf_20 rfl (lv_at hl 0 rfl) ?_
      refine lv_bipush (v := (111 : Int32)) hx hb dX8_kindOf_21 (by decide) ?_
      refine lv_icmp_ne (tgt := 30) hx hb dX8_kindOf_23 (by decide) (fun c3 => ?_) (fun c3 => ?_)
      · rw [if_neg c3] at hf
        refine lv_iload_n hx hb dX8_kindOf_30 rfl (lv_at hl 0 rfl) ?_
        refine lv_bipush (v := (100 : Int32)) hx hb dX8_kindOf_31 (by decide) ?_
        refine lv_icmp_ne (tgt := 40) hx hb dX8_kindOf_33 (by decide) (fun c4 => ?_) (fun c4 => ?_)
        · rw [if_neg c4] at hf
          refine lv_iload_n hx hb dX8_kindOf_40 rfl (lv_at hl 0 rfl) ?_
          refine lv_bipush (v := (115 : Int32)) hx hb dX8_kindOf_41 (by decide) ?_
          refine lv_icmp_ne (tgt := 50) hx hb dX8_kindOf_43 (by decide) (fun c5 => ?_) (fun c5 => ?_)
          · rw [if_neg c5] at hf
            refine lv_iload_n hx hb dX8_kindOf_50 rfl (lv_at hl 0 rfl) ?_
            refine lv_bipush (v := (105 : Int32)) hx hb dX8_kindOf_51 (by decide) ?_
            refine lv_icmp_ne (tgt := 60) hx hb dX8_kindOf_53 (by decide) (fun c6 => ?_) (fun c6 => ?_)
            · rw [if_neg c6] at hf
              refine lv_bipush (v := (-9 : Int32)) hx hb dX8_kindOf_60 (by decide) ?_
              cases hf
              exact rtI X hr hlk hP hS dX8_kindOf_62
            · rw [if_pos c6] at hf
              refine lv_iconst (v := (5 : Int32)) hx hb dX8_kindOf_56 (by decide) ?_
              refine lv_goto (tgt := 62) hx hb dX8_kindOf_57 (by decide) ?_
              cases hf
              exact rtI X hr hlk hP hS dX8_kindOf_62
          · rw [if_pos c5] at hf
            refine lv_iconst (v := (4 : Int32)) hx hb dX8_kindOf_46 (by decide) ?_
            refine lv_goto (tgt := 62) hx hb dX8_kindOf_47 (by decide) ?_
            cases hf
            exact rtI X hr hlk hP hS dX8_kindOf_62
        · rw [if_pos c4] at hf
          refine lv_iconst (v := (3 : Int32)) hx hb dX8_kindOf_36 (by decide) ?_
          refine lv_goto (tgt := 62) hx hb dX8_kindOf_37 (by decide) ?_
          cases hf
          exact rtI X hr hlk hP hS dX8_kindOf_62
      · rw [if_pos c3] at hf
        refine lv_iconst (v := (2 : Int32)) hx hb dX8_kindOf_26 (by decide) ?_
        refine lv_goto (tgt := 62) hx hb dX8_kindOf_27 (by decide) ?_
        cases hf
        exact rtI X hr hlk hP hS dX8_kindOf_62
    · rw [if_pos c2] at hf
      refine lv_iconst (v := (1 : Int32)) hx hb dX8_kindOf_16 (by decide) ?_
      refine lv_goto (tgt := 62) hx hb dX8_kindOf_17 (by decide) ?_
      cases hf
      exact rtI X hr hlk hP hS dX8_kindOf_62
  · rw [if_pos c1] at hf
    refine lv_iconst (v := (0 : Int32)) hx hb dX8_kindOf_6 (by decide) ?_
    refine lv_goto (tgt := 62) hx hb dX8_kindOf_7 (by decide) ?_
    cases hf
    exact rtI X hr hlk hP hS dX8_kindOf_62
/-! X8_lower -/
section
variable {p : Program} {l : Launch} {e : Env} {s : State} {m : MethodId} {args : Array Value} {below : List Frame} {meth : Method} {c : Code}
variable {D : va_G} {cI cP cB cA : ClassId} {ad : Nat → Nat} {tL tC : Nat}
end
set_option maxHeartbeats 4000000 in
set_option maxRecDepth 100000 in
theorem m_X8_lower {l : Launch} {D : va_G} {cI cP cB cA : ClassId} {ad : Nat → Nat} {tL tC : Nat} {S : Stt} {res : Int64 × Stt} (hf : f_X8_lower  S = some res) : Ct l D cI cP cB cA 19 ad tL tC yX8_lower cX8_lower 1 (some .long) 1 [.ref (ad 0)] (cfM ad cI S) (QL D 19 ad res.1 (cfM ad cI res.2)) := by
  refine ctOf (by decide) (Nat.le_of_ble_eq_true rfl) ?_
  intro p e s m args below meth c ls X hr hlk hP hl
  have hS : va_S (Ar 19 ad) s.heap s.heap [] := va_S.rf
  have hx := X.1.1
  have hb := X.1.2.1
  have hl : lv_has ls 1 [(0, .ref (ad 0))] := hl
  unfold f_X8_lower at hf
  refine lv_aload_n hx hb dX8_lower_0 rfl (lv_at hl 0 rfl) ?_
  refine g_M_lower X hP  tw_80 dX8_lower_1 ?_
  cases hf
  exact rtL X hr hlk hP hS dX8_lower_4
/-! X8_meet -/
section
variable {p : Program} {l : Launch} {e : Env} {s : State} {m : MethodId} {args : Array Value} {below : List Frame} {meth : Method} {c : Code}
variable {D : va_G} {cI cP cB cA : ClassId} {ad : Nat → Nat} {tL tC : Nat}
end
set_option maxHeartbeats 4000000 in
set_option maxRecDepth 100000 in
theorem m_X8_meet {l : Launch} {D : va_G} {cI cP cB cA : ClassId} {ad : Nat → Nat} {tL tC : Nat} {x1 : Int32} {S : Stt} {res : Int32 × Stt} (hf : f_X8_meet x1 S = some res) : Ct l D cI cP cB cA 19 ad tL tC yX8_meet cX8_meet 2 (some .int) 1 [.ref (ad 0), .int x1] (cfM ad cI S) (QI D 19 ad res.1 (cfM ad cI res.2)) := by
  refine ctOf (by decide) (Nat.le_of_ble_eq_true rfl) ?_
  intro p e s m args below meth c ls X hr hlk hP hl
  have hS : va_S (Ar 19 ad) s.heap s.heap [] := va_S.rf
  have hx := X.1.1
  have hb := X.1.2.1
  have hl : lv_has ls 2 [(0, .ref (ad 0)), (1, .int x1)] := hl
  unfold f_X8_meet at hf
  refine lv_aload_n hx hb dX8_meet_0 rfl (lv_at hl 0 rfl) ?_
  refine lv_iload_n hx hb dX8_meet_1 rfl (lv_at hl 1 rfl) ?_
  refine p_M_finding X hP hS  tw_76 dX8_meet_2 (fun H locs hP hS => ?_)
  refine lv_aload_n hx hb dX8_meet_5 rfl (lv_at hl 0 rfl) ?_
  refine g_M_findings X hP  tw_77 dX8_meet_6 ?_
  refine lv_iload_n hx hb dX8_meet_9 rfl (lv_at hl 1 rfl) ?_
  refine lv_dup2_11 hx hb dX8_meet_10 rfl rfl ?_
  obtain ⟨g1, hf⟩ := grd_some hf
  refine r_m_findings X hP  g1 dX8_meet_11 ?_
  refine lv_iconst (v := (1 : Int32)) hx hb dX8_meet_12 (by decide) ?_
  refine lv_iadd hx hb dX8_meet_13 ?_
  obtain ⟨g2, hf⟩ := grd_some hf
  refine w_m_findings X hP hS  g2 dX8_meet_14 (fun H locs hP hS => ?_)
  refine lv_bipush (v := (-3 : Int32)) hx hb dX8_meet_15 (by decide) ?_
  cases hf
  exact rtI X hr hlk hP hS dX8_meet_17
/-! X8_mix -/
section
variable {p : Program} {l : Launch} {e : Env} {s : State} {m : MethodId} {args : Array Value} {below : List Frame} {meth : Method} {c : Code}
variable {D : va_G} {cI cP cB cA : ClassId} {ad : Nat → Nat} {tL tC : Nat}
end
set_option maxHeartbeats 4000000 in
set_option maxRecDepth 100000 in
theorem m_X8_mix {l : Launch} {D : va_G} {cI cP cB cA : ClassId} {ad : Nat → Nat} {tL tC : Nat} {x1 : Int32} {S : Stt} {res : Stt} (hf : f_X8_mix x1 S = some res) : Ct l D cI cP cB cA 19 ad tL tC yX8_mix cX8_mix 2 none 1 [.ref (ad 0), .int x1] (cfM ad cI S) (QV D 19 ad (cfM ad cI res)) := by
  refine ctOf (by decide) (Nat.le_of_ble_eq_true rfl) ?_
  intro p e s m args below meth c ls X hr hlk hP hl
  have hS : va_S (Ar 19 ad) s.heap s.heap [] := va_S.rf
  have hx := X.1.1
  have hb := X.1.2.1
  have hl : lv_has ls 2 [(0, .ref (ad 0)), (1, .int x1)] := hl
  unfold f_X8_mix at hf
  refine lv_aload_n hx hb dX8_mix_0 rfl (lv_at hl 0 rfl) ?_
  refine lv_ldc2 (v := (31 : Int64)) hx hb X.1.2.2.2.1 (X.1.2.2.2.2 _ tw_643) dX8_mix_1 ?_
  refine lv_aload_n hx hb dX8_mix_4 rfl (lv_at hl 0 rfl) ?_
  refine g_M_h0 X hP  tw_106 dX8_mix_5 ?_
  refine lv_lmul hx hb dX8_mix_8 ?_
  refine lv_iload_n hx hb dX8_mix_9 rfl (lv_at hl 1 rfl) ?_
  refine lv_i2l hx hb dX8_mix_10 rfl ?_
  refine lv_ladd hx hb dX8_mix_11 ?_
  refine p_M_h0 X hP hS  tw_106 dX8_mix_12 (fun H locs hP hS => ?_)
  cases hf
  exact rtV X hr hlk hP hS dX8_mix_15
/-! X8_pageOf -/
section
variable {p : Program} {l : Launch} {e : Env} {s : State} {m : MethodId} {args : Array Value} {below : List Frame} {meth : Method} {c : Code}
variable {D : va_G} {cI cP cB cA : ClassId} {ad : Nat → Nat} {tL tC : Nat}
end
set_option maxHeartbeats 4000000 in
set_option maxRecDepth 100000 in
theorem m_X8_pageOf {l : Launch} {D : va_G} {cI cP cB cA : ClassId} {ad : Nat → Nat} {tL tC : Nat} {x1 : Int32} {x2 : Int32} {S : Stt} {res : Int32 × Stt} (hf : f_X8_pageOf x1 x2 S = some res) : Ct l D cI cP cB cA 19 ad tL tC yX8_pageOf cX8_pageOf 3 (some .int) 1 [.ref (ad 0), .int x1, .int x2] (cfM ad cI S) (QI D 19 ad res.1 (cfM ad cI res.2)) := by
  refine ctOf (by decide) (Nat.le_of_ble_eq_true rfl) ?_
  intro p e s m args below meth c ls X hr hlk hP hl
  have hS : va_S (Ar 19 ad) s.heap s.heap [] := va_S.rf
  have hx := X.1.1
  have hb := X.1.2.1
  have hl : lv_has ls 3 [(0, .ref (ad 0)), (1, .int x1), (2, .int x2)] := hl
  unfold f_X8_pageOf at hf
  refine lv_iload_n hx hb dX8_pageOf_0 rfl (lv_at hl 2 rfl) ?_
  refine lv_if_ne (tgt := 13) hx hb dX8_pageOf_1 (by decide) (fun c1 => ?_) (fun c1 => ?_)
  · rw [if_neg c1] at hf
    refine lv_iload_n hx hb dX8_pageOf_13 rfl (lv_at hl 2 rfl) ?_
    refine lv_iconst (v := (1 : Int32)) hx hb dX8_pageOf_14 (by decide) ?_
    refine lv_icmp_ne (tgt := 27) hx hb dX8_pageOf_15 (by decide) (fun c2 => ?_) (fun c2 => ?_)
    · rw [if_neg c2] at hf
      refine lv_iload_n hx hb dX8_pageOf_27 rfl (lv_at hl 2 rfl) ?_
      refine lv_iconst (v := (2 : Int32)) hx hb dX8_pageOf_28 (by decide) ?_
      refine lv_icmp_ne (tgt := 41) hx hb dX8_pageOf_29 (by decide) (fun c3 => ?_) (fun c3 => ?_)
      · rw [if_neg c3] at hf
        refine lv_iload_n hx hb dX8_pageOf_41 rfl (lv_at hl 2 rfl) ?_
        refine lv_iconst (v := (3 : Int32)) hx hb dX8_pageOf_42 (by decide) ?_
        refine lv_icmp_ne (tgt := 55) hx hb dX8_pageOf_43 (by decide) (fun c4 => ?_) (fun c4 => ?_)
        · rw [if_neg c4] at hf
          refine lv_iload_n hx hb dX8_pageOf_55 rfl (lv_at hl 2 rfl) ?_
          refine lv_iconst (v := (4 : Int32)) hx hb dX8_pageOf_56 (by decide) ?_
          refine lv_icmp_ne (tgt := 69) hx hb dX8_pageOf_57 (by decide) (fun c5 => ?_) (fun c5 => ?_)
          · rw [if_neg c5] at hf
            refine lv_aload_n hx hb dX8_pageOf_69 rfl (lv_at hl 0 rfl) ?_
            refine g_M_days X hP  tw_92 dX8_pageOf_70 ?_
            refine lv_iload_n hx hb dX8_pageOf_73 rfl (lv_at hl 1 rfl) ?_
            obtain ⟨g6, hf⟩ := grd_some hf
            refine r_m_days X hP  g6 dX8_pageOf_74 ?_
            cases hf
            exact rtI X hr hlk hP hS dX8_pageOf_75
          · rw [if_pos c5] at hf
            refine lv_aload_n hx hb dX8_pageOf_60 rfl (lv_at hl 0 rfl) ?_
            refine g_M_facts X hP  tw_91 dX8_pageOf_61 ?_
            refine lv_iload_n hx hb dX8_pageOf_64 rfl (lv_at hl 1 rfl) ?_
            obtain ⟨g7, hf⟩ := grd_some hf
            refine r_m_facts X hP  g7 dX8_pageOf_65 ?_
            refine lv_goto (tgt := 75) hx hb dX8_pageOf_66 (by decide) ?_
            cases hf
            exact rtI X hr hlk hP hS dX8_pageOf_75
        · rw [if_pos c4] at hf
          refine lv_aload_n hx hb dX8_pageOf_46 rfl (lv_at hl 0 rfl) ?_
          refine g_M_points X hP  tw_90 dX8_pageOf_47 ?_
          refine lv_iload_n hx hb dX8_pageOf_50 rfl (lv_at hl 1 rfl) ?_
          obtain ⟨g8, hf⟩ := grd_some hf
          refine r_m_points X hP  g8 dX8_pageOf_51 ?_
          refine lv_goto (tgt := 75) hx hb dX8_pageOf_52 (by decide) ?_
          cases hf
          exact rtI X hr hlk hP hS dX8_pageOf_75
      · rw [if_pos c3] at hf
        refine lv_aload_n hx hb dX8_pageOf_32 rfl (lv_at hl 0 rfl) ?_
        refine g_M_words X hP  tw_89 dX8_pageOf_33 ?_
        refine lv_iload_n hx hb dX8_pageOf_36 rfl (lv_at hl 1 rfl) ?_
        obtain ⟨g9, hf⟩ := grd_some hf
        refine r_m_words X hP  g9 dX8_pageOf_37 ?_
        refine lv_goto (tgt := 75) hx hb dX8_pageOf_38 (by decide) ?_
        cases hf
        exact rtI X hr hlk hP hS dX8_pageOf_75
    · rw [if_pos c2] at hf
      refine lv_aload_n hx hb dX8_pageOf_18 rfl (lv_at hl 0 rfl) ?_
      refine g_M_verdicts X hP  tw_88 dX8_pageOf_19 ?_
      refine lv_iload_n hx hb dX8_pageOf_22 rfl (lv_at hl 1 rfl) ?_
      obtain ⟨g10, hf⟩ := grd_some hf
      refine r_m_verdicts X hP  g10 dX8_pageOf_23 ?_
      refine lv_goto (tgt := 75) hx hb dX8_pageOf_24 (by decide) ?_
      cases hf
      exact rtI X hr hlk hP hS dX8_pageOf_75
  · rw [if_pos c1] at hf
    refine lv_aload_n hx hb dX8_pageOf_4 rfl (lv_at hl 0 rfl) ?_
    refine g_M_kinds X hP  tw_87 dX8_pageOf_5 ?_
    refine lv_iload_n hx hb dX8_pageOf_8 rfl (lv_at hl 1 rfl) ?_
    obtain ⟨g11, hf⟩ := grd_some hf
    refine r_m_kinds X hP  g11 dX8_pageOf_9 ?_
    refine lv_goto (tgt := 75) hx hb dX8_pageOf_10 (by decide) ?_
    cases hf
    exact rtI X hr hlk hP hS dX8_pageOf_75
/-! X8_putAside -/
section
variable {p : Program} {l : Launch} {e : Env} {s : State} {m : MethodId} {args : Array Value} {below : List Frame} {meth : Method} {c : Code}
variable {D : va_G} {cI cP cB cA : ClassId} {ad : Nat → Nat} {tL tC : Nat}
set_option maxHeartbeats 4000000 in
set_option maxRecDepth 100000 in
theorem vb_X8_putAside_2 (X : Cx D cI cP cB cA 19 ad tL tC p s m c cX8_putAside 2 args RX8) (hr : meth.sig.returnType = none) (hlk : meth.locks = false) {res : Stt} (kb : Int32 → Stt → Option (Stt)) (ke : Stt → Option (Stt)) (hkb : ∀ (x1 : Int32) (S : Stt) (H : Heap) (locs : List Loc) (ls : Array Slot), kb x1 S = some res → va_P D vwCl (wl 19 ad (cfM ad cI S)) H → va_S (Ar 19 ad) s.heap H locs → lv_has ls 2 [(0, .ref (ad 0)), (1, .int x1)] → W p l e (rmD 1) s m args below meth c H locs 0 0 (MQ below (QV D 19 ad (cfM ad cI res)) args s 0 0 (Ar 19 ad)) (F0 m 2 ls [])) (hke : ∀ (S : Stt) (H : Heap) (locs : List Loc) (ls : Array Slot), ke S = some res → va_P D vwCl (wl 19 ad (cfM ad cI S)) H → va_S (Ar 19 ad) s.heap H locs → lv_has ls 2 [] → W p l e (rmD 1) s m args below meth c H locs 0 0 (MQ below (QV D 19 ad (cfM ad cI res)) args s 0 0 (Ar 19 ad)) (F0 m 28 ls [])) : ∀ (x1 : Int32) (S : Stt) (H : Heap) (locs : List Loc) (ls : Array Slot), fb_X8_putAside_2 kb ke x1 S = some res → va_P D vwCl (wl 19 ad (cfM ad cI S)) H → va_S (Ar 19 ad) s.heap H locs → lv_has ls 2 [(0, .ref (ad 0)), (1, .int x1)] → W p l e (rmD 1) s m args below meth c H locs 0 0 (MQ below (QV D 19 ad (cfM ad cI res)) args s 0 0 (Ar 19 ad)) (F0 m 2 ls []) := by
  intro x1 S H locs ls hf hP hS hl
  have hx := X.1.1
  have hb := X.1.2.1
  unfold fb_X8_putAside_2 at hf
  refine lv_iload_n hx hb dX8_putAside_2 rfl (lv_at hl 1 rfl) ?_
  refine lv_aload_n hx hb dX8_putAside_3 rfl (lv_at hl 0 rfl) ?_
  refine g_M_many X hP  tw_86 dX8_putAside_4 ?_
  refine lv_icmp_ge (tgt := 28) hx hb dX8_putAside_7 (by decide) (fun c1 => ?_) (fun c1 => ?_)
  · rw [if_pos c1] at hf
    exact hke  _ _ _ ls hf  hP hS (lv_sub hl [] rfl)
  · rw [if_neg c1] at hf
    refine lv_aload_n hx hb dX8_putAside_10 rfl (lv_at hl 0 rfl) ?_
    refine g_M_daysAside X hP  tw_103 dX8_putAside_11 ?_
    refine lv_iload_n hx hb dX8_putAside_14 rfl (lv_at hl 1 rfl) ?_
    refine lv_aload_n hx hb dX8_putAside_15 rfl (lv_at hl 0 rfl) ?_
    refine g_M_days X hP  tw_92 dX8_putAside_16 ?_
    refine lv_iload_n hx hb dX8_putAside_19 rfl (lv_at hl 1 rfl) ?_
    obtain ⟨g2, hf⟩ := grd_some hf
    refine r_m_days X hP  g2 dX8_putAside_20 ?_
    obtain ⟨g3, hf⟩ := grd_some hf
    refine w_m_daysAside X hP hS  g3 dX8_putAside_21 (fun H locs hP hS => ?_)
    refine lv_iinc (v := (x1 + (1 : Int32))) (lv' := [(1, .int (x1 + (1 : Int32))), (0, .ref (ad 0))]) hx hb dX8_putAside_22 hl (k := 1) rfl rfl (by decide) rfl (fun ls hl => ?_)
    refine lv_goto (tgt := 2) hx hb dX8_putAside_25 (by decide) ?_
    exact hkb _ _ _ _ ls hf  hP hS (lv_sub hl [1, 0] rfl)
set_option maxHeartbeats 4000000 in
set_option maxRecDepth 100000 in
theorem vl_X8_putAside_2 (X : Cx D cI cP cB cA 19 ad tL tC p s m c cX8_putAside 2 args RX8) (hr : meth.sig.returnType = none) (hlk : meth.locks = false) {res : Stt} (ke : Stt → Option (Stt)) (hke : ∀ (S : Stt) (H : Heap) (locs : List Loc) (ls : Array Slot), ke S = some res → va_P D vwCl (wl 19 ad (cfM ad cI S)) H → va_S (Ar 19 ad) s.heap H locs → lv_has ls 2 [] → W p l e (rmD 1) s m args below meth c H locs 0 0 (MQ below (QV D 19 ad (cfM ad cI res)) args s 0 0 (Ar 19 ad)) (F0 m 28 ls [])) : ∀ (n : Nat), ∀ (x1 : Int32) (S : Stt) (H : Heap) (locs : List Loc) (ls : Array Slot), fl_X8_putAside_2 ke n x1 S = some res → va_P D vwCl (wl 19 ad (cfM ad cI S)) H → va_S (Ar 19 ad) s.heap H locs → lv_has ls 2 [(0, .ref (ad 0)), (1, .int x1)] → W p l e (rmD 1) s m args below meth c H locs 0 0 (MQ below (QV D 19 ad (cfM ad cI res)) args s 0 0 (Ar 19 ad)) (F0 m 2 ls []) := by
  intro n
  induction n with
  | zero =>
    intro x1 S H locs ls hf hP hS hl
    cases hf
  | succ n ih =>
    intro x1 S H locs ls hf hP hS hl
    exact vb_X8_putAside_2 X hr hlk _ ke ih hke x1 S H locs ls hf  hP hS hl
end
set_option maxHeartbeats 4000000 in
set_option maxRecDepth 100000 in
theorem m_X8_putAside {l : Launch} {D : va_G} {cI cP cB cA : ClassId} {ad : Nat → Nat} {tL tC : Nat} {S : Stt} {res : Stt} (hf : f_X8_putAside  S = some res) : Ct l D cI cP cB cA 19 ad tL tC yX8_putAside cX8_putAside 2 none 1 [.ref (ad 0)] (cfM ad cI S) (QV D 19 ad (cfM ad cI res)) := by
  refine ctOf (by decide) (Nat.le_of_ble_eq_true rfl) ?_
  intro p e s m args below meth c ls X hr hlk hP hl
  have hS : va_S (Ar 19 ad) s.heap s.heap [] := va_S.rf
  have hx := X.1.1
  have hb := X.1.2.1
  have hl : lv_has ls 2 [(0, .ref (ad 0))] := hl
  unfold f_X8_putAside at hf
  refine lv_iconst (v := (0 : Int32)) hx hb dX8_putAside_0 (by decide) ?_
  refine lv_istore_n (lv' := [(1, .int (0 : Int32)), (0, .ref (ad 0))]) hx hb dX8_putAside_1 rfl hl (by decide) rfl (fun ls hl => ?_)
  refine vl_X8_putAside_2 X hr hlk _ ?_ 300 _ _ _ _ ls hf  hP hS (lv_sub hl [1, 0] rfl)
  intro S H locs ls hf hP hS hl
  cases hf
  exact rtV X hr hlk hP hS dX8_putAside_28
/-! X8_rip -/
section
variable {p : Program} {l : Launch} {e : Env} {s : State} {m : MethodId} {args : Array Value} {below : List Frame} {meth : Method} {c : Code}
variable {D : va_G} {cI cP cB cA : ClassId} {ad : Nat → Nat} {tL tC : Nat}
set_option maxHeartbeats 4000000 in
set_option maxRecDepth 100000 in
theorem vb_X8_rip_22 (X : Cx D cI cP cB cA 19 ad tL tC p s m c cX8_rip 2 args RX8) (hr : meth.sig.returnType = (some .int)) (hlk : meth.locks = false) {res : Int32 × Stt} (kb : Int32 → Stt → Option (Int32 × Stt)) (ke : Stt → Option (Int32 × Stt)) (hkb : ∀ (x1 : Int32) (S : Stt) (H : Heap) (locs : List Loc) (ls : Array Slot), kb x1 S = some res → va_P D vwCl (wl 19 ad (cfM ad cI S)) H → va_S (Ar 19 ad) s.heap H locs → lv_has ls 2 [(0, .ref (ad 0)), (1, .int x1)] → W p l e (rmD 1) s m args below meth c H locs 0 0 (MQ below (QI D 19 ad res.1 (cfM ad cI res.2)) args s 0 0 (Ar 19 ad)) (F0 m 22 ls [])) (hke : ∀ (S : Stt) (H : Heap) (locs : List Loc) (ls : Array Slot), ke S = some res → va_P D vwCl (wl 19 ad (cfM ad cI S)) H → va_S (Ar 19 ad) s.heap H locs → lv_has ls 2 [(0, .ref (ad 0))] → W p l e (rmD 1) s m args below meth c H locs 0 0 (MQ below (QI D 19 ad res.1 (cfM ad cI res.2)) args s 0 0 (Ar 19 ad)) (F0 m 68 ls [])) : ∀ (x1 : Int32) (S : Stt) (H : Heap) (locs : List Loc) (ls : Array Slot), fb_X8_rip_22 kb ke x1 S = some res → va_P D vwCl (wl 19 ad (cfM ad cI S)) H → va_S (Ar 19 ad) s.heap H locs → lv_has ls 2 [(0, .ref (ad 0)), (1, .int x1)] → W p l e (rmD 1) s m args below meth c H locs 0 0 (MQ below (QI D 19 ad res.1 (cfM ad cI res.2)) args s 0 0 (Ar 19 ad)) (F0 m 22 ls []) := by
  intro x1 S H locs ls hf hP hS hl
  have hx := X.1.1
  have hb := X.1.2.1
  unfold fb_X8_rip_22 at hf
  refine lv_iload_n hx hb dX8_rip_22 rfl (lv_at hl 1 rfl) ?_
  refine lv_aload_n hx hb dX8_rip_23 rfl (lv_at hl 0 rfl) ?_
  refine g_M_many X hP  tw_86 dX8_rip_24 ?_
  refine lv_icmp_ge (tgt := 68) hx hb dX8_rip_27 (by decide) (fun c2 => ?_) (fun c2 => ?_)
  · rw [if_pos c2] at hf
    exact hke  _ _ _ ls hf  hP hS (lv_sub hl [0] rfl)
  · rw [if_neg c2] at hf
    refine lv_aload_n hx hb dX8_rip_30 rfl (lv_at hl 0 rfl) ?_
    refine g_M_days X hP  tw_92 dX8_rip_31 ?_
    refine lv_iload_n hx hb dX8_rip_34 rfl (lv_at hl 1 rfl) ?_
    refine lv_dup2_11 hx hb dX8_rip_35 rfl rfl ?_
    obtain ⟨g3, hf⟩ := grd_some hf
    refine r_m_days X hP  g3 dX8_rip_36 ?_
    refine lv_aload_n hx hb dX8_rip_37 rfl (lv_at hl 0 rfl) ?_
    refine g_M_days X hP  tw_92 dX8_rip_38 ?_
    refine lv_iload_n hx hb dX8_rip_41 rfl (lv_at hl 1 rfl) ?_
    obtain ⟨g4, hf⟩ := grd_some hf
    refine r_m_days X hP  g4 dX8_rip_42 ?_
    refine lv_aload_n hx hb dX8_rip_43 rfl (lv_at hl 0 rfl) ?_
    refine g_M_days X hP  tw_92 dX8_rip_44 ?_
    refine lv_aload_n hx hb dX8_rip_47 rfl (lv_at hl 0 rfl) ?_
    refine g_M_many X hP  tw_86 dX8_rip_48 ?_
    obtain ⟨g5, hf⟩ := grd_some hf
    refine r_m_days X hP  g5 dX8_rip_51 ?_
    refine lv_icmp_le (tgt := 59) hx hb dX8_rip_52 (by decide) (fun c6 => ?_) (fun c6 => ?_)
    · rw [if_pos c6] at hf
      refine lv_iconst (v := (0 : Int32)) hx hb dX8_rip_59 (by decide) ?_
      refine lv_isub hx hb dX8_rip_60 ?_
      obtain ⟨g7, hf⟩ := grd_some hf
      refine w_m_days X hP hS  g7 dX8_rip_61 (fun H locs hP hS => ?_)
      refine lv_iinc (v := (x1 + (1 : Int32))) (lv' := [(1, .int (x1 + (1 : Int32))), (0, .ref (ad 0))]) hx hb dX8_rip_62 hl (k := 1) rfl rfl (by decide) rfl (fun ls hl => ?_)
      refine lv_goto (tgt := 22) hx hb dX8_rip_65 (by decide) ?_
      exact hkb _ _ _ _ ls hf  hP hS (lv_sub hl [1, 0] rfl)
    · rw [if_neg c6] at hf
      refine lv_iconst (v := (1 : Int32)) hx hb dX8_rip_55 (by decide) ?_
      refine lv_goto (tgt := 60) hx hb dX8_rip_56 (by decide) ?_
      refine lv_isub hx hb dX8_rip_60 ?_
      obtain ⟨g8, hf⟩ := grd_some hf
      refine w_m_days X hP hS  g8 dX8_rip_61 (fun H locs hP hS => ?_)
      refine lv_iinc (v := (x1 + (1 : Int32))) (lv' := [(1, .int (x1 + (1 : Int32))), (0, .ref (ad 0))]) hx hb dX8_rip_62 hl (k := 1) rfl rfl (by decide) rfl (fun ls hl => ?_)
      refine lv_goto (tgt := 22) hx hb dX8_rip_65 (by decide) ?_
      exact hkb _ _ _ _ ls hf  hP hS (lv_sub hl [1, 0] rfl)
set_option maxHeartbeats 4000000 in
set_option maxRecDepth 100000 in
theorem vl_X8_rip_22 (X : Cx D cI cP cB cA 19 ad tL tC p s m c cX8_rip 2 args RX8) (hr : meth.sig.returnType = (some .int)) (hlk : meth.locks = false) {res : Int32 × Stt} (ke : Stt → Option (Int32 × Stt)) (hke : ∀ (S : Stt) (H : Heap) (locs : List Loc) (ls : Array Slot), ke S = some res → va_P D vwCl (wl 19 ad (cfM ad cI S)) H → va_S (Ar 19 ad) s.heap H locs → lv_has ls 2 [(0, .ref (ad 0))] → W p l e (rmD 1) s m args below meth c H locs 0 0 (MQ below (QI D 19 ad res.1 (cfM ad cI res.2)) args s 0 0 (Ar 19 ad)) (F0 m 68 ls [])) : ∀ (n : Nat), ∀ (x1 : Int32) (S : Stt) (H : Heap) (locs : List Loc) (ls : Array Slot), fl_X8_rip_22 ke n x1 S = some res → va_P D vwCl (wl 19 ad (cfM ad cI S)) H → va_S (Ar 19 ad) s.heap H locs → lv_has ls 2 [(0, .ref (ad 0)), (1, .int x1)] → W p l e (rmD 1) s m args below meth c H locs 0 0 (MQ below (QI D 19 ad res.1 (cfM ad cI res.2)) args s 0 0 (Ar 19 ad)) (F0 m 22 ls []) := by
  intro n
  induction n with
  | zero =>
    intro x1 S H locs ls hf hP hS hl
    cases hf
  | succ n ih =>
    intro x1 S H locs ls hf hP hS hl
    exact vb_X8_rip_22 X hr hlk _ ke ih hke x1 S H locs ls hf  hP hS hl
end
set_option maxHeartbeats 4000000 in
set_option maxRecDepth 100000 in
theorem m_X8_rip {l : Launch} {D : va_G} {cI cP cB cA : ClassId} {ad : Nat → Nat} {tL tC : Nat} {S : Stt} {res : Int32 × Stt} (hf : f_X8_rip  S = some res) : Ct l D cI cP cB cA 19 ad tL tC yX8_rip cX8_rip 2 (some .int) 1 [.ref (ad 0)] (cfM ad cI S) (QI D 19 ad res.1 (cfM ad cI res.2)) := by
  refine ctOf (by decide) (Nat.le_of_ble_eq_true rfl) ?_
  intro p e s m args below meth c ls X hr hlk hP hl
  have hS : va_S (Ar 19 ad) s.heap s.heap [] := va_S.rf
  have hx := X.1.1
  have hb := X.1.2.1
  have hl : lv_has ls 2 [(0, .ref (ad 0))] := hl
  unfold f_X8_rip at hf
  refine lv_aload_n hx hb dX8_rip_0 rfl (lv_at hl 0 rfl) ?_
  refine g_M_many X hP  tw_86 dX8_rip_1 ?_
  refine lv_if_ne (tgt := 10) hx hb dX8_rip_4 (by decide) (fun c1 => ?_) (fun c1 => ?_)
  · rw [if_neg c1] at hf
    refine lv_aload_n hx hb dX8_rip_10 rfl (lv_at hl 0 rfl) ?_
    refine lv_dup hx hb dX8_rip_11 rfl ?_
    refine g_M_many X hP  tw_86 dX8_rip_12 ?_
    refine lv_iconst (v := (1 : Int32)) hx hb dX8_rip_15 (by decide) ?_
    refine lv_isub hx hb dX8_rip_16 ?_
    refine p_M_many X hP hS  tw_86 dX8_rip_17 (fun H locs hP hS => ?_)
    refine lv_iconst (v := (0 : Int32)) hx hb dX8_rip_20 (by decide) ?_
    refine lv_istore_n (lv' := [(1, .int (0 : Int32)), (0, .ref (ad 0))]) hx hb dX8_rip_21 rfl hl (by decide) rfl (fun ls hl => ?_)
    refine vl_X8_rip_22 X hr hlk _ ?_ 300 _ _ _ _ ls hf  hP hS (lv_sub hl [1, 0] rfl)
    intro S H locs ls hf hP hS hl
    refine lv_aload_n hx hb dX8_rip_68 rfl (lv_at hl 0 rfl) ?_
    refine g_M_many X hP  tw_86 dX8_rip_69 ?_
    cases hf
    exact rtI X hr hlk hP hS dX8_rip_72
  · rw [if_pos c1] at hf
    refine lv_bipush (v := (-4 : Int32)) hx hb dX8_rip_7 (by decide) ?_
    cases hf
    exact rtI X hr hlk hP hS dX8_rip_9
/-! X8_rowAt -/
section
variable {p : Program} {l : Launch} {e : Env} {s : State} {m : MethodId} {args : Array Value} {below : List Frame} {meth : Method} {c : Code}
variable {D : va_G} {cI cP cB cA : ClassId} {ad : Nat → Nat} {tL tC : Nat}
end
set_option maxHeartbeats 4000000 in
set_option maxRecDepth 100000 in
theorem m_X8_rowAt {l : Launch} {D : va_G} {cI cP cB cA : ClassId} {ad : Nat → Nat} {tL tC : Nat} {x1 : Int32} {x2 : Int32} {S : Stt} {res : Int32 × Stt} (hf : f_X8_rowAt x1 x2 S = some res) : Ct l D cI cP cB cA 19 ad tL tC yX8_rowAt cX8_rowAt 3 (some .int) 1 [.ref (ad 0), .int x1, .int x2] (cfM ad cI S) (QI D 19 ad res.1 (cfM ad cI res.2)) := by
  refine ctOf (by decide) (Nat.le_of_ble_eq_true rfl) ?_
  intro p e s m args below meth c ls X hr hlk hP hl
  have hS : va_S (Ar 19 ad) s.heap s.heap [] := va_S.rf
  have hx := X.1.1
  have hb := X.1.2.1
  have hl : lv_has ls 3 [(0, .ref (ad 0)), (1, .int x1), (2, .int x2)] := hl
  unfold f_X8_rowAt at hf
  refine lv_aload_n hx hb dX8_rowAt_0 rfl (lv_at hl 0 rfl) ?_
  refine g_M_rows X hP  tw_82 dX8_rowAt_1 ?_
  refine lv_bipush (v := (40 : Int32)) hx hb dX8_rowAt_4 (by decide) ?_
  refine lv_iload_n hx hb dX8_rowAt_6 rfl (lv_at hl 1 rfl) ?_
  refine lv_imul hx hb dX8_rowAt_7 ?_
  refine lv_iload_n hx hb dX8_rowAt_8 rfl (lv_at hl 2 rfl) ?_
  refine lv_iadd hx hb dX8_rowAt_9 ?_
  obtain ⟨g1, hf⟩ := grd_some hf
  refine r_m_rows X hP  g1 dX8_rowAt_10 ?_
  cases hf
  exact rtI X hr hlk hP hS dX8_rowAt_11
/-! X8_setRow -/
section
variable {p : Program} {l : Launch} {e : Env} {s : State} {m : MethodId} {args : Array Value} {below : List Frame} {meth : Method} {c : Code}
variable {D : va_G} {cI cP cB cA : ClassId} {ad : Nat → Nat} {tL tC : Nat}
end
set_option maxHeartbeats 4000000 in
set_option maxRecDepth 100000 in
theorem m_X8_setRow {l : Launch} {D : va_G} {cI cP cB cA : ClassId} {ad : Nat → Nat} {tL tC : Nat} {x1 : Int32} {x2 : Int32} {x3 : Int32} {S : Stt} {res : Stt} (hf : f_X8_setRow x1 x2 x3 S = some res) : Ct l D cI cP cB cA 19 ad tL tC yX8_setRow cX8_setRow 4 none 1 [.ref (ad 0), .int x1, .int x2, .int x3] (cfM ad cI S) (QV D 19 ad (cfM ad cI res)) := by
  refine ctOf (by decide) (Nat.le_of_ble_eq_true rfl) ?_
  intro p e s m args below meth c ls X hr hlk hP hl
  have hS : va_S (Ar 19 ad) s.heap s.heap [] := va_S.rf
  have hx := X.1.1
  have hb := X.1.2.1
  have hl : lv_has ls 4 [(0, .ref (ad 0)), (1, .int x1), (2, .int x2), (3, .int x3)] := hl
  unfold f_X8_setRow at hf
  refine lv_aload_n hx hb dX8_setRow_0 rfl (lv_at hl 0 rfl) ?_
  refine g_M_rows X hP  tw_82 dX8_setRow_1 ?_
  refine lv_bipush (v := (40 : Int32)) hx hb dX8_setRow_4 (by decide) ?_
  refine lv_iload_n hx hb dX8_setRow_6 rfl (lv_at hl 1 rfl) ?_
  refine lv_imul hx hb dX8_setRow_7 ?_
  refine lv_iload_n hx hb dX8_setRow_8 rfl (lv_at hl 2 rfl) ?_
  refine lv_iadd hx hb dX8_setRow_9 ?_
  refine lv_iload_n hx hb dX8_setRow_10 rfl (lv_at hl 3 rfl) ?_
  obtain ⟨g1, hf⟩ := grd_some hf
  refine w_m_rows X hP hS  g1 dX8_setRow_11 (fun H locs hP hS => ?_)
  cases hf
  exact rtV X hr hlk hP hS dX8_setRow_12
/-! X8_sizeOf -/
section
variable {p : Program} {l : Launch} {e : Env} {s : State} {m : MethodId} {args : Array Value} {below : List Frame} {meth : Method} {c : Code}
variable {D : va_G} {cI cP cB cA : ClassId} {ad : Nat → Nat} {tL tC : Nat}
set_option maxHeartbeats 4000000 in
set_option maxRecDepth 100000 in
theorem vb_X8_sizeOf_4 (X : Cx D cI cP cB cA 19 ad tL tC p s m c cX8_sizeOf 3 args RX8) (hr : meth.sig.returnType = (some .int)) (hlk : meth.locks = false) {res : Int32 × Stt} (kb : Int32 → Int32 → Int32 → Stt → Option (Int32 × Stt)) (ke : Int32 → Stt → Option (Int32 × Stt)) (hkb : ∀ (x0 : Int32) (x1 : Int32) (x2 : Int32) (S : Stt) (H : Heap) (locs : List Loc) (ls : Array Slot), kb x0 x1 x2 S = some res → va_P D vwCl (wl 19 ad (cfM ad cI S)) H → va_S (Ar 19 ad) s.heap H locs → lv_has ls 3 [(0, .int x0), (1, .int x1), (2, .int x2)] → W p l e (rmD 1) s m args below meth c H locs 0 0 (MQ below (QI D 19 ad res.1 (cfM ad cI res.2)) args s 0 0 (Ar 19 ad)) (F0 m 4 ls [])) (hke : ∀ (x1 : Int32) (S : Stt) (H : Heap) (locs : List Loc) (ls : Array Slot), ke x1 S = some res → va_P D vwCl (wl 19 ad (cfM ad cI S)) H → va_S (Ar 19 ad) s.heap H locs → lv_has ls 3 [(1, .int x1)] → W p l e (rmD 1) s m args below meth c H locs 0 0 (MQ below (QI D 19 ad res.1 (cfM ad cI res.2)) args s 0 0 (Ar 19 ad)) (F0 m 24 ls [])) : ∀ (x0 : Int32) (x1 : Int32) (x2 : Int32) (S : Stt) (H : Heap) (locs : List Loc) (ls : Array Slot), fb_X8_sizeOf_4 kb ke x0 x1 x2 S = some res → va_P D vwCl (wl 19 ad (cfM ad cI S)) H → va_S (Ar 19 ad) s.heap H locs → lv_has ls 3 [(0, .int x0), (1, .int x1), (2, .int x2)] → W p l e (rmD 1) s m args below meth c H locs 0 0 (MQ below (QI D 19 ad res.1 (cfM ad cI res.2)) args s 0 0 (Ar 19 ad)) (F0 m 4 ls []) := by
  intro x0 x1 x2 S H locs ls hf hP hS hl
  have hx := X.1.1
  have hb := X.1.2.1
  unfold fb_X8_sizeOf_4 at hf
  refine lv_iload_n hx hb dX8_sizeOf_4 rfl (lv_at hl 2 rfl) ?_
  refine lv_bipush (v := (8 : Int32)) hx hb dX8_sizeOf_5 (by decide) ?_
  refine lv_icmp_ge (tgt := 24) hx hb dX8_sizeOf_7 (by decide) (fun c1 => ?_) (fun c1 => ?_)
  · rw [if_pos c1] at hf
    exact hke _ _ _ _ ls hf  hP hS (lv_sub hl [1] rfl)
  · rw [if_neg c1] at hf
    refine lv_iload_n hx hb dX8_sizeOf_10 rfl (lv_at hl 1 rfl) ?_
    refine lv_iload_n hx hb dX8_sizeOf_11 rfl (lv_at hl 0 rfl) ?_
    refine lv_iload_n hx hb dX8_sizeOf_12 rfl (lv_at hl 2 rfl) ?_
    refine lv_ishr hx hb dX8_sizeOf_13 ?_
    refine lv_iconst (v := (1 : Int32)) hx hb dX8_sizeOf_14 (by decide) ?_
    refine lv_iand hx hb dX8_sizeOf_15 ?_
    refine lv_iadd hx hb dX8_sizeOf_16 ?_
    refine lv_istore_n (lv' := [(1, .int (x1 + ((x0 >>> (x2 &&& 31)) &&& (1 : Int32)))), (0, .int x0), (2, .int x2)]) hx hb dX8_sizeOf_17 rfl hl (by decide) rfl (fun ls hl => ?_)
    refine lv_iinc (v := (x2 + (1 : Int32))) (lv' := [(2, .int (x2 + (1 : Int32))), (1, .int (x1 + ((x0 >>> (x2 &&& 31)) &&& (1 : Int32)))), (0, .int x0)]) hx hb dX8_sizeOf_18 hl (k := 2) rfl rfl (by decide) rfl (fun ls hl => ?_)
    refine lv_goto (tgt := 4) hx hb dX8_sizeOf_21 (by decide) ?_
    exact hkb _ _ _ _ _ _ ls hf  hP hS (lv_sub hl [2, 1, 0] rfl)
set_option maxHeartbeats 4000000 in
set_option maxRecDepth 100000 in
theorem vl_X8_sizeOf_4 (X : Cx D cI cP cB cA 19 ad tL tC p s m c cX8_sizeOf 3 args RX8) (hr : meth.sig.returnType = (some .int)) (hlk : meth.locks = false) {res : Int32 × Stt} (ke : Int32 → Stt → Option (Int32 × Stt)) (hke : ∀ (x1 : Int32) (S : Stt) (H : Heap) (locs : List Loc) (ls : Array Slot), ke x1 S = some res → va_P D vwCl (wl 19 ad (cfM ad cI S)) H → va_S (Ar 19 ad) s.heap H locs → lv_has ls 3 [(1, .int x1)] → W p l e (rmD 1) s m args below meth c H locs 0 0 (MQ below (QI D 19 ad res.1 (cfM ad cI res.2)) args s 0 0 (Ar 19 ad)) (F0 m 24 ls [])) : ∀ (n : Nat), ∀ (x0 : Int32) (x1 : Int32) (x2 : Int32) (S : Stt) (H : Heap) (locs : List Loc) (ls : Array Slot), fl_X8_sizeOf_4 ke n x0 x1 x2 S = some res → va_P D vwCl (wl 19 ad (cfM ad cI S)) H → va_S (Ar 19 ad) s.heap H locs → lv_has ls 3 [(0, .int x0), (1, .int x1), (2, .int x2)] → W p l e (rmD 1) s m args below meth c H locs 0 0 (MQ below (QI D 19 ad res.1 (cfM ad cI res.2)) args s 0 0 (Ar 19 ad)) (F0 m 4 ls []) := by
  intro n
  induction n with
  | zero =>
    intro x0 x1 x2 S H locs ls hf hP hS hl
    cases hf
  | succ n ih =>
    intro x0 x1 x2 S H locs ls hf hP hS hl
    exact vb_X8_sizeOf_4 X hr hlk _ ke ih hke x0 x1 x2 S H locs ls hf  hP hS hl
end
set_option maxHeartbeats 4000000 in
set_option maxRecDepth 100000 in
theorem m_X8_sizeOf {l : Launch} {D : va_G} {cI cP cB cA : ClassId} {ad : Nat → Nat} {tL tC : Nat} {x0 : Int32} {S : Stt} {res : Int32 × Stt} (hf : f_X8_sizeOf x0 S = some res) : Ct l D cI cP cB cA 19 ad tL tC yX8_sizeOf cX8_sizeOf 3 (some .int) 1 [.int x0] (cfM ad cI S) (QI D 19 ad res.1 (cfM ad cI res.2)) := by
  refine ctOf (by decide) (Nat.le_of_ble_eq_true rfl) ?_
  intro p e s m args below meth c ls X hr hlk hP hl
  have hS : va_S (Ar 19 ad) s.heap s.heap [] := va_S.rf
  have hx := X.1.1
  have hb := X.1.2.1
  have hl : lv_has ls 3 [(0, .int x0)] := hl
  unfold f_X8_sizeOf at hf
  refine lv_iconst (v := (0 : Int32)) hx hb dX8_sizeOf_0 (by decide) ?_
  refine lv_istore_n (lv' := [(1, .int (0 : Int32)), (0, .int x0)]) hx hb dX8_sizeOf_1 rfl hl (by decide) rfl (fun ls hl => ?_)
  refine lv_iconst (v := (0 : Int32)) hx hb dX8_sizeOf_2 (by decide) ?_
  refine lv_istore_n (lv' := [(2, .int (0 : Int32)), (1, .int (0 : Int32)), (0, .int x0)]) hx hb dX8_sizeOf_3 rfl hl (by decide) rfl (fun ls hl => ?_)
  refine vl_X8_sizeOf_4 X hr hlk _ ?_ 300 _ _ _ _ _ _ ls hf  hP hS (lv_sub hl [2, 1, 0] rfl)
  intro x1 S H locs ls hf hP hS hl
  refine lv_iload_n hx hb dX8_sizeOf_24 rfl (lv_at hl 0 rfl) ?_
  cases hf
  exact rtI X hr hlk hP hS dX8_sizeOf_25
/-! X8_upper -/
section
variable {p : Program} {l : Launch} {e : Env} {s : State} {m : MethodId} {args : Array Value} {below : List Frame} {meth : Method} {c : Code}
variable {D : va_G} {cI cP cB cA : ClassId} {ad : Nat → Nat} {tL tC : Nat}
end
set_option maxHeartbeats 4000000 in
set_option maxRecDepth 100000 in
theorem m_X8_upper {l : Launch} {D : va_G} {cI cP cB cA : ClassId} {ad : Nat → Nat} {tL tC : Nat} {S : Stt} {res : Int64 × Stt} (hf : f_X8_upper  S = some res) : Ct l D cI cP cB cA 19 ad tL tC yX8_upper cX8_upper 1 (some .long) 1 [.ref (ad 0)] (cfM ad cI S) (QL D 19 ad res.1 (cfM ad cI res.2)) := by
  refine ctOf (by decide) (Nat.le_of_ble_eq_true rfl) ?_
  intro p e s m args below meth c ls X hr hlk hP hl
  have hS : va_S (Ar 19 ad) s.heap s.heap [] := va_S.rf
  have hx := X.1.1
  have hb := X.1.2.1
  have hl : lv_has ls 1 [(0, .ref (ad 0))] := hl
  unfold f_X8_upper at hf
  refine lv_aload_n hx hb dX8_upper_0 rfl (lv_at hl 0 rfl) ?_
  refine g_M_upper X hP  tw_79 dX8_upper_1 ?_
  cases hf
  exact rtL X hr hlk hP hS dX8_upper_4
/-! X0_become -/
section
variable {p : Program} {l : Launch} {e : Env} {s : State} {m : MethodId} {args : Array Value} {below : List Frame} {meth : Method} {c : Code}
variable {D : va_G} {cI cP cB cA : ClassId} {ad : Nat → Nat} {tL tC : Nat}
set_option maxHeartbeats 4000000 in
set_option maxRecDepth 100000 in
theorem vb_X0_become_10 (X : Cx D cI cP cB cA 79 ad tL tC p s m c cX0_become 3 args RX0) (hr : meth.sig.returnType = none) (hlk : meth.locks = false) {res : Stt} (kb : Nat → Nat → Int32 → Stt → Option (Stt)) (ke : Stt → Option (Stt)) (hkb : ∀ (b0 : Nat) (b1 : Nat) (x2 : Int32) (S : Stt) (H : Heap) (locs : List Loc) (ls : Array Slot), kb b0 b1 x2 S = some res → b0 < 5 → b1 < 5 → va_P D vwCl (wl 79 ad (cfC ad cI cP cB cA S)) H → va_S (Ar 79 ad) s.heap H locs → lv_has ls 3 [(0, .ref (ad (34 + b0))), (1, .ref (ad (34 + b1))), (2, .int x2)] → W p l e (rmD 2) s m args below meth c H locs 0 0 (MQ below (QV D 79 ad (cfC ad cI cP cB cA res)) args s 0 0 (Ar 79 ad)) (F0 m 10 ls [])) (hke : ∀ (S : Stt) (H : Heap) (locs : List Loc) (ls : Array Slot), ke S = some res → va_P D vwCl (wl 79 ad (cfC ad cI cP cB cA S)) H → va_S (Ar 79 ad) s.heap H locs → lv_has ls 3 [] → W p l e (rmD 2) s m args below meth c H locs 0 0 (MQ below (QV D 79 ad (cfC ad cI cP cB cA res)) args s 0 0 (Ar 79 ad)) (F0 m 51 ls [])) : ∀ (b0 : Nat) (b1 : Nat) (x2 : Int32) (S : Stt) (H : Heap) (locs : List Loc) (ls : Array Slot), fb_X0_become_10 kb ke b0 b1 x2 S = some res → b0 < 5 → b1 < 5 → va_P D vwCl (wl 79 ad (cfC ad cI cP cB cA S)) H → va_S (Ar 79 ad) s.heap H locs → lv_has ls 3 [(0, .ref (ad (34 + b0))), (1, .ref (ad (34 + b1))), (2, .int x2)] → W p l e (rmD 2) s m args below meth c H locs 0 0 (MQ below (QV D 79 ad (cfC ad cI cP cB cA res)) args s 0 0 (Ar 79 ad)) (F0 m 10 ls []) := by
  intro b0 b1 x2 S H locs ls hf hb_0_0 hb_1_0 hP hS hl
  have hx := X.1.1
  have hb := X.1.2.1
  unfold fb_X0_become_10 at hf
  refine lv_iload_n hx hb dX0_become_10 rfl (lv_at hl 2 rfl) ?_
  refine lv_aload_n hx hb dX0_become_11 rfl (lv_at hl 0 rfl) ?_
  refine g_Book_count X hP hb_0_0 tw_24 dX0_become_12 ?_
  refine lv_icmp_ge (tgt := 51) hx hb dX0_become_15 (by decide) (fun c1 => ?_) (fun c1 => ?_)
  · rw [if_pos c1] at hf
    exact hke  _ _ _ ls hf  hP hS (lv_sub hl [] rfl)
  · rw [if_neg c1] at hf
    refine lv_aload_n hx hb dX0_become_18 rfl (lv_at hl 0 rfl) ?_
    refine g_Book_pages X hP hb_0_0 tw_20 dX0_become_19 ?_
    refine lv_iload_n hx hb dX0_become_22 rfl (lv_at hl 2 rfl) ?_
    obtain ⟨g2, hf⟩ := grd_some hf
    refine q_pages X hP hb_0_0 g2 dX0_become_23 ?_
    refine lv_aload_n hx hb dX0_become_24 rfl (lv_at hl 1 rfl) ?_
    refine g_Book_pages X hP hb_1_0 tw_20 dX0_become_25 ?_
    refine lv_iload_n hx hb dX0_become_28 rfl (lv_at hl 2 rfl) ?_
    obtain ⟨g3, hf⟩ := grd_some hf
    refine q_pages X hP hb_1_0 g3 dX0_become_29 ?_
    obtain ⟨q4, e5, hf⟩ := bind_some hf
    refine aftV hS (cV (rest := []) X hP hS [.ref (ad (49 + 6 * b1 + x2.toNatClampNeg))] (m_X3_become hb_0_0 (ixb_lt g2) hb_1_0 (ixb_lt g3) e5) cw_X3_become tw_165 tw_447 tw_676 (pg_lt hb_0_0 (ixb_lt g2)) (cf_Page hb_0_0 (ixb_lt g2)) rfl (fits9 (by first | decide | omega) (by decide)) rfl rfl hl.1 (Nat.le_of_ble_eq_true rfl) dX0_become_30 ⟨Nat.zero_le _, Nat.zero_le _⟩) (fun H locs hP hS => ?_)
    refine lv_aload_n hx hb dX0_become_33 rfl (lv_at hl 0 rfl) ?_
    refine g_Book_ranked X hP hb_0_0 tw_23 dX0_become_34 ?_
    refine lv_iload_n hx hb dX0_become_37 rfl (lv_at hl 2 rfl) ?_
    refine lv_aload_n hx hb dX0_become_38 rfl (lv_at hl 1 rfl) ?_
    refine g_Book_ranked X hP hb_1_0 tw_23 dX0_become_39 ?_
    refine lv_iload_n hx hb dX0_become_42 rfl (lv_at hl 2 rfl) ?_
    obtain ⟨g6, hf⟩ := grd_some hf
    refine r_ranked X hP hb_1_0 g6 dX0_become_43 ?_
    obtain ⟨g7, hf⟩ := grd_some hf
    refine w_ranked X hP hS hb_0_0 g7 dX0_become_44 (fun H locs hP hS => ?_)
    refine lv_iinc (v := (x2 + (1 : Int32))) (lv' := [(2, .int (x2 + (1 : Int32))), (0, .ref (ad (34 + b0))), (1, .ref (ad (34 + b1)))]) hx hb dX0_become_45 hl (k := 2) rfl rfl (by decide) rfl (fun ls hl => ?_)
    refine lv_goto (tgt := 10) hx hb dX0_become_48 (by decide) ?_
    exact hkb _ _ _ _ _ _ ls hf hb_0_0 hb_1_0 hP hS (lv_sub hl [1, 2, 0] rfl)
set_option maxHeartbeats 4000000 in
set_option maxRecDepth 100000 in
theorem vl_X0_become_10 (X : Cx D cI cP cB cA 79 ad tL tC p s m c cX0_become 3 args RX0) (hr : meth.sig.returnType = none) (hlk : meth.locks = false) {res : Stt} (ke : Stt → Option (Stt)) (hke : ∀ (S : Stt) (H : Heap) (locs : List Loc) (ls : Array Slot), ke S = some res → va_P D vwCl (wl 79 ad (cfC ad cI cP cB cA S)) H → va_S (Ar 79 ad) s.heap H locs → lv_has ls 3 [] → W p l e (rmD 2) s m args below meth c H locs 0 0 (MQ below (QV D 79 ad (cfC ad cI cP cB cA res)) args s 0 0 (Ar 79 ad)) (F0 m 51 ls [])) : ∀ (n : Nat), ∀ (b0 : Nat) (b1 : Nat) (x2 : Int32) (S : Stt) (H : Heap) (locs : List Loc) (ls : Array Slot), fl_X0_become_10 ke n b0 b1 x2 S = some res → b0 < 5 → b1 < 5 → va_P D vwCl (wl 79 ad (cfC ad cI cP cB cA S)) H → va_S (Ar 79 ad) s.heap H locs → lv_has ls 3 [(0, .ref (ad (34 + b0))), (1, .ref (ad (34 + b1))), (2, .int x2)] → W p l e (rmD 2) s m args below meth c H locs 0 0 (MQ below (QV D 79 ad (cfC ad cI cP cB cA res)) args s 0 0 (Ar 79 ad)) (F0 m 10 ls []) := by
  intro n
  induction n with
  | zero =>
    intro b0 b1 x2 S H locs ls hf hb_0_0 hb_1_0 hP hS hl
    cases hf
  | succ n ih =>
    intro b0 b1 x2 S H locs ls hf hb_0_0 hb_1_0 hP hS hl
    exact vb_X0_become_10 X hr hlk _ ke ih hke b0 b1 x2 S H locs ls hf hb_0_0 hb_1_0 hP hS hl
end
set_option maxHeartbeats 4000000 in
set_option maxRecDepth 100000 in
theorem m_X0_become {l : Launch} {D : va_G} {cI cP cB cA : ClassId} {ad : Nat → Nat} {tL tC : Nat} {b0 : Nat} {b1 : Nat} (hb_0_0 : b0 < 5) (hb_1_0 : b1 < 5) {S : Stt} {res : Stt} (hf : f_X0_become b0 b1 S = some res) : Ct l D cI cP cB cA 79 ad tL tC yX0_become cX0_become 3 none 2 [.ref (ad (34 + b0)), .ref (ad (34 + b1))] (cfC ad cI cP cB cA S) (QV D 79 ad (cfC ad cI cP cB cA res)) := by
  refine ctOf (by decide) (Nat.le_of_ble_eq_true rfl) ?_
  intro p e s m args below meth c ls X hr hlk hP hl
  have hS : va_S (Ar 79 ad) s.heap s.heap [] := va_S.rf
  have hx := X.1.1
  have hb := X.1.2.1
  have hl : lv_has ls 3 [(0, .ref (ad (34 + b0))), (1, .ref (ad (34 + b1)))] := hl
  unfold f_X0_become at hf
  refine lv_aload_n hx hb dX0_become_0 rfl (lv_at hl 0 rfl) ?_
  refine lv_aload_n hx hb dX0_become_1 rfl (lv_at hl 1 rfl) ?_
  refine g_Book_count X hP hb_1_0 tw_24 dX0_become_2 ?_
  refine p_Book_count X hP hS hb_0_0 tw_24 dX0_become_5 (fun H locs hP hS => ?_)
  refine lv_iconst (v := (0 : Int32)) hx hb dX0_become_8 (by decide) ?_
  refine lv_istore_n (lv' := [(2, .int (0 : Int32)), (0, .ref (ad (34 + b0))), (1, .ref (ad (34 + b1)))]) hx hb dX0_become_9 rfl hl (by decide) rfl (fun ls hl => ?_)
  refine vl_X0_become_10 X hr hlk _ ?_ 300 _ _ _ _ _ _ ls hf hb_0_0 hb_1_0 hP hS (lv_sub hl [1, 2, 0] rfl)
  intro S H locs ls hf hP hS hl
  cases hf
  exact rtV X hr hlk hP hS dX0_become_51
/-! X0_countOf -/
section
variable {p : Program} {l : Launch} {e : Env} {s : State} {m : MethodId} {args : Array Value} {below : List Frame} {meth : Method} {c : Code}
variable {D : va_G} {cI cP cB cA : ClassId} {ad : Nat → Nat} {tL tC : Nat}
set_option maxHeartbeats 4000000 in
set_option maxRecDepth 100000 in
theorem vb_X0_countOf_4 (X : Cx D cI cP cB cA 79 ad tL tC p s m c cX0_countOf 4 args RX0) (hr : meth.sig.returnType = (some .int)) (hlk : meth.locks = false) {res : Int32 × Stt} (kb : Nat → Int32 → Int32 → Int32 → Stt → Option (Int32 × Stt)) (ke : Int32 → Stt → Option (Int32 × Stt)) (hkb : ∀ (b0 : Nat) (x1 : Int32) (x2 : Int32) (x3 : Int32) (S : Stt) (H : Heap) (locs : List Loc) (ls : Array Slot), kb b0 x1 x2 x3 S = some res → b0 < 5 → va_P D vwCl (wl 79 ad (cfC ad cI cP cB cA S)) H → va_S (Ar 79 ad) s.heap H locs → lv_has ls 4 [(0, .ref (ad (34 + b0))), (1, .int x1), (2, .int x2), (3, .int x3)] → W p l e (rmD 2) s m args below meth c H locs 0 0 (MQ below (QI D 79 ad res.1 (cfC ad cI cP cB cA res.2)) args s 0 0 (Ar 79 ad)) (F0 m 4 ls [])) (hke : ∀ (x2 : Int32) (S : Stt) (H : Heap) (locs : List Loc) (ls : Array Slot), ke x2 S = some res → va_P D vwCl (wl 79 ad (cfC ad cI cP cB cA S)) H → va_S (Ar 79 ad) s.heap H locs → lv_has ls 4 [(2, .int x2)] → W p l e (rmD 2) s m args below meth c H locs 0 0 (MQ below (QI D 79 ad res.1 (cfC ad cI cP cB cA res.2)) args s 0 0 (Ar 79 ad)) (F0 m 34 ls [])) : ∀ (b0 : Nat) (x1 : Int32) (x2 : Int32) (x3 : Int32) (S : Stt) (H : Heap) (locs : List Loc) (ls : Array Slot), fb_X0_countOf_4 kb ke b0 x1 x2 x3 S = some res → b0 < 5 → va_P D vwCl (wl 79 ad (cfC ad cI cP cB cA S)) H → va_S (Ar 79 ad) s.heap H locs → lv_has ls 4 [(0, .ref (ad (34 + b0))), (1, .int x1), (2, .int x2), (3, .int x3)] → W p l e (rmD 2) s m args below meth c H locs 0 0 (MQ below (QI D 79 ad res.1 (cfC ad cI cP cB cA res.2)) args s 0 0 (Ar 79 ad)) (F0 m 4 ls []) := by
  intro b0 x1 x2 x3 S H locs ls hf hb_0_0 hP hS hl
  have hx := X.1.1
  have hb := X.1.2.1
  unfold fb_X0_countOf_4 at hf
  refine lv_iload_n hx hb dX0_countOf_4 rfl (lv_at hl 3 rfl) ?_
  refine lv_aload_n hx hb dX0_countOf_5 rfl (lv_at hl 0 rfl) ?_
  refine g_Book_count X hP hb_0_0 tw_24 dX0_countOf_6 ?_
  refine lv_icmp_ge (tgt := 34) hx hb dX0_countOf_9 (by decide) (fun c1 => ?_) (fun c1 => ?_)
  · rw [if_pos c1] at hf
    exact hke _ _ _ _ ls hf  hP hS (lv_sub hl [2] rfl)
  · rw [if_neg c1] at hf
    refine lv_aload_n hx hb dX0_countOf_12 rfl (lv_at hl 0 rfl) ?_
    refine g_Book_pages X hP hb_0_0 tw_20 dX0_countOf_13 ?_
    refine lv_iload_n hx hb dX0_countOf_16 rfl (lv_at hl 3 rfl) ?_
    obtain ⟨g2, hf⟩ := grd_some hf
    refine q_pages X hP hb_0_0 g2 dX0_countOf_17 ?_
    refine lv_iload_n hx hb dX0_countOf_18 rfl (lv_at hl 1 rfl) ?_
    obtain ⟨q3, e4, hf⟩ := bind_some hf
    refine aftI hS (cV (rest := []) X hP hS [.int x1] (m_X3_isOf hb_0_0 (ixb_lt g2) e4) cw_X3_isOf tw_176 tw_442 tw_678 (pg_lt hb_0_0 (ixb_lt g2)) (cf_Page hb_0_0 (ixb_lt g2)) rfl (fits9 (by first | decide | omega) (by decide)) rfl rfl hl.1 (Nat.le_of_ble_eq_true rfl) dX0_countOf_19 ⟨Nat.zero_le _, Nat.zero_le _⟩) (fun H locs hP hS => ?_)
    refine lv_if_eq (tgt := 28) hx hb dX0_countOf_22 (by decide) (fun c5 => ?_) (fun c5 => ?_)
    · rw [if_pos c5] at hf
      refine lv_iinc (v := (x3 + (1 : Int32))) (lv' := [(3, .int (x3 + (1 : Int32))), (0, .ref (ad (34 + b0))), (1, .int x1), (2, .int x2)]) hx hb dX0_countOf_28 hl (k := 3) rfl rfl (by decide) rfl (fun ls hl => ?_)
      refine lv_goto (tgt := 4) hx hb dX0_countOf_31 (by decide) ?_
      exact hkb _ _ _ _ _ _ _ ls hf hb_0_0 hP hS (lv_sub hl [1, 2, 3, 0] rfl)
    · rw [if_neg c5] at hf
      refine lv_iinc (v := (x2 + (1 : Int32))) (lv' := [(2, .int (x2 + (1 : Int32))), (0, .ref (ad (34 + b0))), (1, .int x1), (3, .int x3)]) hx hb dX0_countOf_25 hl (k := 2) rfl rfl (by decide) rfl (fun ls hl => ?_)
      refine lv_iinc (v := (x3 + (1 : Int32))) (lv' := [(3, .int (x3 + (1 : Int32))), (2, .int (x2 + (1 : Int32))), (0, .ref (ad (34 + b0))), (1, .int x1)]) hx hb dX0_countOf_28 hl (k := 3) rfl rfl (by decide) rfl (fun ls hl => ?_)
      refine lv_goto (tgt := 4) hx hb dX0_countOf_31 (by decide) ?_
      exact hkb _ _ _ _ _ _ _ ls hf hb_0_0 hP hS (lv_sub hl [2, 3, 1, 0] rfl)
set_option maxHeartbeats 4000000 in
set_option maxRecDepth 100000 in
theorem vl_X0_countOf_4 (X : Cx D cI cP cB cA 79 ad tL tC p s m c cX0_countOf 4 args RX0) (hr : meth.sig.returnType = (some .int)) (hlk : meth.locks = false) {res : Int32 × Stt} (ke : Int32 → Stt → Option (Int32 × Stt)) (hke : ∀ (x2 : Int32) (S : Stt) (H : Heap) (locs : List Loc) (ls : Array Slot), ke x2 S = some res → va_P D vwCl (wl 79 ad (cfC ad cI cP cB cA S)) H → va_S (Ar 79 ad) s.heap H locs → lv_has ls 4 [(2, .int x2)] → W p l e (rmD 2) s m args below meth c H locs 0 0 (MQ below (QI D 79 ad res.1 (cfC ad cI cP cB cA res.2)) args s 0 0 (Ar 79 ad)) (F0 m 34 ls [])) : ∀ (n : Nat), ∀ (b0 : Nat) (x1 : Int32) (x2 : Int32) (x3 : Int32) (S : Stt) (H : Heap) (locs : List Loc) (ls : Array Slot), fl_X0_countOf_4 ke n b0 x1 x2 x3 S = some res → b0 < 5 → va_P D vwCl (wl 79 ad (cfC ad cI cP cB cA S)) H → va_S (Ar 79 ad) s.heap H locs → lv_has ls 4 [(0, .ref (ad (34 + b0))), (1, .int x1), (2, .int x2), (3, .int x3)] → W p l e (rmD 2) s m args below meth c H locs 0 0 (MQ below (QI D 79 ad res.1 (cfC ad cI cP cB cA res.2)) args s 0 0 (Ar 79 ad)) (F0 m 4 ls []) := by
  intro n
  induction n with
  | zero =>
    intro b0 x1 x2 x3 S H locs ls hf hb_0_0 hP hS hl
    cases hf
  | succ n ih =>
    intro b0 x1 x2 x3 S H locs ls hf hb_0_0 hP hS hl
    exact vb_X0_countOf_4 X hr hlk _ ke ih hke b0 x1 x2 x3 S H locs ls hf hb_0_0 hP hS hl
end
set_option maxHeartbeats 4000000 in
set_option maxRecDepth 100000 in
theorem m_X0_countOf {l : Launch} {D : va_G} {cI cP cB cA : ClassId} {ad : Nat → Nat} {tL tC : Nat} {b0 : Nat} {x1 : Int32} (hb_0_0 : b0 < 5) {S : Stt} {res : Int32 × Stt} (hf : f_X0_countOf b0 x1 S = some res) : Ct l D cI cP cB cA 79 ad tL tC yX0_countOf cX0_countOf 4 (some .int) 2 [.ref (ad (34 + b0)), .int x1] (cfC ad cI cP cB cA S) (QI D 79 ad res.1 (cfC ad cI cP cB cA res.2)) := by
  refine ctOf (by decide) (Nat.le_of_ble_eq_true rfl) ?_
  intro p e s m args below meth c ls X hr hlk hP hl
  have hS : va_S (Ar 79 ad) s.heap s.heap [] := va_S.rf
  have hx := X.1.1
  have hb := X.1.2.1
  have hl : lv_has ls 4 [(0, .ref (ad (34 + b0))), (1, .int x1)] := hl
  unfold f_X0_countOf at hf
  refine lv_iconst (v := (0 : Int32)) hx hb dX0_countOf_0 (by decide) ?_
  refine lv_istore_n (lv' := [(2, .int (0 : Int32)), (0, .ref (ad (34 + b0))), (1, .int x1)]) hx hb dX0_countOf_1 rfl hl (by decide) rfl (fun ls hl => ?_)
  refine lv_iconst (v := (0 : Int32)) hx hb dX0_countOf_2 (by decide) ?_
  refine lv_istore_n (lv' := [(3, .int (0 : Int32)), (2, .int (0 : Int32)), (0, .ref (ad (34 + b0))), (1, .int x1)]) hx hb dX0_countOf_3 rfl hl (by decide) rfl (fun ls hl => ?_)
  refine vl_X0_countOf_4 X hr hlk _ ?_ 300 _ _ _ _ _ _ _ ls hf hb_0_0 hP hS (lv_sub hl [2, 3, 1, 0] rfl)
  intro x2 S H locs ls hf hP hS hl
  refine lv_iload_n hx hb dX0_countOf_34 rfl (lv_at hl 0 rfl) ?_
  cases hf
  exact rtI X hr hlk hP hS dX0_countOf_35
/-! X0_factsFor -/
section
variable {p : Program} {l : Launch} {e : Env} {s : State} {m : MethodId} {args : Array Value} {below : List Frame} {meth : Method} {c : Code}
variable {D : va_G} {cI cP cB cA : ClassId} {ad : Nat → Nat} {tL tC : Nat}
set_option maxHeartbeats 4000000 in
set_option maxRecDepth 100000 in
theorem vb_X0_factsFor_9 (X : Cx D cI cP cB cA 79 ad tL tC p s m c cX0_factsFor 7 args RX0) (hr : meth.sig.returnType = (some .int)) (hlk : meth.locks = false) {res : Int32 × Stt} (kb : Nat → Int32 → Int32 → Int32 → Int32 → Int32 → Stt → Option (Int32 × Stt)) (ke : Int32 → Stt → Option (Int32 × Stt)) (hkb : ∀ (b0 : Nat) (x1 : Int32) (x2 : Int32) (x3 : Int32) (x4 : Int32) (x5 : Int32) (S : Stt) (H : Heap) (locs : List Loc) (ls : Array Slot), kb b0 x1 x2 x3 x4 x5 S = some res → b0 < 5 → va_P D vwCl (wl 79 ad (cfC ad cI cP cB cA S)) H → va_S (Ar 79 ad) s.heap H locs → lv_has ls 7 [(0, .ref (ad (34 + b0))), (1, .int x1), (2, .int x2), (3, .int x3), (4, .int x4), (5, .int x5)] → W p l e (rmD 2) s m args below meth c H locs 0 0 (MQ below (QI D 79 ad res.1 (cfC ad cI cP cB cA res.2)) args s 0 0 (Ar 79 ad)) (F0 m 9 ls [])) (hke : ∀ (x3 : Int32) (S : Stt) (H : Heap) (locs : List Loc) (ls : Array Slot), ke x3 S = some res → va_P D vwCl (wl 79 ad (cfC ad cI cP cB cA S)) H → va_S (Ar 79 ad) s.heap H locs → lv_has ls 7 [(3, .int x3)] → W p l e (rmD 2) s m args below meth c H locs 0 0 (MQ below (QI D 79 ad res.1 (cfC ad cI cP cB cA res.2)) args s 0 0 (Ar 79 ad)) (F0 m 94 ls [])) : ∀ (b0 : Nat) (x1 : Int32) (x2 : Int32) (x3 : Int32) (x4 : Int32) (x5 : Int32) (S : Stt) (H : Heap) (locs : List Loc) (ls : Array Slot), fb_X0_factsFor_9 kb ke b0 x1 x2 x3 x4 x5 S = some res → b0 < 5 → va_P D vwCl (wl 79 ad (cfC ad cI cP cB cA S)) H → va_S (Ar 79 ad) s.heap H locs → lv_has ls 7 [(0, .ref (ad (34 + b0))), (1, .int x1), (2, .int x2), (3, .int x3), (4, .int x4), (5, .int x5)] → W p l e (rmD 2) s m args below meth c H locs 0 0 (MQ below (QI D 79 ad res.1 (cfC ad cI cP cB cA res.2)) args s 0 0 (Ar 79 ad)) (F0 m 9 ls []) := by
  intro b0 x1 x2 x3 x4 x5 S H locs ls hf hb_0_0 hP hS hl
  have hx := X.1.1
  have hb := X.1.2.1
  unfold fb_X0_factsFor_9 at hf
  refine lv_iload hx hb dX0_factsFor_9 (lv_at hl 5 rfl) ?_
  refine lv_aload_n hx hb dX0_factsFor_11 rfl (lv_at hl 0 rfl) ?_
  refine g_Book_count X hP hb_0_0 tw_24 dX0_factsFor_12 ?_
  refine lv_icmp_ge (tgt := 94) hx hb dX0_factsFor_15 (by decide) (fun c1 => ?_) (fun c1 => ?_)
  · rw [if_pos c1] at hf
    exact hke _ _ _ _ ls hf  hP hS (lv_sub hl [3] rfl)
  · rw [if_neg c1] at hf
    refine lv_aload_n hx hb dX0_factsFor_18 rfl (lv_at hl 0 rfl) ?_
    refine g_Book_pages X hP hb_0_0 tw_20 dX0_factsFor_19 ?_
    refine lv_iload hx hb dX0_factsFor_22 (lv_at hl 5 rfl) ?_
    obtain ⟨g2, hf⟩ := grd_some hf
    refine q_pages X hP hb_0_0 g2 dX0_factsFor_24 ?_
    refine lv_astore (lv' := [(6, .ref (ad (49 + 6 * b0 + x5.toNatClampNeg))), (0, .ref (ad (34 + b0))), (1, .int x1), (2, .int x2), (3, .int x3), (4, .int x4), (5, .int x5)]) hx hb dX0_factsFor_25 hl (by decide) rfl (fun ls hl => ?_)
    refine lv_iload_n hx hb dX0_factsFor_27 rfl (lv_at hl 3 rfl) ?_
    refine lv_iload hx hb dX0_factsFor_28 (lv_at hl 6 rfl) ?_
    obtain ⟨q3, e4, hf⟩ := bind_some hf
    refine aftI hS (cSN (rest := []) X hP hS [.int x2, .int x5] (m_X7_hasBit  e4) cw_X7_hasBit tw_198 tw_435 (fits9 (by first | decide | omega) (by decide)) rfl rfl hl.1 (Nat.le_of_ble_eq_true rfl) dX0_factsFor_30 ⟨Nat.zero_le _, Nat.zero_le _⟩) (fun H locs hP hS => ?_)
    refine lv_if_eq (tgt := 88) hx hb dX0_factsFor_33 (by decide) (fun c5 => ?_) (fun c5 => ?_)
    · rw [if_pos c5] at hf
      refine lv_iinc (v := (x5 + (1 : Int32))) (lv' := [(5, .int (x5 + (1 : Int32))), (6, .ref (ad (49 + 6 * b0 + x5.toNatClampNeg))), (0, .ref (ad (34 + b0))), (1, .int x1), (2, .int x2), (3, .int x3), (4, .int x4)]) hx hb dX0_factsFor_88 hl (k := 6) rfl rfl (by decide) rfl (fun ls hl => ?_)
      refine lv_goto (tgt := 9) hx hb dX0_factsFor_91 (by decide) ?_
      exact hkb _ _ _ _ _ _ _ _ _ ls hf hb_0_0 hP hS (lv_sub hl [2, 3, 4, 5, 6, 0] rfl)
    · rw [if_neg c5] at hf
      refine lv_aload hx hb dX0_factsFor_36 (lv_at hl 0 rfl) ?_
      refine gN_Page_kind X hP hb_0_0 (ixb_lt g2) tw_3 dX0_factsFor_38 ?_
      refine lv_iconst (v := (3 : Int32)) hx hb dX0_factsFor_41 (by decide) ?_
      refine lv_icmp_ne (tgt := 88) hx hb dX0_factsFor_42 (by decide) (fun c6 => ?_) (fun c6 => ?_)
      · rw [if_neg c6] at hf
        refine lv_iinc (v := (x5 + (1 : Int32))) (lv' := [(5, .int (x5 + (1 : Int32))), (6, .ref (ad (49 + 6 * b0 + x5.toNatClampNeg))), (0, .ref (ad (34 + b0))), (1, .int x1), (2, .int x2), (3, .int x3), (4, .int x4)]) hx hb dX0_factsFor_88 hl (k := 6) rfl rfl (by decide) rfl (fun ls hl => ?_)
        refine lv_goto (tgt := 9) hx hb dX0_factsFor_91 (by decide) ?_
        exact hkb _ _ _ _ _ _ _ _ _ ls hf hb_0_0 hP hS (lv_sub hl [2, 3, 4, 5, 6, 0] rfl)
      · rw [if_pos c6] at hf
        refine lv_aload hx hb dX0_factsFor_45 (lv_at hl 0 rfl) ?_
        refine gN_Page_words X hP hb_0_0 (ixb_lt g2) tw_11 dX0_factsFor_47 ?_
        refine lv_iload_n hx hb dX0_factsFor_50 rfl (lv_at hl 2 rfl) ?_
        obtain ⟨q7, e8, hf⟩ := bind_some hf
        refine aftI hS (cSN (rest := []) X hP hS [.int (q3.2.1 13 b0 x5.toNatClampNeg), .int x1] (m_X7_hasBit  e8) cw_X7_hasBit tw_198 tw_435 (fits9 (by first | decide | omega) (by decide)) rfl rfl hl.1 (Nat.le_of_ble_eq_true rfl) dX0_factsFor_51 ⟨Nat.zero_le _, Nat.zero_le _⟩) (fun H locs hP hS => ?_)
        refine lv_if_ne (tgt := 60) hx hb dX0_factsFor_54 (by decide) (fun c9 => ?_) (fun c9 => ?_)
        · rw [if_neg c9] at hf
          refine lv_aload hx hb dX0_factsFor_60 (lv_at hl 0 rfl) ?_
          refine gN_Page_day X hP hb_0_0 (ixb_lt g2) tw_17 dX0_factsFor_62 ?_
          refine lv_iload hx hb dX0_factsFor_65 (lv_at hl 5 rfl) ?_
          refine lv_icmp_ge (tgt := 73) hx hb dX0_factsFor_67 (by decide) (fun c10 => ?_) (fun c10 => ?_)
          · rw [if_pos c10] at hf
            refine lv_aload hx hb dX0_factsFor_73 (lv_at hl 0 rfl) ?_
            refine gN_Page_day X hP hb_0_0 (ixb_lt g2) tw_17 dX0_factsFor_75 ?_
            refine lv_istore (lv' := [(4, .int (q7.2.1 15 b0 x5.toNatClampNeg)), (6, .ref (ad (49 + 6 * b0 + x5.toNatClampNeg))), (0, .ref (ad (34 + b0))), (1, .int x1), (2, .int x2), (3, .int x3), (5, .int x5)]) hx hb dX0_factsFor_78 hl (by decide) rfl (fun ls hl => ?_)
            refine lv_iconst (v := (1 : Int32)) hx hb dX0_factsFor_80 (by decide) ?_
            refine lv_aload hx hb dX0_factsFor_81 (lv_at hl 1 rfl) ?_
            refine gN_Page_fact X hP hb_0_0 (ixb_lt g2) tw_14 dX0_factsFor_83 ?_
            refine lv_ishl hx hb dX0_factsFor_86 ?_
            refine lv_istore_n (lv' := [(3, .int ((1 : Int32) <<< ((q7.2.1 14 b0 x5.toNatClampNeg) &&& 31))), (4, .int (q7.2.1 15 b0 x5.toNatClampNeg)), (6, .ref (ad (49 + 6 * b0 + x5.toNatClampNeg))), (0, .ref (ad (34 + b0))), (1, .int x1), (2, .int x2), (5, .int x5)]) hx hb dX0_factsFor_87 rfl hl (by decide) rfl (fun ls hl => ?_)
            refine lv_iinc (v := (x5 + (1 : Int32))) (lv' := [(5, .int (x5 + (1 : Int32))), (3, .int ((1 : Int32) <<< ((q7.2.1 14 b0 x5.toNatClampNeg) &&& 31))), (4, .int (q7.2.1 15 b0 x5.toNatClampNeg)), (6, .ref (ad (49 + 6 * b0 + x5.toNatClampNeg))), (0, .ref (ad (34 + b0))), (1, .int x1), (2, .int x2)]) hx hb dX0_factsFor_88 hl (k := 6) rfl rfl (by decide) rfl (fun ls hl => ?_)
            refine lv_goto (tgt := 9) hx hb dX0_factsFor_91 (by decide) ?_
            exact hkb _ _ _ _ _ _ _ _ _ ls hf hb_0_0 hP hS (lv_sub hl [4, 5, 6, 1, 2, 0] rfl)
          · rw [if_neg c10] at hf
            refine lv_goto (tgt := 88) hx hb dX0_factsFor_70 (by decide) ?_
            refine lv_iinc (v := (x5 + (1 : Int32))) (lv' := [(5, .int (x5 + (1 : Int32))), (6, .ref (ad (49 + 6 * b0 + x5.toNatClampNeg))), (0, .ref (ad (34 + b0))), (1, .int x1), (2, .int x2), (3, .int x3), (4, .int x4)]) hx hb dX0_factsFor_88 hl (k := 6) rfl rfl (by decide) rfl (fun ls hl => ?_)
            refine lv_goto (tgt := 9) hx hb dX0_factsFor_91 (by decide) ?_
            exact hkb _ _ _ _ _ _ _ _ _ ls hf hb_0_0 hP hS (lv_sub hl [2, 3, 4, 5, 6, 0] rfl)
        · rw [if_pos c9] at hf
          refine lv_goto (tgt := 88) hx hb dX0_factsFor_57 (by decide) ?_
          refine lv_iinc (v := (x5 + (1 : Int32))) (lv' := [(5, .int (x5 + (1 : Int32))), (6, .ref (ad (49 + 6 * b0 + x5.toNatClampNeg))), (0, .ref (ad (34 + b0))), (1, .int x1), (2, .int x2), (3, .int x3), (4, .int x4)]) hx hb dX0_factsFor_88 hl (k := 6) rfl rfl (by decide) rfl (fun ls hl => ?_)
          refine lv_goto (tgt := 9) hx hb dX0_factsFor_91 (by decide) ?_
          exact hkb _ _ _ _ _ _ _ _ _ ls hf hb_0_0 hP hS (lv_sub hl [2, 3, 4, 5, 6, 0] rfl)
set_option maxHeartbeats 4000000 in
set_option maxRecDepth 100000 in
theorem vl_X0_factsFor_9 (X : Cx D cI cP cB cA 79 ad tL tC p s m c cX0_factsFor 7 args RX0) (hr : meth.sig.returnType = (some .int)) (hlk : meth.locks = false) {res : Int32 × Stt} (ke : Int32 → Stt → Option (Int32 × Stt)) (hke : ∀ (x3 : Int32) (S : Stt) (H : Heap) (locs : List Loc) (ls : Array Slot), ke x3 S = some res → va_P D vwCl (wl 79 ad (cfC ad cI cP cB cA S)) H → va_S (Ar 79 ad) s.heap H locs → lv_has ls 7 [(3, .int x3)] → W p l e (rmD 2) s m args below meth c H locs 0 0 (MQ below (QI D 79 ad res.1 (cfC ad cI cP cB cA res.2)) args s 0 0 (Ar 79 ad)) (F0 m 94 ls [])) : ∀ (n : Nat), ∀ (b0 : Nat) (x1 : Int32) (x2 : Int32) (x3 : Int32) (x4 : Int32) (x5 : Int32) (S : Stt) (H : Heap) (locs : List Loc) (ls : Array Slot), fl_X0_factsFor_9 ke n b0 x1 x2 x3 x4 x5 S = some res → b0 < 5 → va_P D vwCl (wl 79 ad (cfC ad cI cP cB cA S)) H → va_S (Ar 79 ad) s.heap H locs → lv_has ls 7 [(0, .ref (ad (34 + b0))), (1, .int x1), (2, .int x2), (3, .int x3), (4, .int x4), (5, .int x5)] → W p l e (rmD 2) s m args below meth c H locs 0 0 (MQ below (QI D 79 ad res.1 (cfC ad cI cP cB cA res.2)) args s 0 0 (Ar 79 ad)) (F0 m 9 ls []) := by
  intro n
  induction n with
  | zero =>
    intro b0 x1 x2 x3 x4 x5 S H locs ls hf hb_0_0 hP hS hl
    cases hf
  | succ n ih =>
    intro b0 x1 x2 x3 x4 x5 S H locs ls hf hb_0_0 hP hS hl
    exact vb_X0_factsFor_9 X hr hlk _ ke ih hke b0 x1 x2 x3 x4 x5 S H locs ls hf hb_0_0 hP hS hl
end
set_option maxHeartbeats 4000000 in
set_option maxRecDepth 100000 in
theorem m_X0_factsFor {l : Launch} {D : va_G} {cI cP cB cA : ClassId} {ad : Nat → Nat} {tL tC : Nat} {b0 : Nat} {x1 : Int32} {x2 : Int32} (hb_0_0 : b0 < 5) {S : Stt} {res : Int32 × Stt} (hf : f_X0_factsFor b0 x1 x2 S = some res) : Ct l D cI cP cB cA 79 ad tL tC yX0_factsFor cX0_factsFor 7 (some .int) 2 [.ref (ad (34 + b0)), .int x1, .int x2] (cfC ad cI cP cB cA S) (QI D 79 ad res.1 (cfC ad cI cP cB cA res.2)) := by
  refine ctOf (by decide) (Nat.le_of_ble_eq_true rfl) ?_
  intro p e s m args below meth c ls X hr hlk hP hl
  have hS : va_S (Ar 79 ad) s.heap s.heap [] := va_S.rf
  have hx := X.1.1
  have hb := X.1.2.1
  have hl : lv_has ls 7 [(0, .ref (ad (34 + b0))), (1, .int x1), (2, .int x2)] := hl
  unfold f_X0_factsFor at hf
  refine lv_bipush (v := (31 : Int32)) hx hb dX0_factsFor_0 (by decide) ?_
  refine lv_istore_n (lv' := [(3, .int (31 : Int32)), (0, .ref (ad (34 + b0))), (1, .int x1), (2, .int x2)]) hx hb dX0_factsFor_2 rfl hl (by decide) rfl (fun ls hl => ?_)
  refine lv_iconst (v := (-1 : Int32)) hx hb dX0_factsFor_3 (by decide) ?_
  refine lv_istore (lv' := [(4, .int (-1 : Int32)), (3, .int (31 : Int32)), (0, .ref (ad (34 + b0))), (1, .int x1), (2, .int x2)]) hx hb dX0_factsFor_4 hl (by decide) rfl (fun ls hl => ?_)
  refine lv_iconst (v := (0 : Int32)) hx hb dX0_factsFor_6 (by decide) ?_
  refine lv_istore (lv' := [(5, .int (0 : Int32)), (4, .int (-1 : Int32)), (3, .int (31 : Int32)), (0, .ref (ad (34 + b0))), (1, .int x1), (2, .int x2)]) hx hb dX0_factsFor_7 hl (by decide) rfl (fun ls hl => ?_)
  refine vl_X0_factsFor_9 X hr hlk _ ?_ 300 _ _ _ _ _ _ _ _ _ ls hf hb_0_0 hP hS (lv_sub hl [3, 4, 5, 2, 1, 0] rfl)
  intro x3 S H locs ls hf hP hS hl
  refine lv_iload_n hx hb dX0_factsFor_94 rfl (lv_at hl 0 rfl) ?_
  cases hf
  exact rtI X hr hlk hP hS dX0_factsFor_95
/-! X0_holds -/
section
variable {p : Program} {l : Launch} {e : Env} {s : State} {m : MethodId} {args : Array Value} {below : List Frame} {meth : Method} {c : Code}
variable {D : va_G} {cI cP cB cA : ClassId} {ad : Nat → Nat} {tL tC : Nat}
set_option maxHeartbeats 4000000 in
set_option maxRecDepth 100000 in
theorem vj_X0_holds_50_5 (X : Cx D cI cP cB cA 79 ad tL tC p s m c cX0_holds 6 args RX0) (hr : meth.sig.returnType = (some .boolean)) (hlk : meth.locks = false) {res : Int32 × Stt} (kb : Nat → Int32 → Int32 → Int32 → Stt → Option (Int32 × Stt)) (ke : Stt → Option (Int32 × Stt)) (hkb : ∀ (b0 : Nat) (x2 : Int32) (x3 : Int32) (x4 : Int32) (S : Stt) (H : Heap) (locs : List Loc) (ls : Array Slot), kb b0 x2 x3 x4 S = some res → b0 < 5 → va_P D vwCl (wl 79 ad (cfC ad cI cP cB cA S)) H → va_S (Ar 79 ad) s.heap H locs → lv_has ls 6 [(0, .ref (ad (34 + b0))), (2, .int x2), (3, .int x3), (4, .int x4)] → W p l e (rmD 2) s m args below meth c H locs 0 0 (MQ below (QI D 79 ad res.1 (cfC ad cI cP cB cA res.2)) args s 0 0 (Ar 79 ad)) (F0 m 5 ls [])) (hke : ∀ (S : Stt) (H : Heap) (locs : List Loc) (ls : Array Slot), ke S = some res → va_P D vwCl (wl 79 ad (cfC ad cI cP cB cA S)) H → va_S (Ar 79 ad) s.heap H locs → lv_has ls 6 [] → W p l e (rmD 2) s m args below meth c H locs 0 0 (MQ below (QI D 79 ad res.1 (cfC ad cI cP cB cA res.2)) args s 0 0 (Ar 79 ad)) (F0 m 97 ls [])) : ∀ (b0 : Nat) (x2 : Int32) (x4 : Int32) (b5 : Nat) (i5 : Nat) (S : Stt) (H : Heap) (locs : List Loc) (ls : Array Slot), fj_X0_holds_50_5 kb ke b0 x2 x4 b5 i5 S = some res → b0 < 5 → b5 < 5 → i5 < 6 → va_P D vwCl (wl 79 ad (cfC ad cI cP cB cA S)) H → va_S (Ar 79 ad) s.heap H locs → lv_has ls 6 [(0, .ref (ad (34 + b0))), (2, .int x2), (4, .int x4), (5, .ref (ad (49 + 6 * b5 + i5)))] → W p l e (rmD 2) s m args below meth c H locs 0 0 (MQ below (QI D 79 ad res.1 (cfC ad cI cP cB cA res.2)) args s 0 0 (Ar 79 ad)) (F0 m 50 ls []) := by
  intro b0 x2 x4 b5 i5 S H locs ls hf hb_0_0 hb_5_0 hb_5_1 hP hS hl
  have hx := X.1.1
  have hb := X.1.2.1
  unfold fj_X0_holds_50_5 at hf
  refine lv_aload hx hb dX0_holds_50 (lv_at hl 3 rfl) ?_
  refine lv_iconst (v := (2 : Int32)) hx hb dX0_holds_52 (by decide) ?_
  obtain ⟨q7, e8, hf⟩ := bind_some hf
  refine aftI hS (cV (rest := []) X hP hS [.int (2 : Int32)] (m_X3_isOf hb_5_0 hb_5_1 e8) cw_X3_isOf tw_176 tw_442 tw_678 (pg_lt hb_5_0 hb_5_1) (cf_Page hb_5_0 hb_5_1) rfl (fits9 (by first | decide | omega) (by decide)) rfl rfl hl.1 (Nat.le_of_ble_eq_true rfl) dX0_holds_53 ⟨Nat.zero_le _, Nat.zero_le _⟩) (fun H locs hP hS => ?_)
  refine lv_if_ne (tgt := 85) hx hb dX0_holds_56 (by decide) (fun c9 => ?_) (fun c9 => ?_)
  · rw [if_neg c9] at hf
    refine lv_aload hx hb dX0_holds_85 (lv_at hl 3 rfl) ?_
    refine gN_Page_points X hP hb_5_0 hb_5_1 tw_6 dX0_holds_87 ?_
    refine lv_istore_n (lv' := [(3, .int (q7.2.1 11 b5 i5)), (0, .ref (ad (34 + b0))), (2, .int x2), (4, .int x4), (5, .ref (ad (49 + 6 * b5 + i5)))]) hx hb dX0_holds_90 rfl hl (by decide) rfl (fun ls hl => ?_)
    refine lv_iinc (v := (x4 + (1 : Int32))) (lv' := [(4, .int (x4 + (1 : Int32))), (3, .int (q7.2.1 11 b5 i5)), (0, .ref (ad (34 + b0))), (2, .int x2), (5, .ref (ad (49 + 6 * b5 + i5)))]) hx hb dX0_holds_91 hl (k := 3) rfl rfl (by decide) rfl (fun ls hl => ?_)
    refine lv_goto (tgt := 5) hx hb dX0_holds_94 (by decide) ?_
    exact hkb _ _ _ _ _ _ _ ls hf hb_0_0 hP hS (lv_sub hl [2, 3, 1, 0] rfl)
  · rw [if_pos c9] at hf
    refine lv_aload hx hb dX0_holds_59 (lv_at hl 3 rfl) ?_
    refine gN_Page_kind X hP hb_5_0 hb_5_1 tw_3 dX0_holds_61 ?_
    refine lv_iconst (v := (4 : Int32)) hx hb dX0_holds_64 (by decide) ?_
    refine lv_icmp_ne (tgt := 79) hx hb dX0_holds_65 (by decide) (fun c10 => ?_) (fun c10 => ?_)
    · rw [if_neg c10] at hf
      refine lv_iconst (v := (1 : Int32)) hx hb dX0_holds_79 (by decide) ?_
      refine lv_goto (tgt := 84) hx hb dX0_holds_80 (by decide) ?_
      cases hf
      exact rtZ X hr hlk hP hS (Or.inr rfl) dX0_holds_84
    · rw [if_pos c10] at hf
      refine lv_iload_n hx hb dX0_holds_68 rfl (lv_at hl 1 rfl) ?_
      refine lv_aload hx hb dX0_holds_69 (lv_at hl 3 rfl) ?_
      refine gN_Page_day X hP hb_5_0 hb_5_1 tw_17 dX0_holds_71 ?_
      refine lv_iconst (v := (2 : Int32)) hx hb dX0_holds_74 (by decide) ?_
      refine lv_iadd hx hb dX0_holds_75 ?_
      refine lv_icmp_gt (tgt := 83) hx hb dX0_holds_76 (by decide) (fun c11 => ?_) (fun c11 => ?_)
      · rw [if_pos c11] at hf
        refine lv_iconst (v := (0 : Int32)) hx hb dX0_holds_83 (by decide) ?_
        cases hf
        exact rtZ X hr hlk hP hS (Or.inl rfl) dX0_holds_84
      · rw [if_neg c11] at hf
        refine lv_iconst (v := (1 : Int32)) hx hb dX0_holds_79 (by decide) ?_
        refine lv_goto (tgt := 84) hx hb dX0_holds_80 (by decide) ?_
        cases hf
        exact rtZ X hr hlk hP hS (Or.inr rfl) dX0_holds_84
set_option maxHeartbeats 4000000 in
set_option maxRecDepth 100000 in
theorem vb_X0_holds_5 (X : Cx D cI cP cB cA 79 ad tL tC p s m c cX0_holds 6 args RX0) (hr : meth.sig.returnType = (some .boolean)) (hlk : meth.locks = false) {res : Int32 × Stt} (kb : Nat → Int32 → Int32 → Int32 → Stt → Option (Int32 × Stt)) (ke : Stt → Option (Int32 × Stt)) (hkb : ∀ (b0 : Nat) (x2 : Int32) (x3 : Int32) (x4 : Int32) (S : Stt) (H : Heap) (locs : List Loc) (ls : Array Slot), kb b0 x2 x3 x4 S = some res → b0 < 5 → va_P D vwCl (wl 79 ad (cfC ad cI cP cB cA S)) H → va_S (Ar 79 ad) s.heap H locs → lv_has ls 6 [(0, .ref (ad (34 + b0))), (2, .int x2), (3, .int x3), (4, .int x4)] → W p l e (rmD 2) s m args below meth c H locs 0 0 (MQ below (QI D 79 ad res.1 (cfC ad cI cP cB cA res.2)) args s 0 0 (Ar 79 ad)) (F0 m 5 ls [])) (hke : ∀ (S : Stt) (H : Heap) (locs : List Loc) (ls : Array Slot), ke S = some res → va_P D vwCl (wl 79 ad (cfC ad cI cP cB cA S)) H → va_S (Ar 79 ad) s.heap H locs → lv_has ls 6 [] → W p l e (rmD 2) s m args below meth c H locs 0 0 (MQ below (QI D 79 ad res.1 (cfC ad cI cP cB cA res.2)) args s 0 0 (Ar 79 ad)) (F0 m 97 ls [])) : ∀ (b0 : Nat) (x2 : Int32) (x3 : Int32) (x4 : Int32) (S : Stt) (H : Heap) (locs : List Loc) (ls : Array Slot), fb_X0_holds_5 kb ke b0 x2 x3 x4 S = some res → b0 < 5 → va_P D vwCl (wl 79 ad (cfC ad cI cP cB cA S)) H → va_S (Ar 79 ad) s.heap H locs → lv_has ls 6 [(0, .ref (ad (34 + b0))), (2, .int x2), (3, .int x3), (4, .int x4)] → W p l e (rmD 2) s m args below meth c H locs 0 0 (MQ below (QI D 79 ad res.1 (cfC ad cI cP cB cA res.2)) args s 0 0 (Ar 79 ad)) (F0 m 5 ls []) := by
  intro b0 x2 x3 x4 S H locs ls hf hb_0_0 hP hS hl
  have hx := X.1.1
  have hb := X.1.2.1
  unfold fb_X0_holds_5 at hf
  refine lv_iload hx hb dX0_holds_5 (lv_at hl 3 rfl) ?_
  refine lv_aload_n hx hb dX0_holds_7 rfl (lv_at hl 0 rfl) ?_
  refine g_Book_count X hP hb_0_0 tw_24 dX0_holds_8 ?_
  refine lv_icmp_ge (tgt := 97) hx hb dX0_holds_11 (by decide) (fun c1 => ?_) (fun c1 => ?_)
  · rw [if_pos c1] at hf
    exact hke  _ _ _ ls hf  hP hS (lv_sub hl [] rfl)
  · rw [if_neg c1] at hf
    refine lv_aload_n hx hb dX0_holds_14 rfl (lv_at hl 0 rfl) ?_
    refine lv_iload_n hx hb dX0_holds_15 rfl (lv_at hl 2 rfl) ?_
    obtain ⟨q2, e3, hf⟩ := bind_some hf
    refine aftI hS (cV (rest := []) X hP hS [.int x3] (m_X0_isOne hb_0_0 e3) cw_X0_isOne tw_171 tw_450 tw_644 (bk_lt hb_0_0) (cf_Book hb_0_0) rfl (fits9 (by first | decide | omega) (by decide)) rfl rfl hl.1 (Nat.le_of_ble_eq_true rfl) dX0_holds_16 ⟨Nat.zero_le _, Nat.zero_le _⟩) (fun H locs hP hS => ?_)
    refine lv_if_eq (tgt := 97) hx hb dX0_holds_19 (by decide) (fun c4 => ?_) (fun c4 => ?_)
    · rw [if_pos c4] at hf
      exact hke  _ _ _ ls hf  hP hS (lv_sub hl [] rfl)
    · rw [if_neg c4] at hf
      refine lv_aload_n hx hb dX0_holds_22 rfl (lv_at hl 0 rfl) ?_
      refine g_Book_pages X hP hb_0_0 tw_20 dX0_holds_23 ?_
      refine lv_iload_n hx hb dX0_holds_26 rfl (lv_at hl 2 rfl) ?_
      obtain ⟨g5, hf⟩ := grd_some hf
      refine q_pages X hP hb_0_0 g5 dX0_holds_27 ?_
      refine lv_astore (lv' := [(5, .ref (ad (49 + 6 * b0 + x3.toNatClampNeg))), (0, .ref (ad (34 + b0))), (2, .int x2), (3, .int x3), (4, .int x4)]) hx hb dX0_holds_28 hl (by decide) rfl (fun ls hl => ?_)
      refine lv_aload hx hb dX0_holds_30 (lv_at hl 0 rfl) ?_
      refine gN_Page_kind X hP hb_0_0 (ixb_lt g5) tw_3 dX0_holds_32 ?_
      refine lv_iconst (v := (5 : Int32)) hx hb dX0_holds_35 (by decide) ?_
      refine lv_icmp_eq (tgt := 50) hx hb dX0_holds_36 (by decide) (fun c6 => ?_) (fun c6 => ?_)
      · rw [if_pos c6] at hf
        exact vj_X0_holds_50_5 X hr hlk _ _ hkb hke _ _ _ _ _ _ _ _ ls hf hb_0_0 hb_0_0 (ixb_lt g5) hP hS (lv_sub hl [1, 2, 4, 0] rfl)
      · rw [if_neg c6] at hf
        refine lv_iload_n hx hb dX0_holds_39 rfl (lv_at hl 2 rfl) ?_
        refine lv_aload hx hb dX0_holds_40 (lv_at hl 0 rfl) ?_
        refine gN_Page_day X hP hb_0_0 (ixb_lt g5) tw_17 dX0_holds_42 ?_
        refine lv_icmp_ge (tgt := 50) hx hb dX0_holds_45 (by decide) (fun c12 => ?_) (fun c12 => ?_)
        · rw [if_pos c12] at hf
          exact vj_X0_holds_50_5 X hr hlk _ _ hkb hke _ _ _ _ _ _ _ _ ls hf hb_0_0 hb_0_0 (ixb_lt g5) hP hS (lv_sub hl [1, 2, 4, 0] rfl)
        · rw [if_neg c12] at hf
          refine lv_iconst (v := (0 : Int32)) hx hb dX0_holds_48 (by decide) ?_
          cases hf
          exact rtZ X hr hlk hP hS (Or.inl rfl) dX0_holds_49
set_option maxHeartbeats 4000000 in
set_option maxRecDepth 100000 in
theorem vl_X0_holds_5 (X : Cx D cI cP cB cA 79 ad tL tC p s m c cX0_holds 6 args RX0) (hr : meth.sig.returnType = (some .boolean)) (hlk : meth.locks = false) {res : Int32 × Stt} (ke : Stt → Option (Int32 × Stt)) (hke : ∀ (S : Stt) (H : Heap) (locs : List Loc) (ls : Array Slot), ke S = some res → va_P D vwCl (wl 79 ad (cfC ad cI cP cB cA S)) H → va_S (Ar 79 ad) s.heap H locs → lv_has ls 6 [] → W p l e (rmD 2) s m args below meth c H locs 0 0 (MQ below (QI D 79 ad res.1 (cfC ad cI cP cB cA res.2)) args s 0 0 (Ar 79 ad)) (F0 m 97 ls [])) : ∀ (n : Nat), ∀ (b0 : Nat) (x2 : Int32) (x3 : Int32) (x4 : Int32) (S : Stt) (H : Heap) (locs : List Loc) (ls : Array Slot), fl_X0_holds_5 ke n b0 x2 x3 x4 S = some res → b0 < 5 → va_P D vwCl (wl 79 ad (cfC ad cI cP cB cA S)) H → va_S (Ar 79 ad) s.heap H locs → lv_has ls 6 [(0, .ref (ad (34 + b0))), (2, .int x2), (3, .int x3), (4, .int x4)] → W p l e (rmD 2) s m args below meth c H locs 0 0 (MQ below (QI D 79 ad res.1 (cfC ad cI cP cB cA res.2)) args s 0 0 (Ar 79 ad)) (F0 m 5 ls []) := by
  intro n
  induction n with
  | zero =>
    intro b0 x2 x3 x4 S H locs ls hf hb_0_0 hP hS hl
    cases hf
  | succ n ih =>
    intro b0 x2 x3 x4 S H locs ls hf hb_0_0 hP hS hl
    exact vb_X0_holds_5 X hr hlk _ ke ih hke b0 x2 x3 x4 S H locs ls hf hb_0_0 hP hS hl
end
set_option maxHeartbeats 4000000 in
set_option maxRecDepth 100000 in
theorem m_X0_holds {l : Launch} {D : va_G} {cI cP cB cA : ClassId} {ad : Nat → Nat} {tL tC : Nat} {b0 : Nat} {x1 : Int32} {x2 : Int32} (hb_0_0 : b0 < 5) {S : Stt} {res : Int32 × Stt} (hf : f_X0_holds b0 x1 x2 S = some res) : Ct l D cI cP cB cA 79 ad tL tC yX0_holds cX0_holds 6 (some .boolean) 2 [.ref (ad (34 + b0)), .int x1, .int x2] (cfC ad cI cP cB cA S) (QI D 79 ad res.1 (cfC ad cI cP cB cA res.2)) := by
  refine ctOf (by decide) (Nat.le_of_ble_eq_true rfl) ?_
  intro p e s m args below meth c ls X hr hlk hP hl
  have hS : va_S (Ar 79 ad) s.heap s.heap [] := va_S.rf
  have hx := X.1.1
  have hb := X.1.2.1
  have hl : lv_has ls 6 [(0, .ref (ad (34 + b0))), (1, .int x1), (2, .int x2)] := hl
  unfold f_X0_holds at hf
  refine lv_iload_n hx hb dX0_holds_0 rfl (lv_at hl 1 rfl) ?_
  refine lv_istore_n (lv' := [(3, .int x1), (0, .ref (ad (34 + b0))), (1, .int x1), (2, .int x2)]) hx hb dX0_holds_1 rfl hl (by decide) rfl (fun ls hl => ?_)
  refine lv_iconst (v := (0 : Int32)) hx hb dX0_holds_2 (by decide) ?_
  refine lv_istore (lv' := [(4, .int (0 : Int32)), (3, .int x1), (0, .ref (ad (34 + b0))), (1, .int x1), (2, .int x2)]) hx hb dX0_holds_3 hl (by decide) rfl (fun ls hl => ?_)
  refine vl_X0_holds_5 X hr hlk _ ?_ 300 _ _ _ _ _ _ _ ls hf hb_0_0 hP hS (lv_sub hl [2, 4, 1, 0] rfl)
  intro S H locs ls hf hP hS hl
  refine lv_iconst (v := (0 : Int32)) hx hb dX0_holds_97 (by decide) ?_
  cases hf
  exact rtZ X hr hlk hP hS (Or.inl rfl) dX0_holds_98
/-! X0_isInRing -/
section
variable {p : Program} {l : Launch} {e : Env} {s : State} {m : MethodId} {args : Array Value} {below : List Frame} {meth : Method} {c : Code}
variable {D : va_G} {cI cP cB cA : ClassId} {ad : Nat → Nat} {tL tC : Nat}
set_option maxHeartbeats 4000000 in
set_option maxRecDepth 100000 in
theorem vb_X0_isInRing_4 (X : Cx D cI cP cB cA 79 ad tL tC p s m c cX0_isInRing 4 args RX0) (hr : meth.sig.returnType = (some .boolean)) (hlk : meth.locks = false) {res : Int32 × Stt} (kb : Nat → Int32 → Int32 → Int32 → Stt → Option (Int32 × Stt)) (ke : Stt → Option (Int32 × Stt)) (hkb : ∀ (b0 : Nat) (x1 : Int32) (x2 : Int32) (x3 : Int32) (S : Stt) (H : Heap) (locs : List Loc) (ls : Array Slot), kb b0 x1 x2 x3 S = some res → b0 < 5 → va_P D vwCl (wl 79 ad (cfC ad cI cP cB cA S)) H → va_S (Ar 79 ad) s.heap H locs → lv_has ls 4 [(0, .ref (ad (34 + b0))), (1, .int x1), (2, .int x2), (3, .int x3)] → W p l e (rmD 2) s m args below meth c H locs 0 0 (MQ below (QI D 79 ad res.1 (cfC ad cI cP cB cA res.2)) args s 0 0 (Ar 79 ad)) (F0 m 4 ls [])) (hke : ∀ (S : Stt) (H : Heap) (locs : List Loc) (ls : Array Slot), ke S = some res → va_P D vwCl (wl 79 ad (cfC ad cI cP cB cA S)) H → va_S (Ar 79 ad) s.heap H locs → lv_has ls 4 [] → W p l e (rmD 2) s m args below meth c H locs 0 0 (MQ below (QI D 79 ad res.1 (cfC ad cI cP cB cA res.2)) args s 0 0 (Ar 79 ad)) (F0 m 58 ls [])) : ∀ (b0 : Nat) (x1 : Int32) (x2 : Int32) (x3 : Int32) (S : Stt) (H : Heap) (locs : List Loc) (ls : Array Slot), fb_X0_isInRing_4 kb ke b0 x1 x2 x3 S = some res → b0 < 5 → va_P D vwCl (wl 79 ad (cfC ad cI cP cB cA S)) H → va_S (Ar 79 ad) s.heap H locs → lv_has ls 4 [(0, .ref (ad (34 + b0))), (1, .int x1), (2, .int x2), (3, .int x3)] → W p l e (rmD 2) s m args below meth c H locs 0 0 (MQ below (QI D 79 ad res.1 (cfC ad cI cP cB cA res.2)) args s 0 0 (Ar 79 ad)) (F0 m 4 ls []) := by
  intro b0 x1 x2 x3 S H locs ls hf hb_0_0 hP hS hl
  have hx := X.1.1
  have hb := X.1.2.1
  unfold fb_X0_isInRing_4 at hf
  refine lv_iload_n hx hb dX0_isInRing_4 rfl (lv_at hl 3 rfl) ?_
  refine lv_aload_n hx hb dX0_isInRing_5 rfl (lv_at hl 0 rfl) ?_
  refine g_Book_count X hP hb_0_0 tw_24 dX0_isInRing_6 ?_
  refine lv_icmp_ge (tgt := 58) hx hb dX0_isInRing_9 (by decide) (fun c1 => ?_) (fun c1 => ?_)
  · rw [if_pos c1] at hf
    exact hke  _ _ _ ls hf  hP hS (lv_sub hl [] rfl)
  · rw [if_neg c1] at hf
    refine lv_aload_n hx hb dX0_isInRing_12 rfl (lv_at hl 0 rfl) ?_
    refine lv_iload_n hx hb dX0_isInRing_13 rfl (lv_at hl 2 rfl) ?_
    obtain ⟨q2, e3, hf⟩ := bind_some hf
    refine aftI hS (cV (rest := []) X hP hS [.int x2] (m_X0_isOne hb_0_0 e3) cw_X0_isOne tw_171 tw_450 tw_644 (bk_lt hb_0_0) (cf_Book hb_0_0) rfl (fits9 (by first | decide | omega) (by decide)) rfl rfl hl.1 (Nat.le_of_ble_eq_true rfl) dX0_isInRing_14 ⟨Nat.zero_le _, Nat.zero_le _⟩) (fun H locs hP hS => ?_)
    refine lv_if_eq (tgt := 58) hx hb dX0_isInRing_17 (by decide) (fun c4 => ?_) (fun c4 => ?_)
    · rw [if_pos c4] at hf
      exact hke  _ _ _ ls hf  hP hS (lv_sub hl [] rfl)
    · rw [if_neg c4] at hf
      refine lv_aload_n hx hb dX0_isInRing_20 rfl (lv_at hl 0 rfl) ?_
      refine g_Book_pages X hP hb_0_0 tw_20 dX0_isInRing_21 ?_
      refine lv_iload_n hx hb dX0_isInRing_24 rfl (lv_at hl 2 rfl) ?_
      obtain ⟨g5, hf⟩ := grd_some hf
      refine q_pages X hP hb_0_0 g5 dX0_isInRing_25 ?_
      refine lv_iconst (v := (2 : Int32)) hx hb dX0_isInRing_26 (by decide) ?_
      obtain ⟨q6, e7, hf⟩ := bind_some hf
      refine aftI hS (cV (rest := []) X hP hS [.int (2 : Int32)] (m_X3_isOf hb_0_0 (ixb_lt g5) e7) cw_X3_isOf tw_176 tw_442 tw_678 (pg_lt hb_0_0 (ixb_lt g5)) (cf_Page hb_0_0 (ixb_lt g5)) rfl (fits9 (by first | decide | omega) (by decide)) rfl rfl hl.1 (Nat.le_of_ble_eq_true rfl) dX0_isInRing_27 ⟨Nat.zero_le _, Nat.zero_le _⟩) (fun H locs hP hS => ?_)
      refine lv_if_ne (tgt := 35) hx hb dX0_isInRing_30 (by decide) (fun c8 => ?_) (fun c8 => ?_)
      · rw [if_neg c8] at hf
        refine lv_aload_n hx hb dX0_isInRing_35 rfl (lv_at hl 0 rfl) ?_
        refine g_Book_pages X hP hb_0_0 tw_20 dX0_isInRing_36 ?_
        refine lv_iload_n hx hb dX0_isInRing_39 rfl (lv_at hl 2 rfl) ?_
        obtain ⟨g9, hf⟩ := grd_some hf
        refine q_pages X hP hb_0_0 g9 dX0_isInRing_40 ?_
        refine gN_Page_points X hP hb_0_0 (ixb_lt g9) tw_6 dX0_isInRing_41 ?_
        refine lv_istore_n (lv' := [(2, .int (q6.2.1 11 b0 x2.toNatClampNeg)), (0, .ref (ad (34 + b0))), (1, .int x1), (3, .int x3)]) hx hb dX0_isInRing_44 rfl hl (by decide) rfl (fun ls hl => ?_)
        refine lv_iload_n hx hb dX0_isInRing_45 rfl (lv_at hl 0 rfl) ?_
        refine lv_iload_n hx hb dX0_isInRing_46 rfl (lv_at hl 2 rfl) ?_
        refine lv_icmp_ne (tgt := 52) hx hb dX0_isInRing_47 (by decide) (fun c10 => ?_) (fun c10 => ?_)
        · rw [if_neg c10] at hf
          refine lv_iinc (v := (x3 + (1 : Int32))) (lv' := [(3, .int (x3 + (1 : Int32))), (2, .int (q6.2.1 11 b0 x2.toNatClampNeg)), (0, .ref (ad (34 + b0))), (1, .int x1)]) hx hb dX0_isInRing_52 hl (k := 3) rfl rfl (by decide) rfl (fun ls hl => ?_)
          refine lv_goto (tgt := 4) hx hb dX0_isInRing_55 (by decide) ?_
          exact hkb _ _ _ _ _ _ _ ls hf hb_0_0 hP hS (lv_sub hl [2, 3, 1, 0] rfl)
        · rw [if_pos c10] at hf
          refine lv_iconst (v := (1 : Int32)) hx hb dX0_isInRing_50 (by decide) ?_
          cases hf
          exact rtZ X hr hlk hP hS (Or.inr rfl) dX0_isInRing_51
      · rw [if_pos c8] at hf
        refine lv_iconst (v := (0 : Int32)) hx hb dX0_isInRing_33 (by decide) ?_
        cases hf
        exact rtZ X hr hlk hP hS (Or.inl rfl) dX0_isInRing_34
set_option maxHeartbeats 4000000 in
set_option maxRecDepth 100000 in
theorem vl_X0_isInRing_4 (X : Cx D cI cP cB cA 79 ad tL tC p s m c cX0_isInRing 4 args RX0) (hr : meth.sig.returnType = (some .boolean)) (hlk : meth.locks = false) {res : Int32 × Stt} (ke : Stt → Option (Int32 × Stt)) (hke : ∀ (S : Stt) (H : Heap) (locs : List Loc) (ls : Array Slot), ke S = some res → va_P D vwCl (wl 79 ad (cfC ad cI cP cB cA S)) H → va_S (Ar 79 ad) s.heap H locs → lv_has ls 4 [] → W p l e (rmD 2) s m args below meth c H locs 0 0 (MQ below (QI D 79 ad res.1 (cfC ad cI cP cB cA res.2)) args s 0 0 (Ar 79 ad)) (F0 m 58 ls [])) : ∀ (n : Nat), ∀ (b0 : Nat) (x1 : Int32) (x2 : Int32) (x3 : Int32) (S : Stt) (H : Heap) (locs : List Loc) (ls : Array Slot), fl_X0_isInRing_4 ke n b0 x1 x2 x3 S = some res → b0 < 5 → va_P D vwCl (wl 79 ad (cfC ad cI cP cB cA S)) H → va_S (Ar 79 ad) s.heap H locs → lv_has ls 4 [(0, .ref (ad (34 + b0))), (1, .int x1), (2, .int x2), (3, .int x3)] → W p l e (rmD 2) s m args below meth c H locs 0 0 (MQ below (QI D 79 ad res.1 (cfC ad cI cP cB cA res.2)) args s 0 0 (Ar 79 ad)) (F0 m 4 ls []) := by
  intro n
  induction n with
  | zero =>
    intro b0 x1 x2 x3 S H locs ls hf hb_0_0 hP hS hl
    cases hf
  | succ n ih =>
    intro b0 x1 x2 x3 S H locs ls hf hb_0_0 hP hS hl
    exact vb_X0_isInRing_4 X hr hlk _ ke ih hke b0 x1 x2 x3 S H locs ls hf hb_0_0 hP hS hl
end
set_option maxHeartbeats 4000000 in
set_option maxRecDepth 100000 in
theorem m_X0_isInRing {l : Launch} {D : va_G} {cI cP cB cA : ClassId} {ad : Nat → Nat} {tL tC : Nat} {b0 : Nat} {x1 : Int32} (hb_0_0 : b0 < 5) {S : Stt} {res : Int32 × Stt} (hf : f_X0_isInRing b0 x1 S = some res) : Ct l D cI cP cB cA 79 ad tL tC yX0_isInRing cX0_isInRing 4 (some .boolean) 2 [.ref (ad (34 + b0)), .int x1] (cfC ad cI cP cB cA S) (QI D 79 ad res.1 (cfC ad cI cP cB cA res.2)) := by
  refine ctOf (by decide) (Nat.le_of_ble_eq_true rfl) ?_
  intro p e s m args below meth c ls X hr hlk hP hl
  have hS : va_S (Ar 79 ad) s.heap s.heap [] := va_S.rf
  have hx := X.1.1
  have hb := X.1.2.1
  have hl : lv_has ls 4 [(0, .ref (ad (34 + b0))), (1, .int x1)] := hl
  unfold f_X0_isInRing at hf
  refine lv_iload_n hx hb dX0_isInRing_0 rfl (lv_at hl 1 rfl) ?_
  refine lv_istore_n (lv' := [(2, .int x1), (0, .ref (ad (34 + b0))), (1, .int x1)]) hx hb dX0_isInRing_1 rfl hl (by decide) rfl (fun ls hl => ?_)
  refine lv_iconst (v := (0 : Int32)) hx hb dX0_isInRing_2 (by decide) ?_
  refine lv_istore_n (lv' := [(3, .int (0 : Int32)), (2, .int x1), (0, .ref (ad (34 + b0))), (1, .int x1)]) hx hb dX0_isInRing_3 rfl hl (by decide) rfl (fun ls hl => ?_)
  refine vl_X0_isInRing_4 X hr hlk _ ?_ 300 _ _ _ _ _ _ _ ls hf hb_0_0 hP hS (lv_sub hl [2, 3, 1, 0] rfl)
  intro S H locs ls hf hP hS hl
  refine lv_iconst (v := (0 : Int32)) hx hb dX0_isInRing_58 (by decide) ?_
  cases hf
  exact rtZ X hr hlk hP hS (Or.inl rfl) dX0_isInRing_59
/-! X0_tell -/
section
variable {p : Program} {l : Launch} {e : Env} {s : State} {m : MethodId} {args : Array Value} {below : List Frame} {meth : Method} {c : Code}
variable {D : va_G} {cI cP cB cA : ClassId} {ad : Nat → Nat} {tL tC : Nat}
end
set_option maxHeartbeats 4000000 in
set_option maxRecDepth 100000 in
theorem m_X0_tell {l : Launch} {D : va_G} {cI cP cB cA : ClassId} {ad : Nat → Nat} {tL tC : Nat} {b0 : Nat} {x1 : Int32} {x2 : Int32} (hb_0_0 : b0 < 5) {S : Stt} {res : Int32 × Stt} (hf : f_X0_tell b0 x1 x2 S = some res) : Ct l D cI cP cB cA 79 ad tL tC yX0_tell cX0_tell 4 (some .int) 2 [.ref (ad (34 + b0)), .int x1, .int x2] (cfC ad cI cP cB cA S) (QI D 79 ad res.1 (cfC ad cI cP cB cA res.2)) := by
  refine ctOf (by decide) (Nat.le_of_ble_eq_true rfl) ?_
  intro p e s m args below meth c ls X hr hlk hP hl
  have hS : va_S (Ar 79 ad) s.heap s.heap [] := va_S.rf
  have hx := X.1.1
  have hb := X.1.2.1
  have hl : lv_has ls 4 [(0, .ref (ad (34 + b0))), (1, .int x1), (2, .int x2)] := hl
  unfold f_X0_tell at hf
  refine lv_aload_n hx hb dX0_tell_0 rfl (lv_at hl 0 rfl) ?_
  refine lv_iload_n hx hb dX0_tell_1 rfl (lv_at hl 1 rfl) ?_
  obtain ⟨q1, e2, hf⟩ := bind_some hf
  refine aftI hS (cV (rest := []) X hP hS [.int x1] (m_X0_isOne hb_0_0 e2) cw_X0_isOne tw_171 tw_450 tw_644 (bk_lt hb_0_0) (cf_Book hb_0_0) rfl (fits9 (by first | decide | omega) (by decide)) rfl rfl hl.1 (Nat.le_of_ble_eq_true rfl) dX0_tell_2 ⟨Nat.zero_le _, Nat.zero_le _⟩) (fun H locs hP hS => ?_)
  refine lv_if_ne (tgt := 11) hx hb dX0_tell_5 (by decide) (fun c3 => ?_) (fun c3 => ?_)
  · rw [if_neg c3] at hf
    refine lv_aload_n hx hb dX0_tell_11 rfl (lv_at hl 0 rfl) ?_
    refine g_Book_pages X hP hb_0_0 tw_20 dX0_tell_12 ?_
    refine lv_iload_n hx hb dX0_tell_15 rfl (lv_at hl 1 rfl) ?_
    obtain ⟨g4, hf⟩ := grd_some hf
    refine q_pages X hP hb_0_0 g4 dX0_tell_16 ?_
    refine lv_astore_n (lv' := [(3, .ref (ad (49 + 6 * b0 + x1.toNatClampNeg))), (0, .ref (ad (34 + b0))), (1, .int x1), (2, .int x2)]) hx hb dX0_tell_17 rfl hl (by decide) rfl (fun ls hl => ?_)
    refine lv_iload_n hx hb dX0_tell_18 rfl (lv_at hl 3 rfl) ?_
    by_cases c5 : x2 = (0 : Int32)
    · rw [if_pos c5] at hf
      refine W.eq (g2 := F0 m 19 ls [.int (0 : Int32)]) (by rw [c5]) ?_
      refine lv_tableIn (x := (0 : Int32)) (off := 33) (tgt := 52) hx hb dX0_tell_19 (by decide) (by decide) rfl (by decide) ?_
      refine lv_aload_n hx hb dX0_tell_52 rfl (lv_at hl 0 rfl) ?_
      refine gN_Page_kind X hP hb_0_0 (ixb_lt g4) tw_3 dX0_tell_53 ?_
      cases hf
      exact rtI X hr hlk hP hS dX0_tell_56
    · rw [if_neg c5] at hf
      by_cases c6 : x2 = (1 : Int32)
      · rw [if_pos c6] at hf
        refine W.eq (g2 := F0 m 19 ls [.int (1 : Int32)]) (by rw [c6]) ?_
        refine lv_tableIn (x := (1 : Int32)) (off := 38) (tgt := 57) hx hb dX0_tell_19 (by decide) (by decide) rfl (by decide) ?_
        refine lv_aload_n hx hb dX0_tell_57 rfl (lv_at hl 0 rfl) ?_
        refine gN_Page_verdict X hP hb_0_0 (ixb_lt g4) tw_8 dX0_tell_58 ?_
        cases hf
        exact rtI X hr hlk hP hS dX0_tell_61
      · rw [if_neg c6] at hf
        by_cases c7 : x2 = (2 : Int32)
        · rw [if_pos c7] at hf
          refine W.eq (g2 := F0 m 19 ls [.int (2 : Int32)]) (by rw [c7]) ?_
          refine lv_tableIn (x := (2 : Int32)) (off := 43) (tgt := 62) hx hb dX0_tell_19 (by decide) (by decide) rfl (by decide) ?_
          refine lv_aload_n hx hb dX0_tell_62 rfl (lv_at hl 0 rfl) ?_
          refine gN_Page_words X hP hb_0_0 (ixb_lt g4) tw_11 dX0_tell_63 ?_
          cases hf
          exact rtI X hr hlk hP hS dX0_tell_66
        · rw [if_neg c7] at hf
          by_cases c8 : x2 = (3 : Int32)
          · rw [if_pos c8] at hf
            refine W.eq (g2 := F0 m 19 ls [.int (3 : Int32)]) (by rw [c8]) ?_
            refine lv_tableIn (x := (3 : Int32)) (off := 48) (tgt := 67) hx hb dX0_tell_19 (by decide) (by decide) rfl (by decide) ?_
            refine lv_aload_n hx hb dX0_tell_67 rfl (lv_at hl 0 rfl) ?_
            refine gN_Page_points X hP hb_0_0 (ixb_lt g4) tw_6 dX0_tell_68 ?_
            cases hf
            exact rtI X hr hlk hP hS dX0_tell_71
          · rw [if_neg c8] at hf
            by_cases c9 : x2 = (4 : Int32)
            · rw [if_pos c9] at hf
              refine W.eq (g2 := F0 m 19 ls [.int (4 : Int32)]) (by rw [c9]) ?_
              refine lv_tableIn (x := (4 : Int32)) (off := 53) (tgt := 72) hx hb dX0_tell_19 (by decide) (by decide) rfl (by decide) ?_
              refine lv_aload_n hx hb dX0_tell_72 rfl (lv_at hl 0 rfl) ?_
              refine gN_Page_fact X hP hb_0_0 (ixb_lt g4) tw_14 dX0_tell_73 ?_
              cases hf
              exact rtI X hr hlk hP hS dX0_tell_76
            · rw [if_neg c9] at hf
              have z9 : ∀ k : Int32, ¬ x2 = k → ¬ (x2).toInt = k.toInt := fun k h q => h (Int32.toInt_inj.mp q)
              have a0 : ¬ (x2).toInt = 0 := z9 (0 : Int32) c5
              have a1 : ¬ (x2).toInt = 1 := z9 (1 : Int32) c6
              have a2 : ¬ (x2).toInt = 2 := z9 (2 : Int32) c7
              have a3 : ¬ (x2).toInt = 3 := z9 (3 : Int32) c8
              have a4 : ¬ (x2).toInt = 4 := z9 (4 : Int32) c9
              have z8 : (x2).toInt < 0 ∨ 4 < (x2).toInt := by omega
              refine lv_tableOut (tgt := 77) hx hb dX0_tell_19 z8 (by decide) ?_
              refine lv_aload_n hx hb dX0_tell_77 rfl (lv_at hl 0 rfl) ?_
              refine gN_Page_day X hP hb_0_0 (ixb_lt g4) tw_17 dX0_tell_78 ?_
              cases hf
              exact rtI X hr hlk hP hS dX0_tell_81
  · rw [if_pos c3] at hf
    refine lv_bipush (v := (-9 : Int32)) hx hb dX0_tell_8 (by decide) ?_
    cases hf
    exact rtI X hr hlk hP hS dX0_tell_10
/-! X1_stateOf -/
section
variable {p : Program} {l : Launch} {e : Env} {s : State} {m : MethodId} {args : Array Value} {below : List Frame} {meth : Method} {c : Code}
variable {D : va_G} {cI cP cB cA : ClassId} {ad : Nat → Nat} {tL tC : Nat}
end
set_option maxHeartbeats 4000000 in
set_option maxRecDepth 100000 in
theorem m_X1_stateOf {l : Launch} {D : va_G} {cI cP cB cA : ClassId} {ad : Nat → Nat} {tL tC : Nat} {x1 : Int32} {S : Stt} {res : Int32 × Stt} (hf : f_X1_stateOf x1 S = some res) : Ct l D cI cP cB cA 79 ad tL tC yX1_stateOf cX1_stateOf 2 (some .int) 2 [.ref (ad 8), .int x1] (cfC ad cI cP cB cA S) (QI D 79 ad res.1 (cfC ad cI cP cB cA res.2)) := by
  refine ctOf (by decide) (Nat.le_of_ble_eq_true rfl) ?_
  intro p e s m args below meth c ls X hr hlk hP hl
  have hS : va_S (Ar 79 ad) s.heap s.heap [] := va_S.rf
  have hx := X.1.1
  have hb := X.1.2.1
  have hl : lv_has ls 2 [(0, .ref (ad 8)), (1, .int x1)] := hl
  unfold f_X1_stateOf at hf
  refine lv_aload_n hx hb dX1_stateOf_0 rfl (lv_at hl 0 rfl) ?_
  refine g_Court_always X hP  tw_37 dX1_stateOf_1 ?_
  refine lv_iload_n hx hb dX1_stateOf_4 rfl (lv_at hl 1 rfl) ?_
  obtain ⟨q1, e2, hf⟩ := bind_some hf
  refine aftI hS (cSN (rest := []) X hP hS [.int (S.1 32 0 0), .int x1] (m_X7_hasBit  e2) cw_X7_hasBit tw_208 tw_435 (fits9 (by first | decide | omega) (by decide)) rfl rfl hl.1 (Nat.le_of_ble_eq_true rfl) dX1_stateOf_5 ⟨Nat.zero_le _, Nat.zero_le _⟩) (fun H locs hP hS => ?_)
  refine lv_if_eq (tgt := 13) hx hb dX1_stateOf_8 (by decide) (fun c3 => ?_) (fun c3 => ?_)
  · rw [if_pos c3] at hf
    refine lv_aload_n hx hb dX1_stateOf_13 rfl (lv_at hl 0 rfl) ?_
    refine g_Court_ever X hP  tw_39 dX1_stateOf_14 ?_
    refine lv_iload_n hx hb dX1_stateOf_17 rfl (lv_at hl 1 rfl) ?_
    obtain ⟨q4, e5, hf⟩ := bind_some hf
    refine aftI hS (cSN (rest := []) X hP hS [.int (q1.2.1 33 0 0), .int x1] (m_X7_hasBit  e5) cw_X7_hasBit tw_208 tw_435 (fits9 (by first | decide | omega) (by decide)) rfl rfl hl.1 (Nat.le_of_ble_eq_true rfl) dX1_stateOf_18 ⟨Nat.zero_le _, Nat.zero_le _⟩) (fun H locs hP hS => ?_)
    refine lv_if_eq (tgt := 29) hx hb dX1_stateOf_21 (by decide) (fun c6 => ?_) (fun c6 => ?_)
    · rw [if_pos c6] at hf
      refine lv_iconst (v := (0 : Int32)) hx hb dX1_stateOf_29 (by decide) ?_
      cases hf
      exact rtI X hr hlk hP hS dX1_stateOf_30
    · rw [if_neg c6] at hf
      refine lv_bipush (v := (-9 : Int32)) hx hb dX1_stateOf_24 (by decide) ?_
      refine lv_goto (tgt := 30) hx hb dX1_stateOf_26 (by decide) ?_
      cases hf
      exact rtI X hr hlk hP hS dX1_stateOf_30
  · rw [if_neg c3] at hf
    refine lv_iconst (v := (1 : Int32)) hx hb dX1_stateOf_11 (by decide) ?_
    cases hf
    exact rtI X hr hlk hP hS dX1_stateOf_12
/-! X1_timesOne -/
section
variable {p : Program} {l : Launch} {e : Env} {s : State} {m : MethodId} {args : Array Value} {below : List Frame} {meth : Method} {c : Code}
variable {D : va_G} {cI cP cB cA : ClassId} {ad : Nat → Nat} {tL tC : Nat}
set_option maxHeartbeats 4000000 in
set_option maxRecDepth 100000 in
theorem vb_X1_timesOne_4 (X : Cx D cI cP cB cA 79 ad tL tC p s m c cX1_timesOne 4 args RX1) (hr : meth.sig.returnType = (some .int)) (hlk : meth.locks = false) {res : Int32 × Stt} (kb : Int32 → Int32 → Int32 → Stt → Option (Int32 × Stt)) (ke : Int32 → Stt → Option (Int32 × Stt)) (hkb : ∀ (x1 : Int32) (x2 : Int32) (x3 : Int32) (S : Stt) (H : Heap) (locs : List Loc) (ls : Array Slot), kb x1 x2 x3 S = some res → va_P D vwCl (wl 79 ad (cfC ad cI cP cB cA S)) H → va_S (Ar 79 ad) s.heap H locs → lv_has ls 4 [(0, .ref (ad 8)), (1, .int x1), (2, .int x2), (3, .int x3)] → W p l e (rmD 2) s m args below meth c H locs 0 0 (MQ below (QI D 79 ad res.1 (cfC ad cI cP cB cA res.2)) args s 0 0 (Ar 79 ad)) (F0 m 4 ls [])) (hke : ∀ (x2 : Int32) (S : Stt) (H : Heap) (locs : List Loc) (ls : Array Slot), ke x2 S = some res → va_P D vwCl (wl 79 ad (cfC ad cI cP cB cA S)) H → va_S (Ar 79 ad) s.heap H locs → lv_has ls 4 [(2, .int x2)] → W p l e (rmD 2) s m args below meth c H locs 0 0 (MQ below (QI D 79 ad res.1 (cfC ad cI cP cB cA res.2)) args s 0 0 (Ar 79 ad)) (F0 m 34 ls [])) : ∀ (x1 : Int32) (x2 : Int32) (x3 : Int32) (S : Stt) (H : Heap) (locs : List Loc) (ls : Array Slot), fb_X1_timesOne_4 kb ke x1 x2 x3 S = some res → va_P D vwCl (wl 79 ad (cfC ad cI cP cB cA S)) H → va_S (Ar 79 ad) s.heap H locs → lv_has ls 4 [(0, .ref (ad 8)), (1, .int x1), (2, .int x2), (3, .int x3)] → W p l e (rmD 2) s m args below meth c H locs 0 0 (MQ below (QI D 79 ad res.1 (cfC ad cI cP cB cA res.2)) args s 0 0 (Ar 79 ad)) (F0 m 4 ls []) := by
  intro x1 x2 x3 S H locs ls hf hP hS hl
  have hx := X.1.1
  have hb := X.1.2.1
  unfold fb_X1_timesOne_4 at hf
  refine lv_iload_n hx hb dX1_timesOne_4 rfl (lv_at hl 3 rfl) ?_
  refine lv_aload_n hx hb dX1_timesOne_5 rfl (lv_at hl 0 rfl) ?_
  refine g_Court_heard X hP  tw_35 dX1_timesOne_6 ?_
  refine lv_icmp_ge (tgt := 34) hx hb dX1_timesOne_9 (by decide) (fun c1 => ?_) (fun c1 => ?_)
  · rw [if_pos c1] at hf
    exact hke _ _ _ _ ls hf  hP hS (lv_sub hl [2] rfl)
  · rw [if_neg c1] at hf
    refine lv_aload_n hx hb dX1_timesOne_12 rfl (lv_at hl 0 rfl) ?_
    refine g_Court_ones X hP  tw_34 dX1_timesOne_13 ?_
    refine lv_iload_n hx hb dX1_timesOne_16 rfl (lv_at hl 3 rfl) ?_
    obtain ⟨g2, hf⟩ := grd_some hf
    refine r_ones X hP  g2 dX1_timesOne_17 ?_
    refine lv_iload_n hx hb dX1_timesOne_18 rfl (lv_at hl 1 rfl) ?_
    obtain ⟨q3, e4, hf⟩ := bind_some hf
    refine aftI hS (cSN (rest := []) X hP hS [.int (S.1 30 0 x3.toNatClampNeg), .int x1] (m_X7_hasBit  e4) cw_X7_hasBit tw_208 tw_435 (fits9 (by first | decide | omega) (by decide)) rfl rfl hl.1 (Nat.le_of_ble_eq_true rfl) dX1_timesOne_19 ⟨Nat.zero_le _, Nat.zero_le _⟩) (fun H locs hP hS => ?_)
    refine lv_if_eq (tgt := 28) hx hb dX1_timesOne_22 (by decide) (fun c5 => ?_) (fun c5 => ?_)
    · rw [if_pos c5] at hf
      refine lv_iinc (v := (x3 + (1 : Int32))) (lv' := [(3, .int (x3 + (1 : Int32))), (0, .ref (ad 8)), (1, .int x1), (2, .int x2)]) hx hb dX1_timesOne_28 hl (k := 3) rfl rfl (by decide) rfl (fun ls hl => ?_)
      refine lv_goto (tgt := 4) hx hb dX1_timesOne_31 (by decide) ?_
      exact hkb _ _ _ _ _ _ ls hf  hP hS (lv_sub hl [1, 2, 3, 0] rfl)
    · rw [if_neg c5] at hf
      refine lv_iinc (v := (x2 + (1 : Int32))) (lv' := [(2, .int (x2 + (1 : Int32))), (0, .ref (ad 8)), (1, .int x1), (3, .int x3)]) hx hb dX1_timesOne_25 hl (k := 2) rfl rfl (by decide) rfl (fun ls hl => ?_)
      refine lv_iinc (v := (x3 + (1 : Int32))) (lv' := [(3, .int (x3 + (1 : Int32))), (2, .int (x2 + (1 : Int32))), (0, .ref (ad 8)), (1, .int x1)]) hx hb dX1_timesOne_28 hl (k := 3) rfl rfl (by decide) rfl (fun ls hl => ?_)
      refine lv_goto (tgt := 4) hx hb dX1_timesOne_31 (by decide) ?_
      exact hkb _ _ _ _ _ _ ls hf  hP hS (lv_sub hl [2, 3, 1, 0] rfl)
set_option maxHeartbeats 4000000 in
set_option maxRecDepth 100000 in
theorem vl_X1_timesOne_4 (X : Cx D cI cP cB cA 79 ad tL tC p s m c cX1_timesOne 4 args RX1) (hr : meth.sig.returnType = (some .int)) (hlk : meth.locks = false) {res : Int32 × Stt} (ke : Int32 → Stt → Option (Int32 × Stt)) (hke : ∀ (x2 : Int32) (S : Stt) (H : Heap) (locs : List Loc) (ls : Array Slot), ke x2 S = some res → va_P D vwCl (wl 79 ad (cfC ad cI cP cB cA S)) H → va_S (Ar 79 ad) s.heap H locs → lv_has ls 4 [(2, .int x2)] → W p l e (rmD 2) s m args below meth c H locs 0 0 (MQ below (QI D 79 ad res.1 (cfC ad cI cP cB cA res.2)) args s 0 0 (Ar 79 ad)) (F0 m 34 ls [])) : ∀ (n : Nat), ∀ (x1 : Int32) (x2 : Int32) (x3 : Int32) (S : Stt) (H : Heap) (locs : List Loc) (ls : Array Slot), fl_X1_timesOne_4 ke n x1 x2 x3 S = some res → va_P D vwCl (wl 79 ad (cfC ad cI cP cB cA S)) H → va_S (Ar 79 ad) s.heap H locs → lv_has ls 4 [(0, .ref (ad 8)), (1, .int x1), (2, .int x2), (3, .int x3)] → W p l e (rmD 2) s m args below meth c H locs 0 0 (MQ below (QI D 79 ad res.1 (cfC ad cI cP cB cA res.2)) args s 0 0 (Ar 79 ad)) (F0 m 4 ls []) := by
  intro n
  induction n with
  | zero =>
    intro x1 x2 x3 S H locs ls hf hP hS hl
    cases hf
  | succ n ih =>
    intro x1 x2 x3 S H locs ls hf hP hS hl
    exact vb_X1_timesOne_4 X hr hlk _ ke ih hke x1 x2 x3 S H locs ls hf  hP hS hl
end
set_option maxHeartbeats 4000000 in
set_option maxRecDepth 100000 in
theorem m_X1_timesOne {l : Launch} {D : va_G} {cI cP cB cA : ClassId} {ad : Nat → Nat} {tL tC : Nat} {x1 : Int32} {S : Stt} {res : Int32 × Stt} (hf : f_X1_timesOne x1 S = some res) : Ct l D cI cP cB cA 79 ad tL tC yX1_timesOne cX1_timesOne 4 (some .int) 2 [.ref (ad 8), .int x1] (cfC ad cI cP cB cA S) (QI D 79 ad res.1 (cfC ad cI cP cB cA res.2)) := by
  refine ctOf (by decide) (Nat.le_of_ble_eq_true rfl) ?_
  intro p e s m args below meth c ls X hr hlk hP hl
  have hS : va_S (Ar 79 ad) s.heap s.heap [] := va_S.rf
  have hx := X.1.1
  have hb := X.1.2.1
  have hl : lv_has ls 4 [(0, .ref (ad 8)), (1, .int x1)] := hl
  unfold f_X1_timesOne at hf
  refine lv_iconst (v := (0 : Int32)) hx hb dX1_timesOne_0 (by decide) ?_
  refine lv_istore_n (lv' := [(2, .int (0 : Int32)), (0, .ref (ad 8)), (1, .int x1)]) hx hb dX1_timesOne_1 rfl hl (by decide) rfl (fun ls hl => ?_)
  refine lv_iconst (v := (0 : Int32)) hx hb dX1_timesOne_2 (by decide) ?_
  refine lv_istore_n (lv' := [(3, .int (0 : Int32)), (2, .int (0 : Int32)), (0, .ref (ad 8)), (1, .int x1)]) hx hb dX1_timesOne_3 rfl hl (by decide) rfl (fun ls hl => ?_)
  refine vl_X1_timesOne_4 X hr hlk _ ?_ 300 _ _ _ _ _ _ ls hf  hP hS (lv_sub hl [2, 3, 1, 0] rfl)
  intro x2 S H locs ls hf hP hS hl
  refine lv_iload_n hx hb dX1_timesOne_34 rfl (lv_at hl 0 rfl) ?_
  cases hf
  exact rtI X hr hlk hP hS dX1_timesOne_35
/-! X1_trace -/
section
variable {p : Program} {l : Launch} {e : Env} {s : State} {m : MethodId} {args : Array Value} {below : List Frame} {meth : Method} {c : Code}
variable {D : va_G} {cI cP cB cA : ClassId} {ad : Nat → Nat} {tL tC : Nat}
set_option maxHeartbeats 4000000 in
set_option maxRecDepth 100000 in
theorem vj_X1_trace_62_8 (X : Cx D cI cP cB cA 79 ad tL tC p s m c cX1_trace 7 args RX1) (hr : meth.sig.returnType = (some .int)) (hlk : meth.locks = false) {res : Int32 × Stt} (kb : Int32 → Int32 → Int32 → Int32 → Stt → Option (Int32 × Stt)) (ke : Int32 → Stt → Option (Int32 × Stt)) (hkb : ∀ (x1 : Int32) (x2 : Int32) (x3 : Int32) (x4 : Int32) (S : Stt) (H : Heap) (locs : List Loc) (ls : Array Slot), kb x1 x2 x3 x4 S = some res → va_P D vwCl (wl 79 ad (cfC ad cI cP cB cA S)) H → va_S (Ar 79 ad) s.heap H locs → lv_has ls 7 [(0, .ref (ad 8)), (1, .int x1), (2, .int x2), (3, .int x3), (4, .int x4)] → W p l e (rmD 2) s m args below meth c H locs 0 0 (MQ below (QI D 79 ad res.1 (cfC ad cI cP cB cA res.2)) args s 0 0 (Ar 79 ad)) (F0 m 8 ls [])) (hke : ∀ (x2 : Int32) (S : Stt) (H : Heap) (locs : List Loc) (ls : Array Slot), ke x2 S = some res → va_P D vwCl (wl 79 ad (cfC ad cI cP cB cA S)) H → va_S (Ar 79 ad) s.heap H locs → lv_has ls 7 [(2, .int x2)] → W p l e (rmD 2) s m args below meth c H locs 0 0 (MQ below (QI D 79 ad res.1 (cfC ad cI cP cB cA res.2)) args s 0 0 (Ar 79 ad)) (F0 m 96 ls [])) : ∀ (x1 : Int32) (x2 : Int32) (x3 : Int32) (x4 : Int32) (xt0 : Int32) (S : Stt) (H : Heap) (locs : List Loc) (ls : Array Slot), fj_X1_trace_62_8 kb ke x1 x2 x3 x4 xt0 S = some res → va_P D vwCl (wl 79 ad (cfC ad cI cP cB cA S)) H → va_S (Ar 79 ad) s.heap H locs → lv_has ls 7 [(0, .ref (ad 8)), (1, .int x1), (2, .int x2), (3, .int x3), (4, .int x4)] → W p l e (rmD 2) s m args below meth c H locs 0 0 (MQ below (QI D 79 ad res.1 (cfC ad cI cP cB cA res.2)) args s 0 0 (Ar 79 ad)) (F0 m 62 ls [.int xt0]) := by
  intro x1 x2 x3 x4 xt0 S H locs ls hf hP hS hl
  have hx := X.1.1
  have hb := X.1.2.1
  unfold fj_X1_trace_62_8 at hf
  refine lv_istore (lv' := [(6, .int xt0), (0, .ref (ad 8)), (1, .int x1), (2, .int x2), (3, .int x3), (4, .int x4)]) hx hb dX1_trace_62 hl (by decide) rfl (fun ls hl => ?_)
  refine lv_iload_n hx hb dX1_trace_64 rfl (lv_at hl 4 rfl) ?_
  refine lv_bipush (v := (-9 : Int32)) hx hb dX1_trace_65 (by decide) ?_
  refine lv_icmp_eq (tgt := 87) hx hb dX1_trace_67 (by decide) (fun c7 => ?_) (fun c7 => ?_)
  · rw [if_pos c7] at hf
    refine lv_iload hx hb dX1_trace_87 (lv_at hl 0 rfl) ?_
    refine lv_istore_n (lv' := [(3, .int xt0), (6, .int xt0), (0, .ref (ad 8)), (1, .int x1), (2, .int x2), (4, .int x4)]) hx hb dX1_trace_89 rfl hl (by decide) rfl (fun ls hl => ?_)
    refine lv_iinc (v := (x4 + (1 : Int32))) (lv' := [(4, .int (x4 + (1 : Int32))), (3, .int xt0), (6, .int xt0), (0, .ref (ad 8)), (1, .int x1), (2, .int x2)]) hx hb dX1_trace_90 hl (k := 5) rfl rfl (by decide) rfl (fun ls hl => ?_)
    refine lv_goto (tgt := 8) hx hb dX1_trace_93 (by decide) ?_
    exact hkb _ _ _ _ _ _ _ ls hf  hP hS (lv_sub hl [3, 4, 5, 1, 0] rfl)
  · rw [if_neg c7] at hf
    refine lv_iload_n hx hb dX1_trace_70 rfl (lv_at hl 4 rfl) ?_
    refine lv_iload hx hb dX1_trace_71 (lv_at hl 0 rfl) ?_
    refine lv_icmp_eq (tgt := 87) hx hb dX1_trace_73 (by decide) (fun c8 => ?_) (fun c8 => ?_)
    · rw [if_pos c8] at hf
      refine lv_iload hx hb dX1_trace_87 (lv_at hl 0 rfl) ?_
      refine lv_istore_n (lv' := [(3, .int xt0), (6, .int xt0), (0, .ref (ad 8)), (1, .int x1), (2, .int x2), (4, .int x4)]) hx hb dX1_trace_89 rfl hl (by decide) rfl (fun ls hl => ?_)
      refine lv_iinc (v := (x4 + (1 : Int32))) (lv' := [(4, .int (x4 + (1 : Int32))), (3, .int xt0), (6, .int xt0), (0, .ref (ad 8)), (1, .int x1), (2, .int x2)]) hx hb dX1_trace_90 hl (k := 5) rfl rfl (by decide) rfl (fun ls hl => ?_)
      refine lv_goto (tgt := 8) hx hb dX1_trace_93 (by decide) ?_
      exact hkb _ _ _ _ _ _ _ ls hf  hP hS (lv_sub hl [3, 4, 5, 1, 0] rfl)
    · rw [if_neg c8] at hf
      refine lv_aload_n hx hb dX1_trace_76 rfl (lv_at hl 1 rfl) ?_
      refine g_Court_flipDays X hP  tw_45 dX1_trace_77 ?_
      refine lv_iload_n hx hb dX1_trace_80 rfl (lv_at hl 3 rfl) ?_
      refine lv_iinc (v := (x2 + (1 : Int32))) (lv' := [(2, .int (x2 + (1 : Int32))), (6, .int xt0), (0, .ref (ad 8)), (1, .int x1), (3, .int x3), (4, .int x4)]) hx hb dX1_trace_81 hl (k := 3) rfl rfl (by decide) rfl (fun ls hl => ?_)
      refine lv_iload hx hb dX1_trace_84 (lv_at hl 5 rfl) ?_
      obtain ⟨g9, hf⟩ := grd_some hf
      refine w_flipDays X hP hS  g9 dX1_trace_86 (fun H locs hP hS => ?_)
      refine lv_iload hx hb dX1_trace_87 (lv_at hl 1 rfl) ?_
      refine lv_istore_n (lv' := [(3, .int xt0), (2, .int (x2 + (1 : Int32))), (6, .int xt0), (0, .ref (ad 8)), (1, .int x1), (4, .int x4)]) hx hb dX1_trace_89 rfl hl (by decide) rfl (fun ls hl => ?_)
      refine lv_iinc (v := (x4 + (1 : Int32))) (lv' := [(4, .int (x4 + (1 : Int32))), (3, .int xt0), (2, .int (x2 + (1 : Int32))), (6, .int xt0), (0, .ref (ad 8)), (1, .int x1)]) hx hb dX1_trace_90 hl (k := 5) rfl rfl (by decide) rfl (fun ls hl => ?_)
      refine lv_goto (tgt := 8) hx hb dX1_trace_93 (by decide) ?_
      exact hkb _ _ _ _ _ _ _ ls hf  hP hS (lv_sub hl [4, 5, 2, 1, 0] rfl)
set_option maxHeartbeats 4000000 in
set_option maxRecDepth 100000 in
theorem vj_X1_trace_52_8 (X : Cx D cI cP cB cA 79 ad tL tC p s m c cX1_trace 7 args RX1) (hr : meth.sig.returnType = (some .int)) (hlk : meth.locks = false) {res : Int32 × Stt} (kb : Int32 → Int32 → Int32 → Int32 → Stt → Option (Int32 × Stt)) (ke : Int32 → Stt → Option (Int32 × Stt)) (hkb : ∀ (x1 : Int32) (x2 : Int32) (x3 : Int32) (x4 : Int32) (S : Stt) (H : Heap) (locs : List Loc) (ls : Array Slot), kb x1 x2 x3 x4 S = some res → va_P D vwCl (wl 79 ad (cfC ad cI cP cB cA S)) H → va_S (Ar 79 ad) s.heap H locs → lv_has ls 7 [(0, .ref (ad 8)), (1, .int x1), (2, .int x2), (3, .int x3), (4, .int x4)] → W p l e (rmD 2) s m args below meth c H locs 0 0 (MQ below (QI D 79 ad res.1 (cfC ad cI cP cB cA res.2)) args s 0 0 (Ar 79 ad)) (F0 m 8 ls [])) (hke : ∀ (x2 : Int32) (S : Stt) (H : Heap) (locs : List Loc) (ls : Array Slot), ke x2 S = some res → va_P D vwCl (wl 79 ad (cfC ad cI cP cB cA S)) H → va_S (Ar 79 ad) s.heap H locs → lv_has ls 7 [(2, .int x2)] → W p l e (rmD 2) s m args below meth c H locs 0 0 (MQ below (QI D 79 ad res.1 (cfC ad cI cP cB cA res.2)) args s 0 0 (Ar 79 ad)) (F0 m 96 ls [])) : ∀ (x1 : Int32) (x2 : Int32) (x3 : Int32) (x4 : Int32) (x5 : Int32) (S : Stt) (H : Heap) (locs : List Loc) (ls : Array Slot), fj_X1_trace_52_8 kb ke x1 x2 x3 x4 x5 S = some res → va_P D vwCl (wl 79 ad (cfC ad cI cP cB cA S)) H → va_S (Ar 79 ad) s.heap H locs → lv_has ls 7 [(0, .ref (ad 8)), (1, .int x1), (2, .int x2), (3, .int x3), (4, .int x4), (5, .int x5)] → W p l e (rmD 2) s m args below meth c H locs 0 0 (MQ below (QI D 79 ad res.1 (cfC ad cI cP cB cA res.2)) args s 0 0 (Ar 79 ad)) (F0 m 52 ls []) := by
  intro x1 x2 x3 x4 x5 S H locs ls hf hP hS hl
  have hx := X.1.1
  have hb := X.1.2.1
  unfold fj_X1_trace_52_8 at hf
  refine lv_iload hx hb dX1_trace_52 (lv_at hl 5 rfl) ?_
  refine lv_if_eq (tgt := 61) hx hb dX1_trace_54 (by decide) (fun c6 => ?_) (fun c6 => ?_)
  · rw [if_pos c6] at hf
    refine lv_iconst (v := (0 : Int32)) hx hb dX1_trace_61 (by decide) ?_
    exact vj_X1_trace_62_8 X hr hlk _ _ hkb hke _ _ _ _ _ _ _ _ ls hf  hP hS (lv_sub hl [0, 1, 2, 3, 4] rfl)
  · rw [if_neg c6] at hf
    refine lv_iconst (v := (1 : Int32)) hx hb dX1_trace_57 (by decide) ?_
    refine lv_goto (tgt := 62) hx hb dX1_trace_58 (by decide) ?_
    exact vj_X1_trace_62_8 X hr hlk _ _ hkb hke _ _ _ _ _ _ _ _ ls hf  hP hS (lv_sub hl [0, 1, 2, 3, 4] rfl)
set_option maxHeartbeats 4000000 in
set_option maxRecDepth 100000 in
theorem vb_X1_trace_8 (X : Cx D cI cP cB cA 79 ad tL tC p s m c cX1_trace 7 args RX1) (hr : meth.sig.returnType = (some .int)) (hlk : meth.locks = false) {res : Int32 × Stt} (kb : Int32 → Int32 → Int32 → Int32 → Stt → Option (Int32 × Stt)) (ke : Int32 → Stt → Option (Int32 × Stt)) (hkb : ∀ (x1 : Int32) (x2 : Int32) (x3 : Int32) (x4 : Int32) (S : Stt) (H : Heap) (locs : List Loc) (ls : Array Slot), kb x1 x2 x3 x4 S = some res → va_P D vwCl (wl 79 ad (cfC ad cI cP cB cA S)) H → va_S (Ar 79 ad) s.heap H locs → lv_has ls 7 [(0, .ref (ad 8)), (1, .int x1), (2, .int x2), (3, .int x3), (4, .int x4)] → W p l e (rmD 2) s m args below meth c H locs 0 0 (MQ below (QI D 79 ad res.1 (cfC ad cI cP cB cA res.2)) args s 0 0 (Ar 79 ad)) (F0 m 8 ls [])) (hke : ∀ (x2 : Int32) (S : Stt) (H : Heap) (locs : List Loc) (ls : Array Slot), ke x2 S = some res → va_P D vwCl (wl 79 ad (cfC ad cI cP cB cA S)) H → va_S (Ar 79 ad) s.heap H locs → lv_has ls 7 [(2, .int x2)] → W p l e (rmD 2) s m args below meth c H locs 0 0 (MQ below (QI D 79 ad res.1 (cfC ad cI cP cB cA res.2)) args s 0 0 (Ar 79 ad)) (F0 m 96 ls [])) : ∀ (x1 : Int32) (x2 : Int32) (x3 : Int32) (x4 : Int32) (S : Stt) (H : Heap) (locs : List Loc) (ls : Array Slot), fb_X1_trace_8 kb ke x1 x2 x3 x4 S = some res → va_P D vwCl (wl 79 ad (cfC ad cI cP cB cA S)) H → va_S (Ar 79 ad) s.heap H locs → lv_has ls 7 [(0, .ref (ad 8)), (1, .int x1), (2, .int x2), (3, .int x3), (4, .int x4)] → W p l e (rmD 2) s m args below meth c H locs 0 0 (MQ below (QI D 79 ad res.1 (cfC ad cI cP cB cA res.2)) args s 0 0 (Ar 79 ad)) (F0 m 8 ls []) := by
  intro x1 x2 x3 x4 S H locs ls hf hP hS hl
  have hx := X.1.1
  have hb := X.1.2.1
  unfold fb_X1_trace_8 at hf
  refine lv_iload hx hb dX1_trace_8 (lv_at hl 4 rfl) ?_
  refine lv_aload_n hx hb dX1_trace_10 rfl (lv_at hl 0 rfl) ?_
  refine g_Court_daysRead X hP  tw_44 dX1_trace_11 ?_
  refine lv_icmp_ge (tgt := 96) hx hb dX1_trace_14 (by decide) (fun c1 => ?_) (fun c1 => ?_)
  · rw [if_pos c1] at hf
    exact hke _ _ _ _ ls hf  hP hS (lv_sub hl [2] rfl)
  · rw [if_neg c1] at hf
    refine lv_aload_n hx hb dX1_trace_17 rfl (lv_at hl 0 rfl) ?_
    refine g_Court_alwaysOn X hP  tw_42 dX1_trace_18 ?_
    refine lv_iload hx hb dX1_trace_21 (lv_at hl 4 rfl) ?_
    obtain ⟨g2, hf⟩ := grd_some hf
    refine r_alwaysOn X hP  g2 dX1_trace_23 ?_
    refine lv_iload_n hx hb dX1_trace_24 rfl (lv_at hl 1 rfl) ?_
    obtain ⟨q3, e4, hf⟩ := bind_some hf
    refine aftI hS (cSN (rest := []) X hP hS [.int (S.1 34 0 x4.toNatClampNeg), .int x1] (m_X7_hasBit  e4) cw_X7_hasBit tw_208 tw_435 (fits9 (by first | decide | omega) (by decide)) rfl rfl hl.1 (Nat.le_of_ble_eq_true rfl) dX1_trace_25 ⟨Nat.zero_le _, Nat.zero_le _⟩) (fun H locs hP hS => ?_)
    refine lv_istore (lv' := [(5, .int q3.1), (0, .ref (ad 8)), (1, .int x1), (2, .int x2), (3, .int x3), (4, .int x4)]) hx hb dX1_trace_28 hl (by decide) rfl (fun ls hl => ?_)
    refine lv_iload hx hb dX1_trace_30 (lv_at hl 0 rfl) ?_
    refine lv_if_ne (tgt := 52) hx hb dX1_trace_32 (by decide) (fun c5 => ?_) (fun c5 => ?_)
    · rw [if_neg c5] at hf
      exact vj_X1_trace_52_8 X hr hlk _ _ hkb hke _ _ _ _ _ _ _ _ ls hf  hP hS (lv_sub hl [1, 2, 3, 4, 5, 0] rfl)
    · rw [if_pos c5] at hf
      refine lv_aload_n hx hb dX1_trace_35 rfl (lv_at hl 1 rfl) ?_
      refine g_Court_everOn X hP  tw_43 dX1_trace_36 ?_
      refine lv_iload hx hb dX1_trace_39 (lv_at hl 5 rfl) ?_
      obtain ⟨g10, hf⟩ := grd_some hf
      refine r_everOn X hP  g10 dX1_trace_41 ?_
      refine lv_iload_n hx hb dX1_trace_42 rfl (lv_at hl 2 rfl) ?_
      obtain ⟨q11, e12, hf⟩ := bind_some hf
      refine aftI hS (cSN (rest := []) X hP hS [.int (q3.2.1 35 0 x4.toNatClampNeg), .int x1] (m_X7_hasBit  e12) cw_X7_hasBit tw_208 tw_435 (fits9 (by first | decide | omega) (by decide)) rfl rfl hl.1 (Nat.le_of_ble_eq_true rfl) dX1_trace_43 ⟨Nat.zero_le _, Nat.zero_le _⟩) (fun H locs hP hS => ?_)
      refine lv_if_eq (tgt := 52) hx hb dX1_trace_46 (by decide) (fun c13 => ?_) (fun c13 => ?_)
      · rw [if_pos c13] at hf
        exact vj_X1_trace_52_8 X hr hlk _ _ hkb hke _ _ _ _ _ _ _ _ ls hf  hP hS (lv_sub hl [1, 2, 3, 4, 5, 0] rfl)
      · rw [if_neg c13] at hf
        refine lv_goto (tgt := 90) hx hb dX1_trace_49 (by decide) ?_
        refine lv_iinc (v := (x4 + (1 : Int32))) (lv' := [(4, .int (x4 + (1 : Int32))), (5, .int q3.1), (0, .ref (ad 8)), (1, .int x1), (2, .int x2), (3, .int x3)]) hx hb dX1_trace_90 hl (k := 5) rfl rfl (by decide) rfl (fun ls hl => ?_)
        refine lv_goto (tgt := 8) hx hb dX1_trace_93 (by decide) ?_
        exact hkb _ _ _ _ _ _ _ ls hf  hP hS (lv_sub hl [2, 3, 4, 5, 0] rfl)
set_option maxHeartbeats 4000000 in
set_option maxRecDepth 100000 in
theorem vl_X1_trace_8 (X : Cx D cI cP cB cA 79 ad tL tC p s m c cX1_trace 7 args RX1) (hr : meth.sig.returnType = (some .int)) (hlk : meth.locks = false) {res : Int32 × Stt} (ke : Int32 → Stt → Option (Int32 × Stt)) (hke : ∀ (x2 : Int32) (S : Stt) (H : Heap) (locs : List Loc) (ls : Array Slot), ke x2 S = some res → va_P D vwCl (wl 79 ad (cfC ad cI cP cB cA S)) H → va_S (Ar 79 ad) s.heap H locs → lv_has ls 7 [(2, .int x2)] → W p l e (rmD 2) s m args below meth c H locs 0 0 (MQ below (QI D 79 ad res.1 (cfC ad cI cP cB cA res.2)) args s 0 0 (Ar 79 ad)) (F0 m 96 ls [])) : ∀ (n : Nat), ∀ (x1 : Int32) (x2 : Int32) (x3 : Int32) (x4 : Int32) (S : Stt) (H : Heap) (locs : List Loc) (ls : Array Slot), fl_X1_trace_8 ke n x1 x2 x3 x4 S = some res → va_P D vwCl (wl 79 ad (cfC ad cI cP cB cA S)) H → va_S (Ar 79 ad) s.heap H locs → lv_has ls 7 [(0, .ref (ad 8)), (1, .int x1), (2, .int x2), (3, .int x3), (4, .int x4)] → W p l e (rmD 2) s m args below meth c H locs 0 0 (MQ below (QI D 79 ad res.1 (cfC ad cI cP cB cA res.2)) args s 0 0 (Ar 79 ad)) (F0 m 8 ls []) := by
  intro n
  induction n with
  | zero =>
    intro x1 x2 x3 x4 S H locs ls hf hP hS hl
    cases hf
  | succ n ih =>
    intro x1 x2 x3 x4 S H locs ls hf hP hS hl
    exact vb_X1_trace_8 X hr hlk _ ke ih hke x1 x2 x3 x4 S H locs ls hf  hP hS hl
end
set_option maxHeartbeats 4000000 in
set_option maxRecDepth 100000 in
theorem m_X1_trace {l : Launch} {D : va_G} {cI cP cB cA : ClassId} {ad : Nat → Nat} {tL tC : Nat} {x1 : Int32} {S : Stt} {res : Int32 × Stt} (hf : f_X1_trace x1 S = some res) : Ct l D cI cP cB cA 79 ad tL tC yX1_trace cX1_trace 7 (some .int) 2 [.ref (ad 8), .int x1] (cfC ad cI cP cB cA S) (QI D 79 ad res.1 (cfC ad cI cP cB cA res.2)) := by
  refine ctOf (by decide) (Nat.le_of_ble_eq_true rfl) ?_
  intro p e s m args below meth c ls X hr hlk hP hl
  have hS : va_S (Ar 79 ad) s.heap s.heap [] := va_S.rf
  have hx := X.1.1
  have hb := X.1.2.1
  have hl : lv_has ls 7 [(0, .ref (ad 8)), (1, .int x1)] := hl
  unfold f_X1_trace at hf
  refine lv_iconst (v := (0 : Int32)) hx hb dX1_trace_0 (by decide) ?_
  refine lv_istore_n (lv' := [(2, .int (0 : Int32)), (0, .ref (ad 8)), (1, .int x1)]) hx hb dX1_trace_1 rfl hl (by decide) rfl (fun ls hl => ?_)
  refine lv_bipush (v := (-9 : Int32)) hx hb dX1_trace_2 (by decide) ?_
  refine lv_istore_n (lv' := [(3, .int (-9 : Int32)), (2, .int (0 : Int32)), (0, .ref (ad 8)), (1, .int x1)]) hx hb dX1_trace_4 rfl hl (by decide) rfl (fun ls hl => ?_)
  refine lv_iconst (v := (0 : Int32)) hx hb dX1_trace_5 (by decide) ?_
  refine lv_istore (lv' := [(4, .int (0 : Int32)), (3, .int (-9 : Int32)), (2, .int (0 : Int32)), (0, .ref (ad 8)), (1, .int x1)]) hx hb dX1_trace_6 hl (by decide) rfl (fun ls hl => ?_)
  refine vl_X1_trace_8 X hr hlk _ ?_ 300 _ _ _ _ _ _ _ ls hf  hP hS (lv_sub hl [3, 4, 2, 1, 0] rfl)
  intro x2 S H locs ls hf hP hS hl
  refine lv_iload_n hx hb dX1_trace_96 rfl (lv_at hl 0 rfl) ?_
  cases hf
  exact rtI X hr hlk hP hS dX1_trace_97
/-! X3_casesThatFit -/
section
variable {p : Program} {l : Launch} {e : Env} {s : State} {m : MethodId} {args : Array Value} {below : List Frame} {meth : Method} {c : Code}
variable {D : va_G} {cI cP cB cA : ClassId} {ad : Nat → Nat} {tL tC : Nat}
set_option maxHeartbeats 4000000 in
set_option maxRecDepth 100000 in
theorem vj_X3_casesThatFit_34 (X : Cx D cI cP cB cA 79 ad tL tC p s m c cX3_casesThatFit 4 args RX3) (hr : meth.sig.returnType = (some .int)) (hlk : meth.locks = false) {res : Int32 × Stt} : ∀ (b0 : Nat) (i0 : Nat) (x2 : Int32) (x3 : Int32) (S : Stt) (H : Heap) (locs : List Loc) (ls : Array Slot), fj_X3_casesThatFit_34 b0 i0 x2 x3 S = some res → b0 < 5 → i0 < 6 → va_P D vwCl (wl 79 ad (cfC ad cI cP cB cA S)) H → va_S (Ar 79 ad) s.heap H locs → lv_has ls 4 [(0, .ref (ad (49 + 6 * b0 + i0))), (2, .int x2), (3, .int x3)] → W p l e (rmD 2) s m args below meth c H locs 0 0 (MQ below (QI D 79 ad res.1 (cfC ad cI cP cB cA res.2)) args s 0 0 (Ar 79 ad)) (F0 m 34 ls []) := by
  intro b0 i0 x2 x3 S H locs ls hf hb_0_0 hb_0_1 hP hS hl
  have hx := X.1.1
  have hb := X.1.2.1
  unfold fj_X3_casesThatFit_34 at hf
  refine lv_aload_n hx hb dX3_casesThatFit_34 rfl (lv_at hl 0 rfl) ?_
  refine g_Page_words X hP hb_0_0 hb_0_1 tw_10 dX3_casesThatFit_35 ?_
  refine lv_bipush (v := (6 : Int32)) hx hb dX3_casesThatFit_38 (by decide) ?_
  obtain ⟨q5, e6, hf⟩ := bind_some hf
  refine aftI hS (cSN (rest := []) X hP hS [.int (S.1 13 b0 i0), .int (6 : Int32)] (m_X7_hasBit  e6) cw_X7_hasBit tw_156 tw_435 (fits9 (by first | decide | omega) (by decide)) rfl rfl hl.1 (Nat.le_of_ble_eq_true rfl) dX3_casesThatFit_40 ⟨Nat.zero_le _, Nat.zero_le _⟩) (fun H locs hP hS => ?_)
  refine lv_if_eq (tgt := 54) hx hb dX3_casesThatFit_43 (by decide) (fun c7 => ?_) (fun c7 => ?_)
  · rw [if_pos c7] at hf
    refine lv_iload_n hx hb dX3_casesThatFit_54 rfl (lv_at hl 2 rfl) ?_
    cases hf
    exact rtI X hr hlk hP hS dX3_casesThatFit_55
  · rw [if_neg c7] at hf
    refine lv_iload_n hx hb dX3_casesThatFit_46 rfl (lv_at hl 2 rfl) ?_
    refine gsCN X hS tw_75 dX3_casesThatFit_47 ?_
    refine lv_iload_n hx hb dX3_casesThatFit_50 rfl (lv_at hl 1 rfl) ?_
    obtain ⟨g8, hf⟩ := grd_some hf
    refine sR_C X hS (ixb_in g8) dX3_casesThatFit_51 ?_
    refine lv_iand hx hb dX3_casesThatFit_52 ?_
    refine lv_istore_n (lv' := [(3, .int (x3 &&& (litC x2.toNatClampNeg))), (0, .ref (ad (49 + 6 * b0 + i0))), (2, .int x2)]) hx hb dX3_casesThatFit_53 rfl hl (by decide) rfl (fun ls hl => ?_)
    refine lv_iload_n hx hb dX3_casesThatFit_54 rfl (lv_at hl 0 rfl) ?_
    cases hf
    exact rtI X hr hlk hP hS dX3_casesThatFit_55
end
set_option maxHeartbeats 4000000 in
set_option maxRecDepth 100000 in
theorem m_X3_casesThatFit {l : Launch} {D : va_G} {cI cP cB cA : ClassId} {ad : Nat → Nat} {tL tC : Nat} {b0 : Nat} {i0 : Nat} {x1 : Int32} {x2 : Int32} (hb_0_0 : b0 < 5) (hb_0_1 : i0 < 6) {S : Stt} {res : Int32 × Stt} (hf : f_X3_casesThatFit b0 i0 x1 x2 S = some res) : Ct l D cI cP cB cA 79 ad tL tC yX3_casesThatFit cX3_casesThatFit 4 (some .int) 2 [.ref (ad (49 + 6 * b0 + i0)), .int x1, .int x2] (cfC ad cI cP cB cA S) (QI D 79 ad res.1 (cfC ad cI cP cB cA res.2)) := by
  refine ctOf (by decide) (Nat.le_of_ble_eq_true rfl) ?_
  intro p e s m args below meth c ls X hr hlk hP hl
  have hS : va_S (Ar 79 ad) s.heap s.heap [] := va_S.rf
  have hx := X.1.1
  have hb := X.1.2.1
  have hl : lv_has ls 4 [(0, .ref (ad (49 + 6 * b0 + i0))), (1, .int x1), (2, .int x2)] := hl
  unfold f_X3_casesThatFit at hf
  refine lv_aload_n hx hb dX3_casesThatFit_0 rfl (lv_at hl 0 rfl) ?_
  refine g_Page_kind X hP hb_0_0 hb_0_1 tw_2 dX3_casesThatFit_1 ?_
  refine lv_iconst (v := (3 : Int32)) hx hb dX3_casesThatFit_4 (by decide) ?_
  refine lv_icmp_ne (tgt := 10) hx hb dX3_casesThatFit_5 (by decide) (fun c1 => ?_) (fun c1 => ?_)
  · rw [if_neg c1] at hf
    refine lv_aload_n hx hb dX3_casesThatFit_10 rfl (lv_at hl 0 rfl) ?_
    refine g_Page_plainly X hP hb_0_0 hb_0_1 tw_19 dX3_casesThatFit_11 ?_
    refine lv_istore_n (lv' := [(3, .int (S.1 16 b0 i0)), (0, .ref (ad (49 + 6 * b0 + i0))), (1, .int x1), (2, .int x2)]) hx hb dX3_casesThatFit_14 rfl hl (by decide) rfl (fun ls hl => ?_)
    refine lv_aload_n hx hb dX3_casesThatFit_15 rfl (lv_at hl 1 rfl) ?_
    refine g_Page_words X hP hb_0_0 hb_0_1 tw_10 dX3_casesThatFit_16 ?_
    refine lv_iconst (v := (5 : Int32)) hx hb dX3_casesThatFit_19 (by decide) ?_
    obtain ⟨q2, e3, hf⟩ := bind_some hf
    refine aftI hS (cSN (rest := []) X hP hS [.int (S.1 13 b0 i0), .int (5 : Int32)] (m_X7_hasBit  e3) cw_X7_hasBit tw_156 tw_435 (fits9 (by first | decide | omega) (by decide)) rfl rfl hl.1 (Nat.le_of_ble_eq_true rfl) dX3_casesThatFit_20 ⟨Nat.zero_le _, Nat.zero_le _⟩) (fun H locs hP hS => ?_)
    refine lv_if_eq (tgt := 34) hx hb dX3_casesThatFit_23 (by decide) (fun c4 => ?_) (fun c4 => ?_)
    · rw [if_pos c4] at hf
      exact vj_X3_casesThatFit_34 X hr hlk _ _ _ _ _ _ _ ls hf hb_0_0 hb_0_1 hP hS (lv_sub hl [1, 3, 0] rfl)
    · rw [if_neg c4] at hf
      refine lv_iload_n hx hb dX3_casesThatFit_26 rfl (lv_at hl 0 rfl) ?_
      refine gsCN X hS tw_75 dX3_casesThatFit_27 ?_
      refine lv_iload_n hx hb dX3_casesThatFit_30 rfl (lv_at hl 2 rfl) ?_
      obtain ⟨g9, hf⟩ := grd_some hf
      refine sR_C X hS (ixb_in g9) dX3_casesThatFit_31 ?_
      refine lv_iand hx hb dX3_casesThatFit_32 ?_
      refine lv_istore_n (lv' := [(3, .int ((S.1 16 b0 i0) &&& (litC x1.toNatClampNeg))), (0, .ref (ad (49 + 6 * b0 + i0))), (1, .int x1), (2, .int x2)]) hx hb dX3_casesThatFit_33 rfl hl (by decide) rfl (fun ls hl => ?_)
      exact vj_X3_casesThatFit_34 X hr hlk _ _ _ _ _ _ _ ls hf hb_0_0 hb_0_1 hP hS (lv_sub hl [1, 3, 0] rfl)
  · rw [if_pos c1] at hf
    refine lv_iconst (v := (0 : Int32)) hx hb dX3_casesThatFit_8 (by decide) ?_
    cases hf
    exact rtI X hr hlk hP hS dX3_casesThatFit_9
/-! X3_putWords -/
section
variable {p : Program} {l : Launch} {e : Env} {s : State} {m : MethodId} {args : Array Value} {below : List Frame} {meth : Method} {c : Code}
variable {D : va_G} {cI cP cB cA : ClassId} {ad : Nat → Nat} {tL tC : Nat}
set_option maxHeartbeats 4000000 in
set_option maxRecDepth 100000 in
theorem vb_X3_putWords_12 (X : Cx D cI cP cB cA 79 ad tL tC p s m c cX3_putWords 3 args RX3) (hr : meth.sig.returnType = none) (hlk : meth.locks = false) {res : Stt} (kb : Nat → Nat → Int32 → Int32 → Stt → Option (Stt)) (ke : Stt → Option (Stt)) (hkb : ∀ (b0 : Nat) (i0 : Nat) (x1 : Int32) (x2 : Int32) (S : Stt) (H : Heap) (locs : List Loc) (ls : Array Slot), kb b0 i0 x1 x2 S = some res → b0 < 5 → i0 < 6 → va_P D vwCl (wl 79 ad (cfC ad cI cP cB cA S)) H → va_S (Ar 79 ad) s.heap H locs → lv_has ls 3 [(0, .ref (ad (49 + 6 * b0 + i0))), (1, .int x1), (2, .int x2)] → W p l e (rmD 2) s m args below meth c H locs 0 0 (MQ below (QV D 79 ad (cfC ad cI cP cB cA res)) args s 0 0 (Ar 79 ad)) (F0 m 12 ls [])) (hke : ∀ (S : Stt) (H : Heap) (locs : List Loc) (ls : Array Slot), ke S = some res → va_P D vwCl (wl 79 ad (cfC ad cI cP cB cA S)) H → va_S (Ar 79 ad) s.heap H locs → lv_has ls 3 [] → W p l e (rmD 2) s m args below meth c H locs 0 0 (MQ below (QV D 79 ad (cfC ad cI cP cB cA res)) args s 0 0 (Ar 79 ad)) (F0 m 45 ls [])) : ∀ (b0 : Nat) (i0 : Nat) (x1 : Int32) (x2 : Int32) (S : Stt) (H : Heap) (locs : List Loc) (ls : Array Slot), fb_X3_putWords_12 kb ke b0 i0 x1 x2 S = some res → b0 < 5 → i0 < 6 → va_P D vwCl (wl 79 ad (cfC ad cI cP cB cA S)) H → va_S (Ar 79 ad) s.heap H locs → lv_has ls 3 [(0, .ref (ad (49 + 6 * b0 + i0))), (1, .int x1), (2, .int x2)] → W p l e (rmD 2) s m args below meth c H locs 0 0 (MQ below (QV D 79 ad (cfC ad cI cP cB cA res)) args s 0 0 (Ar 79 ad)) (F0 m 12 ls []) := by
  intro b0 i0 x1 x2 S H locs ls hf hb_0_0 hb_0_1 hP hS hl
  have hx := X.1.1
  have hb := X.1.2.1
  unfold fb_X3_putWords_12 at hf
  refine lv_iload_n hx hb dX3_putWords_12 rfl (lv_at hl 2 rfl) ?_
  refine lv_iconst (v := (5 : Int32)) hx hb dX3_putWords_13 (by decide) ?_
  refine lv_icmp_ge (tgt := 45) hx hb dX3_putWords_14 (by decide) (fun c1 => ?_) (fun c1 => ?_)
  · rw [if_pos c1] at hf
    exact hke  _ _ _ ls hf  hP hS (lv_sub hl [] rfl)
  · rw [if_neg c1] at hf
    refine lv_iload_n hx hb dX3_putWords_17 rfl (lv_at hl 1 rfl) ?_
    refine lv_iload_n hx hb dX3_putWords_18 rfl (lv_at hl 2 rfl) ?_
    obtain ⟨q2, e3, hf⟩ := bind_some hf
    refine aftI hS (cSN (rest := []) X hP hS [.int x1, .int x2] (m_X7_hasBit  e3) cw_X7_hasBit tw_156 tw_435 (fits9 (by first | decide | omega) (by decide)) rfl rfl hl.1 (Nat.le_of_ble_eq_true rfl) dX3_putWords_19 ⟨Nat.zero_le _, Nat.zero_le _⟩) (fun H locs hP hS => ?_)
    refine lv_if_eq (tgt := 39) hx hb dX3_putWords_22 (by decide) (fun c4 => ?_) (fun c4 => ?_)
    · rw [if_pos c4] at hf
      refine lv_iinc (v := (x2 + (1 : Int32))) (lv' := [(2, .int (x2 + (1 : Int32))), (0, .ref (ad (49 + 6 * b0 + i0))), (1, .int x1)]) hx hb dX3_putWords_39 hl (k := 2) rfl rfl (by decide) rfl (fun ls hl => ?_)
      refine lv_goto (tgt := 12) hx hb dX3_putWords_42 (by decide) ?_
      exact hkb _ _ _ _ _ _ _ ls hf hb_0_0 hb_0_1 hP hS (lv_sub hl [1, 2, 0] rfl)
    · rw [if_neg c4] at hf
      refine lv_aload_n hx hb dX3_putWords_25 rfl (lv_at hl 0 rfl) ?_
      refine lv_dup hx hb dX3_putWords_26 rfl ?_
      refine g_Page_plainly X hP hb_0_0 hb_0_1 tw_19 dX3_putWords_27 ?_
      refine gsCN X hS tw_75 dX3_putWords_30 ?_
      refine lv_iload_n hx hb dX3_putWords_33 rfl (lv_at hl 2 rfl) ?_
      obtain ⟨g5, hf⟩ := grd_some hf
      refine sR_C X hS (ixb_in g5) dX3_putWords_34 ?_
      refine lv_iand hx hb dX3_putWords_35 ?_
      refine p_Page_plainly X hP hS hb_0_0 hb_0_1 tw_19 dX3_putWords_36 (fun H locs hP hS => ?_)
      refine lv_iinc (v := (x2 + (1 : Int32))) (lv' := [(2, .int (x2 + (1 : Int32))), (0, .ref (ad (49 + 6 * b0 + i0))), (1, .int x1)]) hx hb dX3_putWords_39 hl (k := 2) rfl rfl (by decide) rfl (fun ls hl => ?_)
      refine lv_goto (tgt := 12) hx hb dX3_putWords_42 (by decide) ?_
      exact hkb _ _ _ _ _ _ _ ls hf hb_0_0 hb_0_1 hP hS (lv_sub hl [1, 2, 0] rfl)
set_option maxHeartbeats 4000000 in
set_option maxRecDepth 100000 in
theorem vl_X3_putWords_12 (X : Cx D cI cP cB cA 79 ad tL tC p s m c cX3_putWords 3 args RX3) (hr : meth.sig.returnType = none) (hlk : meth.locks = false) {res : Stt} (ke : Stt → Option (Stt)) (hke : ∀ (S : Stt) (H : Heap) (locs : List Loc) (ls : Array Slot), ke S = some res → va_P D vwCl (wl 79 ad (cfC ad cI cP cB cA S)) H → va_S (Ar 79 ad) s.heap H locs → lv_has ls 3 [] → W p l e (rmD 2) s m args below meth c H locs 0 0 (MQ below (QV D 79 ad (cfC ad cI cP cB cA res)) args s 0 0 (Ar 79 ad)) (F0 m 45 ls [])) : ∀ (n : Nat), ∀ (b0 : Nat) (i0 : Nat) (x1 : Int32) (x2 : Int32) (S : Stt) (H : Heap) (locs : List Loc) (ls : Array Slot), fl_X3_putWords_12 ke n b0 i0 x1 x2 S = some res → b0 < 5 → i0 < 6 → va_P D vwCl (wl 79 ad (cfC ad cI cP cB cA S)) H → va_S (Ar 79 ad) s.heap H locs → lv_has ls 3 [(0, .ref (ad (49 + 6 * b0 + i0))), (1, .int x1), (2, .int x2)] → W p l e (rmD 2) s m args below meth c H locs 0 0 (MQ below (QV D 79 ad (cfC ad cI cP cB cA res)) args s 0 0 (Ar 79 ad)) (F0 m 12 ls []) := by
  intro n
  induction n with
  | zero =>
    intro b0 i0 x1 x2 S H locs ls hf hb_0_0 hb_0_1 hP hS hl
    cases hf
  | succ n ih =>
    intro b0 i0 x1 x2 S H locs ls hf hb_0_0 hb_0_1 hP hS hl
    exact vb_X3_putWords_12 X hr hlk _ ke ih hke b0 i0 x1 x2 S H locs ls hf hb_0_0 hb_0_1 hP hS hl
end
set_option maxHeartbeats 4000000 in
set_option maxRecDepth 100000 in
theorem m_X3_putWords {l : Launch} {D : va_G} {cI cP cB cA : ClassId} {ad : Nat → Nat} {tL tC : Nat} {b0 : Nat} {i0 : Nat} {x1 : Int32} (hb_0_0 : b0 < 5) (hb_0_1 : i0 < 6) {S : Stt} {res : Stt} (hf : f_X3_putWords b0 i0 x1 S = some res) : Ct l D cI cP cB cA 79 ad tL tC yX3_putWords cX3_putWords 3 none 2 [.ref (ad (49 + 6 * b0 + i0)), .int x1] (cfC ad cI cP cB cA S) (QV D 79 ad (cfC ad cI cP cB cA res)) := by
  refine ctOf (by decide) (Nat.le_of_ble_eq_true rfl) ?_
  intro p e s m args below meth c ls X hr hlk hP hl
  have hS : va_S (Ar 79 ad) s.heap s.heap [] := va_S.rf
  have hx := X.1.1
  have hb := X.1.2.1
  have hl : lv_has ls 3 [(0, .ref (ad (49 + 6 * b0 + i0))), (1, .int x1)] := hl
  unfold f_X3_putWords at hf
  refine lv_aload_n hx hb dX3_putWords_0 rfl (lv_at hl 0 rfl) ?_
  refine lv_iload_n hx hb dX3_putWords_1 rfl (lv_at hl 1 rfl) ?_
  refine p_Page_words X hP hS hb_0_0 hb_0_1 tw_10 dX3_putWords_2 (fun H locs hP hS => ?_)
  refine lv_aload_n hx hb dX3_putWords_5 rfl (lv_at hl 0 rfl) ?_
  refine lv_iconst (v := (-1 : Int32)) hx hb dX3_putWords_6 (by decide) ?_
  refine p_Page_plainly X hP hS hb_0_0 hb_0_1 tw_19 dX3_putWords_7 (fun H locs hP hS => ?_)
  refine lv_iconst (v := (0 : Int32)) hx hb dX3_putWords_10 (by decide) ?_
  refine lv_istore_n (lv' := [(2, .int (0 : Int32)), (0, .ref (ad (49 + 6 * b0 + i0))), (1, .int x1)]) hx hb dX3_putWords_11 rfl hl (by decide) rfl (fun ls hl => ?_)
  refine vl_X3_putWords_12 X hr hlk _ ?_ 300 _ _ _ _ _ _ _ ls hf hb_0_0 hb_0_1 hP hS (lv_sub hl [1, 2, 0] rfl)
  intro S H locs ls hf hP hS hl
  cases hf
  exact rtV X hr hlk hP hS dX3_putWords_45
