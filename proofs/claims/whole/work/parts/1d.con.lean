/-! X8_keep -/
section
variable {p : Program} {l : Launch} {e : Env} {s : State} {m : MethodId} {args : Array Value} {below : List Frame} {meth : Method} {c : Code}
variable {D : va_G} {cI cP cB cA : ClassId} {ad : Nat → Nat} {tL tC : Nat}
set_option maxHeartbeats 4000000 in
set_option maxRecDepth 100000 in
theorem vb_X8_keep_49 (X : Cx D cI cP cB cA 19 ad tL tC p s m c cX8_keep 5 args RX8) (hr : meth.sig.returnType = (some .int)) (hlk : meth.locks = false) {res : Int32 × Stt} (kb : Int32 → Int32 → Int32 → Stt → Option (Int32 × Stt)) (ke : Int32 → Int32 → Stt → Option (Int32 × Stt)) (hkb : ∀ (x2 : Int32) (x3 : Int32) (x4 : Int32) (S : Stt) (H : Heap) (locs : List Loc) (ls : Array Slot), kb x2 x3 x4 S = some res → va_P D vwCl (wl 19 ad (cfM ad cI S)) H → va_S (Ar 19 ad) s.heap H locs → lv_has ls 5 [(0, .ref (ad 0)), (2, .int x2), (3, .int x3), (4, .int x4)] → W p l e (rmD 2) s m args below meth c H locs 0 0 (MQ below (QI D 19 ad res.1 (cfM ad cI res.2)) args s 0 0 (Ar 19 ad)) (F0 m 49 ls [])) (hke : ∀ (x2 : Int32) (x3 : Int32) (S : Stt) (H : Heap) (locs : List Loc) (ls : Array Slot), ke x2 x3 S = some res → va_P D vwCl (wl 19 ad (cfM ad cI S)) H → va_S (Ar 19 ad) s.heap H locs → lv_has ls 5 [(0, .ref (ad 0)), (2, .int x2), (3, .int x3)] → W p l e (rmD 2) s m args below meth c H locs 0 0 (MQ below (QI D 19 ad res.1 (cfM ad cI res.2)) args s 0 0 (Ar 19 ad)) (F0 m 84 ls [])) : ∀ (x2 : Int32) (x3 : Int32) (x4 : Int32) (S : Stt) (H : Heap) (locs : List Loc) (ls : Array Slot), fb_X8_keep_49 kb ke x2 x3 x4 S = some res → va_P D vwCl (wl 19 ad (cfM ad cI S)) H → va_S (Ar 19 ad) s.heap H locs → lv_has ls 5 [(0, .ref (ad 0)), (2, .int x2), (3, .int x3), (4, .int x4)] → W p l e (rmD 2) s m args below meth c H locs 0 0 (MQ below (QI D 19 ad res.1 (cfM ad cI res.2)) args s 0 0 (Ar 19 ad)) (F0 m 49 ls []) := by
  intro x2 x3 x4 S H locs ls hf hP hS hl
  have hx := X.1.1
  have hb := X.1.2.1
  unfold fb_X8_keep_49 at hf
  refine lv_iload hx hb dX8_keep_49 (lv_at hl 3 rfl) ?_
  refine lv_iconst (v := (5 : Int32)) hx hb dX8_keep_51 (by decide) ?_
  refine lv_icmp_gt (tgt := 84) hx hb dX8_keep_52 (by decide) (fun c7 => ?_) (fun c7 => ?_)
  · rw [if_pos c7] at hf
    exact hke _ _ _ _ _ ls hf  hP hS (lv_sub hl [0, 1, 2] rfl)
  · rw [if_neg c7] at hf
    refine lv_aload_n hx hb dX8_keep_55 rfl (lv_at hl 0 rfl) ?_
    refine g_M_kept X hP  tw_97 dX8_keep_56 ?_
    refine lv_iload_n hx hb dX8_keep_59 rfl (lv_at hl 1 rfl) ?_
    refine lv_iconst (v := (1 : Int32)) hx hb dX8_keep_60 (by decide) ?_
    refine lv_iadd hx hb dX8_keep_61 ?_
    refine lv_bipush (v := (6 : Int32)) hx hb dX8_keep_62 (by decide) ?_
    refine lv_iload_n hx hb dX8_keep_64 rfl (lv_at hl 2 rfl) ?_
    refine lv_imul hx hb dX8_keep_65 ?_
    refine lv_iadd hx hb dX8_keep_66 ?_
    refine lv_iload hx hb dX8_keep_67 (lv_at hl 3 rfl) ?_
    refine lv_iadd hx hb dX8_keep_69 ?_
    refine lv_aload_n hx hb dX8_keep_70 rfl (lv_at hl 0 rfl) ?_
    refine lv_iload_n hx hb dX8_keep_71 rfl (lv_at hl 2 rfl) ?_
    refine lv_iload hx hb dX8_keep_72 (lv_at hl 3 rfl) ?_
    obtain ⟨q8, e9, hf⟩ := bind_some hf
    refine aftI hS (cV (rest := [.int (((x2 + (1 : Int32)) + ((6 : Int32) * x3)) + x4), .ref (ad 14)]) X hP hS [.int x3, .int x4] (m_X8_pageOf  e9) cw_X8_pageOf tw_315 tw_572 tw_785 (by decide) (cf_M ) rfl (fits9 (by first | decide | omega) (by decide)) rfl rfl hl.1 (Nat.le_of_ble_eq_true rfl) dX8_keep_74 ⟨Nat.zero_le _, Nat.zero_le _⟩) (fun H locs hP hS => ?_)
    obtain ⟨g10, hf⟩ := grd_some hf
    refine w_m_kept X hP hS  g10 dX8_keep_77 (fun H locs hP hS => ?_)
    refine lv_iinc (v := (x4 + (1 : Int32))) (lv' := [(4, .int (x4 + (1 : Int32))), (0, .ref (ad 0)), (2, .int x2), (3, .int x3)]) hx hb dX8_keep_78 hl (k := 3) rfl rfl (by decide) rfl (fun ls hl => ?_)
    refine lv_goto (tgt := 49) hx hb dX8_keep_81 (by decide) ?_
    exact hkb _ _ _ _ _ _ ls hf  hP hS (lv_sub hl [1, 2, 3, 0] rfl)
set_option maxHeartbeats 4000000 in
set_option maxRecDepth 100000 in
theorem vl_X8_keep_49 (X : Cx D cI cP cB cA 19 ad tL tC p s m c cX8_keep 5 args RX8) (hr : meth.sig.returnType = (some .int)) (hlk : meth.locks = false) {res : Int32 × Stt} (ke : Int32 → Int32 → Stt → Option (Int32 × Stt)) (hke : ∀ (x2 : Int32) (x3 : Int32) (S : Stt) (H : Heap) (locs : List Loc) (ls : Array Slot), ke x2 x3 S = some res → va_P D vwCl (wl 19 ad (cfM ad cI S)) H → va_S (Ar 19 ad) s.heap H locs → lv_has ls 5 [(0, .ref (ad 0)), (2, .int x2), (3, .int x3)] → W p l e (rmD 2) s m args below meth c H locs 0 0 (MQ below (QI D 19 ad res.1 (cfM ad cI res.2)) args s 0 0 (Ar 19 ad)) (F0 m 84 ls [])) : ∀ (n : Nat), ∀ (x2 : Int32) (x3 : Int32) (x4 : Int32) (S : Stt) (H : Heap) (locs : List Loc) (ls : Array Slot), fl_X8_keep_49 ke n x2 x3 x4 S = some res → va_P D vwCl (wl 19 ad (cfM ad cI S)) H → va_S (Ar 19 ad) s.heap H locs → lv_has ls 5 [(0, .ref (ad 0)), (2, .int x2), (3, .int x3), (4, .int x4)] → W p l e (rmD 2) s m args below meth c H locs 0 0 (MQ below (QI D 19 ad res.1 (cfM ad cI res.2)) args s 0 0 (Ar 19 ad)) (F0 m 49 ls []) := by
  intro n
  induction n with
  | zero =>
    intro x2 x3 x4 S H locs ls hf hP hS hl
    cases hf
  | succ n ih =>
    intro x2 x3 x4 S H locs ls hf hP hS hl
    exact vb_X8_keep_49 X hr hlk _ ke ih hke x2 x3 x4 S H locs ls hf  hP hS hl
set_option maxHeartbeats 4000000 in
set_option maxRecDepth 100000 in
theorem vb_X8_keep_38 (X : Cx D cI cP cB cA 19 ad tL tC p s m c cX8_keep 5 args RX8) (hr : meth.sig.returnType = (some .int)) (hlk : meth.locks = false) {res : Int32 × Stt} (kb : Int32 → Int32 → Stt → Option (Int32 × Stt)) (ke : Stt → Option (Int32 × Stt)) (hkb : ∀ (x2 : Int32) (x3 : Int32) (S : Stt) (H : Heap) (locs : List Loc) (ls : Array Slot), kb x2 x3 S = some res → va_P D vwCl (wl 19 ad (cfM ad cI S)) H → va_S (Ar 19 ad) s.heap H locs → lv_has ls 5 [(0, .ref (ad 0)), (2, .int x2), (3, .int x3)] → W p l e (rmD 2) s m args below meth c H locs 0 0 (MQ below (QI D 19 ad res.1 (cfM ad cI res.2)) args s 0 0 (Ar 19 ad)) (F0 m 38 ls [])) (hke : ∀ (S : Stt) (H : Heap) (locs : List Loc) (ls : Array Slot), ke S = some res → va_P D vwCl (wl 19 ad (cfM ad cI S)) H → va_S (Ar 19 ad) s.heap H locs → lv_has ls 5 [(0, .ref (ad 0))] → W p l e (rmD 2) s m args below meth c H locs 0 0 (MQ below (QI D 19 ad res.1 (cfM ad cI res.2)) args s 0 0 (Ar 19 ad)) (F0 m 90 ls [])) : ∀ (x2 : Int32) (x3 : Int32) (S : Stt) (H : Heap) (locs : List Loc) (ls : Array Slot), fb_X8_keep_38 kb ke x2 x3 S = some res → va_P D vwCl (wl 19 ad (cfM ad cI S)) H → va_S (Ar 19 ad) s.heap H locs → lv_has ls 5 [(0, .ref (ad 0)), (2, .int x2), (3, .int x3)] → W p l e (rmD 2) s m args below meth c H locs 0 0 (MQ below (QI D 19 ad res.1 (cfM ad cI res.2)) args s 0 0 (Ar 19 ad)) (F0 m 38 ls []) := by
  intro x2 x3 S H locs ls hf hP hS hl
  have hx := X.1.1
  have hb := X.1.2.1
  unfold fb_X8_keep_38 at hf
  refine lv_iload_n hx hb dX8_keep_38 rfl (lv_at hl 2 rfl) ?_
  refine lv_aload_n hx hb dX8_keep_39 rfl (lv_at hl 0 rfl) ?_
  refine g_M_many X hP  tw_86 dX8_keep_40 ?_
  refine lv_icmp_ge (tgt := 90) hx hb dX8_keep_43 (by decide) (fun c6 => ?_) (fun c6 => ?_)
  · rw [if_pos c6] at hf
    exact hke  _ _ _ ls hf  hP hS (lv_sub hl [0] rfl)
  · rw [if_neg c6] at hf
    refine lv_iconst (v := (0 : Int32)) hx hb dX8_keep_46 (by decide) ?_
    refine lv_istore (lv' := [(4, .int (0 : Int32)), (0, .ref (ad 0)), (2, .int x2), (3, .int x3)]) hx hb dX8_keep_47 hl (by decide) rfl (fun ls hl => ?_)
    refine vl_X8_keep_49 X hr hlk _ ?_ 300 _ _ _ _ _ _ ls hf  hP hS (lv_sub hl [1, 2, 3, 0] rfl)
    intro x2 x3 S H locs ls hf hP hS hl
    refine lv_iinc (v := (x3 + (1 : Int32))) (lv' := [(3, .int (x3 + (1 : Int32))), (0, .ref (ad 0)), (2, .int x2)]) hx hb dX8_keep_84 hl (k := 2) rfl rfl (by decide) rfl (fun ls hl => ?_)
    refine lv_goto (tgt := 38) hx hb dX8_keep_87 (by decide) ?_
    exact hkb _ _ _ _ _ ls hf  hP hS (lv_sub hl [1, 2, 0] rfl)
set_option maxHeartbeats 4000000 in
set_option maxRecDepth 100000 in
theorem vl_X8_keep_38 (X : Cx D cI cP cB cA 19 ad tL tC p s m c cX8_keep 5 args RX8) (hr : meth.sig.returnType = (some .int)) (hlk : meth.locks = false) {res : Int32 × Stt} (ke : Stt → Option (Int32 × Stt)) (hke : ∀ (S : Stt) (H : Heap) (locs : List Loc) (ls : Array Slot), ke S = some res → va_P D vwCl (wl 19 ad (cfM ad cI S)) H → va_S (Ar 19 ad) s.heap H locs → lv_has ls 5 [(0, .ref (ad 0))] → W p l e (rmD 2) s m args below meth c H locs 0 0 (MQ below (QI D 19 ad res.1 (cfM ad cI res.2)) args s 0 0 (Ar 19 ad)) (F0 m 90 ls [])) : ∀ (n : Nat), ∀ (x2 : Int32) (x3 : Int32) (S : Stt) (H : Heap) (locs : List Loc) (ls : Array Slot), fl_X8_keep_38 ke n x2 x3 S = some res → va_P D vwCl (wl 19 ad (cfM ad cI S)) H → va_S (Ar 19 ad) s.heap H locs → lv_has ls 5 [(0, .ref (ad 0)), (2, .int x2), (3, .int x3)] → W p l e (rmD 2) s m args below meth c H locs 0 0 (MQ below (QI D 19 ad res.1 (cfM ad cI res.2)) args s 0 0 (Ar 19 ad)) (F0 m 38 ls []) := by
  intro n
  induction n with
  | zero =>
    intro x2 x3 S H locs ls hf hP hS hl
    cases hf
  | succ n ih =>
    intro x2 x3 S H locs ls hf hP hS hl
    exact vb_X8_keep_38 X hr hlk _ ke ih hke x2 x3 S H locs ls hf  hP hS hl
end
set_option maxHeartbeats 4000000 in
set_option maxRecDepth 100000 in
theorem m_X8_keep {l : Launch} {D : va_G} {cI cP cB cA : ClassId} {ad : Nat → Nat} {tL tC : Nat} {x1 : Int32} {S : Stt} {res : Int32 × Stt} (hf : f_X8_keep x1 S = some res) : Ct l D cI cP cB cA 19 ad tL tC yX8_keep cX8_keep 5 (some .int) 2 [.ref (ad 0), .int x1] (cfM ad cI S) (QI D 19 ad res.1 (cfM ad cI res.2)) := by
  refine ctOf (by decide) (Nat.le_of_ble_eq_true rfl) ?_
  intro p e s m args below meth c ls X hr hlk hP hl
  have hS : va_S (Ar 19 ad) s.heap s.heap [] := va_S.rf
  have hx := X.1.1
  have hb := X.1.2.1
  have hl : lv_has ls 5 [(0, .ref (ad 0)), (1, .int x1)] := hl
  unfold f_X8_keep at hf
  refine lv_iload_n hx hb dX8_keep_0 rfl (lv_at hl 1 rfl) ?_
  refine lv_iconst (v := (0 : Int32)) hx hb dX8_keep_1 (by decide) ?_
  refine lv_iconst (v := (2 : Int32)) hx hb dX8_keep_2 (by decide) ?_
  obtain ⟨q1, e2, hf⟩ := bind_some hf
  refine aftI hS (cS (rest := []) X hP hS [.int x1, .int (0 : Int32), .int (2 : Int32)] (m_X8_in  e2) cw_X8_in tw_288 tw_546 (fits9 (by first | decide | omega) (by decide)) rfl rfl hl.1 (Nat.le_of_ble_eq_true rfl) dX8_keep_3 ⟨Nat.zero_le _, Nat.zero_le _⟩) (fun H locs hP hS => ?_)
  refine lv_if_ne (tgt := 11) hx hb dX8_keep_6 (by decide) (fun c3 => ?_) (fun c3 => ?_)
  · rw [if_neg c3] at hf
    refine lv_aload_n hx hb dX8_keep_11 rfl (lv_at hl 0 rfl) ?_
    refine g_M_many X hP  tw_86 dX8_keep_12 ?_
    refine lv_if_ne (tgt := 21) hx hb dX8_keep_15 (by decide) (fun c4 => ?_) (fun c4 => ?_)
    · rw [if_neg c4] at hf
      refine lv_bipush (v := (38 : Int32)) hx hb dX8_keep_21 (by decide) ?_
      refine lv_iload_n hx hb dX8_keep_23 rfl (lv_at hl 1 rfl) ?_
      refine lv_imul hx hb dX8_keep_24 ?_
      refine lv_istore_n (lv' := [(2, .int ((38 : Int32) * x1)), (0, .ref (ad 0)), (1, .int x1)]) hx hb dX8_keep_25 rfl hl (by decide) rfl (fun ls hl => ?_)
      refine lv_aload_n hx hb dX8_keep_26 rfl (lv_at hl 1 rfl) ?_
      refine g_M_kept X hP  tw_97 dX8_keep_27 ?_
      refine lv_iload_n hx hb dX8_keep_30 rfl (lv_at hl 0 rfl) ?_
      refine lv_aload_n hx hb dX8_keep_31 rfl (lv_at hl 1 rfl) ?_
      refine g_M_many X hP  tw_86 dX8_keep_32 ?_
      obtain ⟨g5, hf⟩ := grd_some hf
      refine w_m_kept X hP hS  g5 dX8_keep_35 (fun H locs hP hS => ?_)
      refine lv_iconst (v := (0 : Int32)) hx hb dX8_keep_36 (by decide) ?_
      refine lv_istore_n (lv' := [(3, .int (0 : Int32)), (2, .int ((38 : Int32) * x1)), (0, .ref (ad 0)), (1, .int x1)]) hx hb dX8_keep_37 rfl hl (by decide) rfl (fun ls hl => ?_)
      refine vl_X8_keep_38 X hr hlk _ ?_ 300 _ _ _ _ _ ls hf  hP hS (lv_sub hl [2, 1, 0] rfl)
      intro S H locs ls hf hP hS hl
      refine lv_aload_n hx hb dX8_keep_90 rfl (lv_at hl 0 rfl) ?_
      refine g_M_many X hP  tw_86 dX8_keep_91 ?_
      cases hf
      exact rtI X hr hlk hP hS dX8_keep_94
    · rw [if_pos c4] at hf
      refine lv_bipush (v := (-4 : Int32)) hx hb dX8_keep_18 (by decide) ?_
      cases hf
      exact rtI X hr hlk hP hS dX8_keep_20
  · rw [if_pos c3] at hf
    refine lv_iconst (v := (-1 : Int32)) hx hb dX8_keep_9 (by decide) ?_
    cases hf
    exact rtI X hr hlk hP hS dX8_keep_10
/-! X8_on -/
section
variable {p : Program} {l : Launch} {e : Env} {s : State} {m : MethodId} {args : Array Value} {below : List Frame} {meth : Method} {c : Code}
variable {D : va_G} {cI cP cB cA : ClassId} {ad : Nat → Nat} {tL tC : Nat}
set_option maxHeartbeats 4000000 in
set_option maxRecDepth 100000 in
theorem vb_X8_on_45 (X : Cx D cI cP cB cA 19 ad tL tC p s m c cX8_on 5 args RX8) (hr : meth.sig.returnType = (some .int)) (hlk : meth.locks = false) {res : Int32 × Stt} (kb : Int32 → Int32 → Stt → Option (Int32 × Stt)) (ke : Stt → Option (Int32 × Stt)) (hkb : ∀ (x2 : Int32) (x3 : Int32) (S : Stt) (H : Heap) (locs : List Loc) (ls : Array Slot), kb x2 x3 S = some res → va_P D vwCl (wl 19 ad (cfM ad cI S)) H → va_S (Ar 19 ad) s.heap H locs → lv_has ls 5 [(0, .ref (ad 0)), (2, .int x2), (3, .int x3)] → W p l e (rmD 2) s m args below meth c H locs 0 0 (MQ below (QI D 19 ad res.1 (cfM ad cI res.2)) args s 0 0 (Ar 19 ad)) (F0 m 45 ls [])) (hke : ∀ (S : Stt) (H : Heap) (locs : List Loc) (ls : Array Slot), ke S = some res → va_P D vwCl (wl 19 ad (cfM ad cI S)) H → va_S (Ar 19 ad) s.heap H locs → lv_has ls 5 [(0, .ref (ad 0))] → W p l e (rmD 2) s m args below meth c H locs 0 0 (MQ below (QI D 19 ad res.1 (cfM ad cI res.2)) args s 0 0 (Ar 19 ad)) (F0 m 157 ls [])) : ∀ (x2 : Int32) (x3 : Int32) (S : Stt) (H : Heap) (locs : List Loc) (ls : Array Slot), fb_X8_on_45 kb ke x2 x3 S = some res → va_P D vwCl (wl 19 ad (cfM ad cI S)) H → va_S (Ar 19 ad) s.heap H locs → lv_has ls 5 [(0, .ref (ad 0)), (2, .int x2), (3, .int x3)] → W p l e (rmD 2) s m args below meth c H locs 0 0 (MQ below (QI D 19 ad res.1 (cfM ad cI res.2)) args s 0 0 (Ar 19 ad)) (F0 m 45 ls []) := by
  intro x2 x3 S H locs ls hf hP hS hl
  have hx := X.1.1
  have hb := X.1.2.1
  unfold fb_X8_on_45 at hf
  refine lv_iload_n hx hb dX8_on_45 rfl (lv_at hl 2 rfl) ?_
  refine lv_aload_n hx hb dX8_on_46 rfl (lv_at hl 0 rfl) ?_
  refine g_M_many X hP  tw_86 dX8_on_47 ?_
  refine lv_icmp_ge (tgt := 157) hx hb dX8_on_50 (by decide) (fun c7 => ?_) (fun c7 => ?_)
  · rw [if_pos c7] at hf
    exact hke  _ _ _ ls hf  hP hS (lv_sub hl [0] rfl)
  · rw [if_neg c7] at hf
    refine lv_iload_n hx hb dX8_on_53 rfl (lv_at hl 1 rfl) ?_
    refine lv_iconst (v := (1 : Int32)) hx hb dX8_on_54 (by decide) ?_
    refine lv_iadd hx hb dX8_on_55 ?_
    refine lv_bipush (v := (6 : Int32)) hx hb dX8_on_56 (by decide) ?_
    refine lv_iload_n hx hb dX8_on_58 rfl (lv_at hl 2 rfl) ?_
    refine lv_imul hx hb dX8_on_59 ?_
    refine lv_iadd hx hb dX8_on_60 ?_
    refine lv_istore (lv' := [(4, .int ((x2 + (1 : Int32)) + ((6 : Int32) * x3))), (0, .ref (ad 0)), (2, .int x2), (3, .int x3)]) hx hb dX8_on_61 hl (by decide) rfl (fun ls hl => ?_)
    refine lv_aload_n hx hb dX8_on_63 rfl (lv_at hl 1 rfl) ?_
    refine g_M_kinds X hP  tw_87 dX8_on_64 ?_
    refine lv_iload_n hx hb dX8_on_67 rfl (lv_at hl 3 rfl) ?_
    refine lv_aload_n hx hb dX8_on_68 rfl (lv_at hl 1 rfl) ?_
    refine g_M_kept X hP  tw_97 dX8_on_69 ?_
    refine lv_iload hx hb dX8_on_72 (lv_at hl 0 rfl) ?_
    obtain ⟨g8, hf⟩ := grd_some hf
    refine r_m_kept X hP  g8 dX8_on_74 ?_
    obtain ⟨g9, hf⟩ := grd_some hf
    refine w_m_kinds X hP hS  g9 dX8_on_75 (fun H locs hP hS => ?_)
    refine lv_aload_n hx hb dX8_on_76 rfl (lv_at hl 1 rfl) ?_
    refine g_M_verdicts X hP  tw_88 dX8_on_77 ?_
    refine lv_iload_n hx hb dX8_on_80 rfl (lv_at hl 3 rfl) ?_
    refine lv_aload_n hx hb dX8_on_81 rfl (lv_at hl 1 rfl) ?_
    refine g_M_kept X hP  tw_97 dX8_on_82 ?_
    refine lv_iload hx hb dX8_on_85 (lv_at hl 0 rfl) ?_
    refine lv_iconst (v := (1 : Int32)) hx hb dX8_on_87 (by decide) ?_
    refine lv_iadd hx hb dX8_on_88 ?_
    obtain ⟨g10, hf⟩ := grd_some hf
    refine r_m_kept X hP  g10 dX8_on_89 ?_
    obtain ⟨g11, hf⟩ := grd_some hf
    refine w_m_verdicts X hP hS  g11 dX8_on_90 (fun H locs hP hS => ?_)
    refine lv_aload_n hx hb dX8_on_91 rfl (lv_at hl 1 rfl) ?_
    refine g_M_words X hP  tw_89 dX8_on_92 ?_
    refine lv_iload_n hx hb dX8_on_95 rfl (lv_at hl 3 rfl) ?_
    refine lv_aload_n hx hb dX8_on_96 rfl (lv_at hl 1 rfl) ?_
    refine g_M_kept X hP  tw_97 dX8_on_97 ?_
    refine lv_iload hx hb dX8_on_100 (lv_at hl 0 rfl) ?_
    refine lv_iconst (v := (2 : Int32)) hx hb dX8_on_102 (by decide) ?_
    refine lv_iadd hx hb dX8_on_103 ?_
    obtain ⟨g12, hf⟩ := grd_some hf
    refine r_m_kept X hP  g12 dX8_on_104 ?_
    obtain ⟨g13, hf⟩ := grd_some hf
    refine w_m_words X hP hS  g13 dX8_on_105 (fun H locs hP hS => ?_)
    refine lv_aload_n hx hb dX8_on_106 rfl (lv_at hl 1 rfl) ?_
    refine g_M_points X hP  tw_90 dX8_on_107 ?_
    refine lv_iload_n hx hb dX8_on_110 rfl (lv_at hl 3 rfl) ?_
    refine lv_aload_n hx hb dX8_on_111 rfl (lv_at hl 1 rfl) ?_
    refine g_M_kept X hP  tw_97 dX8_on_112 ?_
    refine lv_iload hx hb dX8_on_115 (lv_at hl 0 rfl) ?_
    refine lv_iconst (v := (3 : Int32)) hx hb dX8_on_117 (by decide) ?_
    refine lv_iadd hx hb dX8_on_118 ?_
    obtain ⟨g14, hf⟩ := grd_some hf
    refine r_m_kept X hP  g14 dX8_on_119 ?_
    obtain ⟨g15, hf⟩ := grd_some hf
    refine w_m_points X hP hS  g15 dX8_on_120 (fun H locs hP hS => ?_)
    refine lv_aload_n hx hb dX8_on_121 rfl (lv_at hl 1 rfl) ?_
    refine g_M_facts X hP  tw_91 dX8_on_122 ?_
    refine lv_iload_n hx hb dX8_on_125 rfl (lv_at hl 3 rfl) ?_
    refine lv_aload_n hx hb dX8_on_126 rfl (lv_at hl 1 rfl) ?_
    refine g_M_kept X hP  tw_97 dX8_on_127 ?_
    refine lv_iload hx hb dX8_on_130 (lv_at hl 0 rfl) ?_
    refine lv_iconst (v := (4 : Int32)) hx hb dX8_on_132 (by decide) ?_
    refine lv_iadd hx hb dX8_on_133 ?_
    obtain ⟨g16, hf⟩ := grd_some hf
    refine r_m_kept X hP  g16 dX8_on_134 ?_
    obtain ⟨g17, hf⟩ := grd_some hf
    refine w_m_facts X hP hS  g17 dX8_on_135 (fun H locs hP hS => ?_)
    refine lv_aload_n hx hb dX8_on_136 rfl (lv_at hl 1 rfl) ?_
    refine g_M_days X hP  tw_92 dX8_on_137 ?_
    refine lv_iload_n hx hb dX8_on_140 rfl (lv_at hl 3 rfl) ?_
    refine lv_aload_n hx hb dX8_on_141 rfl (lv_at hl 1 rfl) ?_
    refine g_M_kept X hP  tw_97 dX8_on_142 ?_
    refine lv_iload hx hb dX8_on_145 (lv_at hl 0 rfl) ?_
    refine lv_iconst (v := (5 : Int32)) hx hb dX8_on_147 (by decide) ?_
    refine lv_iadd hx hb dX8_on_148 ?_
    obtain ⟨g18, hf⟩ := grd_some hf
    refine r_m_kept X hP  g18 dX8_on_149 ?_
    obtain ⟨g19, hf⟩ := grd_some hf
    refine w_m_days X hP hS  g19 dX8_on_150 (fun H locs hP hS => ?_)
    refine lv_iinc (v := (x3 + (1 : Int32))) (lv' := [(3, .int (x3 + (1 : Int32))), (4, .int ((x2 + (1 : Int32)) + ((6 : Int32) * x3))), (0, .ref (ad 0)), (2, .int x2)]) hx hb dX8_on_151 hl (k := 3) rfl rfl (by decide) rfl (fun ls hl => ?_)
    refine lv_goto (tgt := 45) hx hb dX8_on_154 (by decide) ?_
    exact hkb _ _ _ _ _ ls hf  hP hS (lv_sub hl [2, 3, 0] rfl)
set_option maxHeartbeats 4000000 in
set_option maxRecDepth 100000 in
theorem vl_X8_on_45 (X : Cx D cI cP cB cA 19 ad tL tC p s m c cX8_on 5 args RX8) (hr : meth.sig.returnType = (some .int)) (hlk : meth.locks = false) {res : Int32 × Stt} (ke : Stt → Option (Int32 × Stt)) (hke : ∀ (S : Stt) (H : Heap) (locs : List Loc) (ls : Array Slot), ke S = some res → va_P D vwCl (wl 19 ad (cfM ad cI S)) H → va_S (Ar 19 ad) s.heap H locs → lv_has ls 5 [(0, .ref (ad 0))] → W p l e (rmD 2) s m args below meth c H locs 0 0 (MQ below (QI D 19 ad res.1 (cfM ad cI res.2)) args s 0 0 (Ar 19 ad)) (F0 m 157 ls [])) : ∀ (n : Nat), ∀ (x2 : Int32) (x3 : Int32) (S : Stt) (H : Heap) (locs : List Loc) (ls : Array Slot), fl_X8_on_45 ke n x2 x3 S = some res → va_P D vwCl (wl 19 ad (cfM ad cI S)) H → va_S (Ar 19 ad) s.heap H locs → lv_has ls 5 [(0, .ref (ad 0)), (2, .int x2), (3, .int x3)] → W p l e (rmD 2) s m args below meth c H locs 0 0 (MQ below (QI D 19 ad res.1 (cfM ad cI res.2)) args s 0 0 (Ar 19 ad)) (F0 m 45 ls []) := by
  intro n
  induction n with
  | zero =>
    intro x2 x3 S H locs ls hf hP hS hl
    cases hf
  | succ n ih =>
    intro x2 x3 S H locs ls hf hP hS hl
    exact vb_X8_on_45 X hr hlk _ ke ih hke x2 x3 S H locs ls hf  hP hS hl
end
set_option maxHeartbeats 4000000 in
set_option maxRecDepth 100000 in
theorem m_X8_on {l : Launch} {D : va_G} {cI cP cB cA : ClassId} {ad : Nat → Nat} {tL tC : Nat} {x1 : Int32} {S : Stt} {res : Int32 × Stt} (hf : f_X8_on x1 S = some res) : Ct l D cI cP cB cA 19 ad tL tC yX8_on cX8_on 5 (some .int) 2 [.ref (ad 0), .int x1] (cfM ad cI S) (QI D 19 ad res.1 (cfM ad cI res.2)) := by
  refine ctOf (by decide) (Nat.le_of_ble_eq_true rfl) ?_
  intro p e s m args below meth c ls X hr hlk hP hl
  have hS : va_S (Ar 19 ad) s.heap s.heap [] := va_S.rf
  have hx := X.1.1
  have hb := X.1.2.1
  have hl : lv_has ls 5 [(0, .ref (ad 0)), (1, .int x1)] := hl
  unfold f_X8_on at hf
  refine lv_iload_n hx hb dX8_on_0 rfl (lv_at hl 1 rfl) ?_
  refine lv_iconst (v := (0 : Int32)) hx hb dX8_on_1 (by decide) ?_
  refine lv_iconst (v := (2 : Int32)) hx hb dX8_on_2 (by decide) ?_
  obtain ⟨q1, e2, hf⟩ := bind_some hf
  refine aftI hS (cS (rest := []) X hP hS [.int x1, .int (0 : Int32), .int (2 : Int32)] (m_X8_in  e2) cw_X8_in tw_288 tw_546 (fits9 (by first | decide | omega) (by decide)) rfl rfl hl.1 (Nat.le_of_ble_eq_true rfl) dX8_on_3 ⟨Nat.zero_le _, Nat.zero_le _⟩) (fun H locs hP hS => ?_)
  refine lv_if_ne (tgt := 11) hx hb dX8_on_6 (by decide) (fun c3 => ?_) (fun c3 => ?_)
  · rw [if_neg c3] at hf
    refine lv_bipush (v := (38 : Int32)) hx hb dX8_on_11 (by decide) ?_
    refine lv_iload_n hx hb dX8_on_13 rfl (lv_at hl 1 rfl) ?_
    refine lv_imul hx hb dX8_on_14 ?_
    refine lv_istore_n (lv' := [(2, .int ((38 : Int32) * x1)), (0, .ref (ad 0)), (1, .int x1)]) hx hb dX8_on_15 rfl hl (by decide) rfl (fun ls hl => ?_)
    refine lv_aload_n hx hb dX8_on_16 rfl (lv_at hl 1 rfl) ?_
    refine g_M_kept X hP  tw_97 dX8_on_17 ?_
    refine lv_iload_n hx hb dX8_on_20 rfl (lv_at hl 0 rfl) ?_
    obtain ⟨g4, hf⟩ := grd_some hf
    refine r_m_kept X hP  g4 dX8_on_21 ?_
    refine lv_bipush (v := (-9 : Int32)) hx hb dX8_on_22 (by decide) ?_
    refine lv_icmp_ne (tgt := 33) hx hb dX8_on_24 (by decide) (fun c5 => ?_) (fun c5 => ?_)
    · rw [if_neg c5] at hf
      refine lv_aload_n hx hb dX8_on_33 rfl (lv_at hl 1 rfl) ?_
      refine lv_aload_n hx hb dX8_on_34 rfl (lv_at hl 1 rfl) ?_
      refine g_M_kept X hP  tw_97 dX8_on_35 ?_
      refine lv_iload_n hx hb dX8_on_38 rfl (lv_at hl 0 rfl) ?_
      obtain ⟨g6, hf⟩ := grd_some hf
      refine r_m_kept X hP  g6 dX8_on_39 ?_
      refine p_M_many X hP hS  tw_86 dX8_on_40 (fun H locs hP hS => ?_)
      refine lv_iconst (v := (0 : Int32)) hx hb dX8_on_43 (by decide) ?_
      refine lv_istore_n (lv' := [(3, .int (0 : Int32)), (2, .int ((38 : Int32) * x1)), (0, .ref (ad 0)), (1, .int x1)]) hx hb dX8_on_44 rfl hl (by decide) rfl (fun ls hl => ?_)
      refine vl_X8_on_45 X hr hlk _ ?_ 300 _ _ _ _ _ ls hf  hP hS (lv_sub hl [2, 1, 0] rfl)
      intro S H locs ls hf hP hS hl
      refine lv_aload_n hx hb dX8_on_157 rfl (lv_at hl 0 rfl) ?_
      refine g_M_many X hP  tw_86 dX8_on_158 ?_
      cases hf
      exact rtI X hr hlk hP hS dX8_on_161
    · rw [if_pos c5] at hf
      refine lv_aload_n hx hb dX8_on_27 rfl (lv_at hl 1 rfl) ?_
      refine lv_iconst (v := (1 : Int32)) hx hb dX8_on_28 (by decide) ?_
      obtain ⟨q20, e21, hf⟩ := bind_some hf
      refine aftI hS (cV (rest := []) X hP hS [.int (1 : Int32)] (m_X8_meet  e21) cw_X8_meet tw_289 tw_547 tw_762 (by decide) (cf_M ) rfl (fits9 (by first | decide | omega) (by decide)) rfl rfl hl.1 (Nat.le_of_ble_eq_true rfl) dX8_on_29 ⟨Nat.zero_le _, Nat.zero_le _⟩) (fun H locs hP hS => ?_)
      cases hf
      exact rtI X hr hlk hP hS dX8_on_32
  · rw [if_pos c3] at hf
    refine lv_iconst (v := (-1 : Int32)) hx hb dX8_on_9 (by decide) ?_
    cases hf
    exact rtI X hr hlk hP hS dX8_on_10
/-! X8_readsWords -/
section
variable {p : Program} {l : Launch} {e : Env} {s : State} {m : MethodId} {args : Array Value} {below : List Frame} {meth : Method} {c : Code}
variable {D : va_G} {cI cP cB cA : ClassId} {ad : Nat → Nat} {tL tC : Nat}
set_option maxHeartbeats 4000000 in
set_option maxRecDepth 100000 in
theorem vb_X8_readsWords_2 (X : Cx D cI cP cB cA 19 ad tL tC p s m c cX8_readsWords 4 args RX8) (hr : meth.sig.returnType = (some .int)) (hlk : meth.locks = false) {res : Int32 × Stt} (kb : Int32 → Int32 → Stt → Option (Int32 × Stt)) (ke : Int32 → Stt → Option (Int32 × Stt)) (hkb : ∀ (x1 : Int32) (x2 : Int32) (S : Stt) (H : Heap) (locs : List Loc) (ls : Array Slot), kb x1 x2 S = some res → va_P D vwCl (wl 19 ad (cfM ad cI S)) H → va_S (Ar 19 ad) s.heap H locs → lv_has ls 4 [(0, .ref (ad 0)), (1, .int x1), (2, .int x2)] → W p l e (rmD 2) s m args below meth c H locs 0 0 (MQ below (QI D 19 ad res.1 (cfM ad cI res.2)) args s 0 0 (Ar 19 ad)) (F0 m 2 ls [])) (hke : ∀ (x2 : Int32) (S : Stt) (H : Heap) (locs : List Loc) (ls : Array Slot), ke x2 S = some res → va_P D vwCl (wl 19 ad (cfM ad cI S)) H → va_S (Ar 19 ad) s.heap H locs → lv_has ls 4 [(2, .int x2)] → W p l e (rmD 2) s m args below meth c H locs 0 0 (MQ below (QI D 19 ad res.1 (cfM ad cI res.2)) args s 0 0 (Ar 19 ad)) (F0 m 60 ls [])) : ∀ (x1 : Int32) (x2 : Int32) (S : Stt) (H : Heap) (locs : List Loc) (ls : Array Slot), fb_X8_readsWords_2 kb ke x1 x2 S = some res → va_P D vwCl (wl 19 ad (cfM ad cI S)) H → va_S (Ar 19 ad) s.heap H locs → lv_has ls 4 [(0, .ref (ad 0)), (1, .int x1), (2, .int x2)] → W p l e (rmD 2) s m args below meth c H locs 0 0 (MQ below (QI D 19 ad res.1 (cfM ad cI res.2)) args s 0 0 (Ar 19 ad)) (F0 m 2 ls []) := by
  intro x1 x2 S H locs ls hf hP hS hl
  have hx := X.1.1
  have hb := X.1.2.1
  unfold fb_X8_readsWords_2 at hf
  refine lv_aload_n hx hb dX8_readsWords_2 rfl (lv_at hl 0 rfl) ?_
  refine lv_iload_n hx hb dX8_readsWords_3 rfl (lv_at hl 1 rfl) ?_
  obtain ⟨q1, e2, hf⟩ := bind_some hf
  refine aftI hS (cV (rest := []) X hP hS [.int x1] (m_X8_here  e2) cw_X8_here tw_306 tw_563 tw_776 (by decide) (cf_M ) rfl (fits9 (by first | decide | omega) (by decide)) rfl rfl hl.1 (Nat.le_of_ble_eq_true rfl) dX8_readsWords_4 ⟨Nat.zero_le _, Nat.zero_le _⟩) (fun H locs hP hS => ?_)
  refine lv_bipush (v := (48 : Int32)) hx hb dX8_readsWords_7 (by decide) ?_
  refine lv_bipush (v := (57 : Int32)) hx hb dX8_readsWords_9 (by decide) ?_
  obtain ⟨q3, e4, hf⟩ := bind_some hf
  refine aftI hS (cS (rest := []) X hP hS [.int q1.1, .int (48 : Int32), .int (57 : Int32)] (m_X8_in  e4) cw_X8_in tw_288 tw_546 (fits9 (by first | decide | omega) (by decide)) rfl rfl hl.1 (Nat.le_of_ble_eq_true rfl) dX8_readsWords_11 ⟨Nat.zero_le _, Nat.zero_le _⟩) (fun H locs hP hS => ?_)
  refine lv_if_eq (tgt := 60) hx hb dX8_readsWords_14 (by decide) (fun c5 => ?_) (fun c5 => ?_)
  · rw [if_pos c5] at hf
    exact hke _ _ _ _ ls hf  hP hS (lv_sub hl [2] rfl)
  · rw [if_neg c5] at hf
    refine lv_aload_n hx hb dX8_readsWords_17 rfl (lv_at hl 0 rfl) ?_
    refine lv_iload_n hx hb dX8_readsWords_18 rfl (lv_at hl 1 rfl) ?_
    obtain ⟨q6, e7, hf⟩ := bind_some hf
    refine aftI hS (cV (rest := []) X hP hS [.int x1] (m_X8_here  e7) cw_X8_here tw_306 tw_563 tw_776 (by decide) (cf_M ) rfl (fits9 (by first | decide | omega) (by decide)) rfl rfl hl.1 (Nat.le_of_ble_eq_true rfl) dX8_readsWords_19 ⟨Nat.zero_le _, Nat.zero_le _⟩) (fun H locs hP hS => ?_)
    refine lv_bipush (v := (48 : Int32)) hx hb dX8_readsWords_22 (by decide) ?_
    refine lv_isub hx hb dX8_readsWords_24 ?_
    refine lv_istore_n (lv' := [(3, .int (q6.1 - (48 : Int32))), (0, .ref (ad 0)), (1, .int x1), (2, .int x2)]) hx hb dX8_readsWords_25 rfl hl (by decide) rfl (fun ls hl => ?_)
    refine lv_iload_n hx hb dX8_readsWords_26 rfl (lv_at hl 0 rfl) ?_
    refine lv_bipush (v := (6 : Int32)) hx hb dX8_readsWords_27 (by decide) ?_
    refine lv_icmp_gt (tgt := 38) hx hb dX8_readsWords_29 (by decide) (fun c8 => ?_) (fun c8 => ?_)
    · rw [if_pos c8] at hf
      refine lv_bipush (v := (-9 : Int32)) hx hb dX8_readsWords_38 (by decide) ?_
      cases hf
      exact rtI X hr hlk hP hS dX8_readsWords_40
    · rw [if_neg c8] at hf
      refine lv_iload_n hx hb dX8_readsWords_32 rfl (lv_at hl 3 rfl) ?_
      refine lv_iload_n hx hb dX8_readsWords_33 rfl (lv_at hl 0 rfl) ?_
      refine lv_ishr hx hb dX8_readsWords_34 ?_
      refine lv_if_eq (tgt := 41) hx hb dX8_readsWords_35 (by decide) (fun c9 => ?_) (fun c9 => ?_)
      · rw [if_pos c9] at hf
        refine lv_iload_n hx hb dX8_readsWords_41 rfl (lv_at hl 3 rfl) ?_
        refine lv_iconst (v := (1 : Int32)) hx hb dX8_readsWords_42 (by decide) ?_
        refine lv_iload_n hx hb dX8_readsWords_43 rfl (lv_at hl 0 rfl) ?_
        refine lv_ishl hx hb dX8_readsWords_44 ?_
        refine lv_ior hx hb dX8_readsWords_45 ?_
        refine lv_istore_n (lv' := [(2, .int (x2 ||| ((1 : Int32) <<< ((q6.1 - (48 : Int32)) &&& 31)))), (3, .int (q6.1 - (48 : Int32))), (0, .ref (ad 0)), (1, .int x1)]) hx hb dX8_readsWords_46 rfl hl (by decide) rfl (fun ls hl => ?_)
        refine lv_aload_n hx hb dX8_readsWords_47 rfl (lv_at hl 2 rfl) ?_
        refine lv_dup hx hb dX8_readsWords_48 rfl ?_
        refine g_M_readAt X hP  tw_93 dX8_readsWords_49 ?_
        refine lv_iconst (v := (1 : Int32)) hx hb dX8_readsWords_52 (by decide) ?_
        refine lv_iadd hx hb dX8_readsWords_53 ?_
        refine p_M_readAt X hP hS  tw_93 dX8_readsWords_54 (fun H locs hP hS => ?_)
        refine lv_goto (tgt := 2) hx hb dX8_readsWords_57 (by decide) ?_
        exact hkb _ _ _ _ _ ls hf  hP hS (lv_sub hl [2, 3, 0] rfl)
      · rw [if_neg c9] at hf
        refine lv_bipush (v := (-9 : Int32)) hx hb dX8_readsWords_38 (by decide) ?_
        cases hf
        exact rtI X hr hlk hP hS dX8_readsWords_40
set_option maxHeartbeats 4000000 in
set_option maxRecDepth 100000 in
theorem vl_X8_readsWords_2 (X : Cx D cI cP cB cA 19 ad tL tC p s m c cX8_readsWords 4 args RX8) (hr : meth.sig.returnType = (some .int)) (hlk : meth.locks = false) {res : Int32 × Stt} (ke : Int32 → Stt → Option (Int32 × Stt)) (hke : ∀ (x2 : Int32) (S : Stt) (H : Heap) (locs : List Loc) (ls : Array Slot), ke x2 S = some res → va_P D vwCl (wl 19 ad (cfM ad cI S)) H → va_S (Ar 19 ad) s.heap H locs → lv_has ls 4 [(2, .int x2)] → W p l e (rmD 2) s m args below meth c H locs 0 0 (MQ below (QI D 19 ad res.1 (cfM ad cI res.2)) args s 0 0 (Ar 19 ad)) (F0 m 60 ls [])) : ∀ (n : Nat), ∀ (x1 : Int32) (x2 : Int32) (S : Stt) (H : Heap) (locs : List Loc) (ls : Array Slot), fl_X8_readsWords_2 ke n x1 x2 S = some res → va_P D vwCl (wl 19 ad (cfM ad cI S)) H → va_S (Ar 19 ad) s.heap H locs → lv_has ls 4 [(0, .ref (ad 0)), (1, .int x1), (2, .int x2)] → W p l e (rmD 2) s m args below meth c H locs 0 0 (MQ below (QI D 19 ad res.1 (cfM ad cI res.2)) args s 0 0 (Ar 19 ad)) (F0 m 2 ls []) := by
  intro n
  induction n with
  | zero =>
    intro x1 x2 S H locs ls hf hP hS hl
    cases hf
  | succ n ih =>
    intro x1 x2 S H locs ls hf hP hS hl
    exact vb_X8_readsWords_2 X hr hlk _ ke ih hke x1 x2 S H locs ls hf  hP hS hl
end
set_option maxHeartbeats 4000000 in
set_option maxRecDepth 100000 in
theorem m_X8_readsWords {l : Launch} {D : va_G} {cI cP cB cA : ClassId} {ad : Nat → Nat} {tL tC : Nat} {x1 : Int32} {S : Stt} {res : Int32 × Stt} (hf : f_X8_readsWords x1 S = some res) : Ct l D cI cP cB cA 19 ad tL tC yX8_readsWords cX8_readsWords 4 (some .int) 2 [.ref (ad 0), .int x1] (cfM ad cI S) (QI D 19 ad res.1 (cfM ad cI res.2)) := by
  refine ctOf (by decide) (Nat.le_of_ble_eq_true rfl) ?_
  intro p e s m args below meth c ls X hr hlk hP hl
  have hS : va_S (Ar 19 ad) s.heap s.heap [] := va_S.rf
  have hx := X.1.1
  have hb := X.1.2.1
  have hl : lv_has ls 4 [(0, .ref (ad 0)), (1, .int x1)] := hl
  unfold f_X8_readsWords at hf
  refine lv_iconst (v := (0 : Int32)) hx hb dX8_readsWords_0 (by decide) ?_
  refine lv_istore_n (lv' := [(2, .int (0 : Int32)), (0, .ref (ad 0)), (1, .int x1)]) hx hb dX8_readsWords_1 rfl hl (by decide) rfl (fun ls hl => ?_)
  refine vl_X8_readsWords_2 X hr hlk _ ?_ 300 _ _ _ _ _ ls hf  hP hS (lv_sub hl [1, 2, 0] rfl)
  intro x2 S H locs ls hf hP hS hl
  refine lv_iload_n hx hb dX8_readsWords_60 rfl (lv_at hl 0 rfl) ?_
  cases hf
  exact rtI X hr hlk hP hS dX8_readsWords_61
/-! X8_soOf -/
section
variable {p : Program} {l : Launch} {e : Env} {s : State} {m : MethodId} {args : Array Value} {below : List Frame} {meth : Method} {c : Code}
variable {D : va_G} {cI cP cB cA : ClassId} {ad : Nat → Nat} {tL tC : Nat}
set_option maxHeartbeats 4000000 in
set_option maxRecDepth 100000 in
theorem vj_X8_soOf_15 (X : Cx D cI cP cB cA 19 ad tL tC p s m c cX8_soOf 3 args RX8) (hr : meth.sig.returnType = (some .int)) (hlk : meth.locks = false) {res : Int32 × Stt} : ∀ (x0 : Int32) (x2 : Int32) (xt0 : Int32) (xt1 : Int32) (S : Stt) (H : Heap) (locs : List Loc) (ls : Array Slot), fj_X8_soOf_15 x0 x2 xt0 xt1 S = some res → va_P D vwCl (wl 19 ad (cfM ad cI S)) H → va_S (Ar 19 ad) s.heap H locs → lv_has ls 3 [(0, .int x0), (2, .int x2)] → W p l e (rmD 2) s m args below meth c H locs 0 0 (MQ below (QI D 19 ad res.1 (cfM ad cI res.2)) args s 0 0 (Ar 19 ad)) (F0 m 15 ls [.int xt1, .int xt0]) := by
  intro x0 x2 xt0 xt1 S H locs ls hf hP hS hl
  have hx := X.1.1
  have hb := X.1.2.1
  unfold fj_X8_soOf_15 at hf
  refine lv_ior hx hb dX8_soOf_15 ?_
  refine lv_iload_n hx hb dX8_soOf_16 rfl (lv_at hl 0 rfl) ?_
  refine lv_iload_n hx hb dX8_soOf_17 rfl (lv_at hl 1 rfl) ?_
  obtain ⟨q4, e5, hf⟩ := bind_some hf
  refine aftI hS (cS (rest := [.int (xt0 ||| xt1)]) X hP hS [.int x0, .int x2] (m_X8_has  e5) cw_X8_has tw_333 tw_590 (fits9 (by first | decide | omega) (by decide)) rfl rfl hl.1 (Nat.le_of_ble_eq_true rfl) dX8_soOf_18 ⟨Nat.zero_le _, Nat.zero_le _⟩) (fun H locs hP hS => ?_)
  refine lv_if_eq (tgt := 29) hx hb dX8_soOf_21 (by decide) (fun c6 => ?_) (fun c6 => ?_)
  · rw [if_pos c6] at hf
    refine lv_iconst (v := (0 : Int32)) hx hb dX8_soOf_29 (by decide) ?_
    refine lv_ior hx hb dX8_soOf_30 ?_
    cases hf
    exact rtI X hr hlk hP hS dX8_soOf_31
  · rw [if_neg c6] at hf
    refine lv_bipush (v := (64 : Int32)) hx hb dX8_soOf_24 (by decide) ?_
    refine lv_goto (tgt := 30) hx hb dX8_soOf_26 (by decide) ?_
    refine lv_ior hx hb dX8_soOf_30 ?_
    cases hf
    exact rtI X hr hlk hP hS dX8_soOf_31
end
set_option maxHeartbeats 4000000 in
set_option maxRecDepth 100000 in
theorem m_X8_soOf {l : Launch} {D : va_G} {cI cP cB cA : ClassId} {ad : Nat → Nat} {tL tC : Nat} {x0 : Int32} {x1 : Int32} {x2 : Int32} {S : Stt} {res : Int32 × Stt} (hf : f_X8_soOf x0 x1 x2 S = some res) : Ct l D cI cP cB cA 19 ad tL tC yX8_soOf cX8_soOf 3 (some .int) 2 [.int x0, .int x1, .int x2] (cfM ad cI S) (QI D 19 ad res.1 (cfM ad cI res.2)) := by
  refine ctOf (by decide) (Nat.le_of_ble_eq_true rfl) ?_
  intro p e s m args below meth c ls X hr hlk hP hl
  have hS : va_S (Ar 19 ad) s.heap s.heap [] := va_S.rf
  have hx := X.1.1
  have hb := X.1.2.1
  have hl : lv_has ls 3 [(0, .int x0), (1, .int x1), (2, .int x2)] := hl
  unfold f_X8_soOf at hf
  refine lv_iload_n hx hb dX8_soOf_0 rfl (lv_at hl 0 rfl) ?_
  refine lv_iload_n hx hb dX8_soOf_1 rfl (lv_at hl 0 rfl) ?_
  refine lv_iload_n hx hb dX8_soOf_2 rfl (lv_at hl 1 rfl) ?_
  obtain ⟨q1, e2, hf⟩ := bind_some hf
  refine aftI hS (cS (rest := [.int x0]) X hP hS [.int x0, .int x1] (m_X8_has  e2) cw_X8_has tw_333 tw_590 (fits9 (by first | decide | omega) (by decide)) rfl rfl hl.1 (Nat.le_of_ble_eq_true rfl) dX8_soOf_3 ⟨Nat.zero_le _, Nat.zero_le _⟩) (fun H locs hP hS => ?_)
  refine lv_if_eq (tgt := 14) hx hb dX8_soOf_6 (by decide) (fun c3 => ?_) (fun c3 => ?_)
  · rw [if_pos c3] at hf
    refine lv_iconst (v := (0 : Int32)) hx hb dX8_soOf_14 (by decide) ?_
    exact vj_X8_soOf_15 X hr hlk _ _ _ _ _ _ _ ls hf  hP hS (lv_sub hl [0, 2] rfl)
  · rw [if_neg c3] at hf
    refine lv_bipush (v := (32 : Int32)) hx hb dX8_soOf_9 (by decide) ?_
    refine lv_goto (tgt := 15) hx hb dX8_soOf_11 (by decide) ?_
    exact vj_X8_soOf_15 X hr hlk _ _ _ _ _ _ _ ls hf  hP hS (lv_sub hl [0, 2] rfl)
/-! X8_tells -/
section
variable {p : Program} {l : Launch} {e : Env} {s : State} {m : MethodId} {args : Array Value} {below : List Frame} {meth : Method} {c : Code}
variable {D : va_G} {cI cP cB cA : ClassId} {ad : Nat → Nat} {tL tC : Nat}
set_option maxHeartbeats 4000000 in
set_option maxRecDepth 100000 in
theorem vj_X8_tells_123_4 (X : Cx D cI cP cB cA 19 ad tL tC p s m c cX8_tells 5 args RX8) (hr : meth.sig.returnType = (some .int)) (hlk : meth.locks = false) {res : Int32 × Stt} (kb : Int32 → Int32 → Int32 → Stt → Option (Int32 × Stt)) (ke : Int32 → Int32 → Stt → Option (Int32 × Stt)) (hkb : ∀ (x1 : Int32) (x2 : Int32) (x3 : Int32) (S : Stt) (H : Heap) (locs : List Loc) (ls : Array Slot), kb x1 x2 x3 S = some res → va_P D vwCl (wl 19 ad (cfM ad cI S)) H → va_S (Ar 19 ad) s.heap H locs → lv_has ls 5 [(0, .ref (ad 0)), (1, .int x1), (2, .int x2), (3, .int x3)] → W p l e (rmD 2) s m args below meth c H locs 0 0 (MQ below (QI D 19 ad res.1 (cfM ad cI res.2)) args s 0 0 (Ar 19 ad)) (F0 m 4 ls [])) (hke : ∀ (x1 : Int32) (x2 : Int32) (S : Stt) (H : Heap) (locs : List Loc) (ls : Array Slot), ke x1 x2 S = some res → va_P D vwCl (wl 19 ad (cfM ad cI S)) H → va_S (Ar 19 ad) s.heap H locs → lv_has ls 5 [(0, .ref (ad 0)), (1, .int x1), (2, .int x2)] → W p l e (rmD 2) s m args below meth c H locs 0 0 (MQ below (QI D 19 ad res.1 (cfM ad cI res.2)) args s 0 0 (Ar 19 ad)) (F0 m 161 ls [])) : ∀ (x1 : Int32) (x3 : Int32) (xt0 : Int32) (S : Stt) (H : Heap) (locs : List Loc) (ls : Array Slot), fj_X8_tells_123_4 kb ke x1 x3 xt0 S = some res → va_P D vwCl (wl 19 ad (cfM ad cI S)) H → va_S (Ar 19 ad) s.heap H locs → lv_has ls 5 [(0, .ref (ad 0)), (1, .int x1), (3, .int x3)] → W p l e (rmD 2) s m args below meth c H locs 0 0 (MQ below (QI D 19 ad res.1 (cfM ad cI res.2)) args s 0 0 (Ar 19 ad)) (F0 m 123 ls [.int xt0]) := by
  intro x1 x3 xt0 S H locs ls hf hP hS hl
  have hx := X.1.1
  have hb := X.1.2.1
  unfold fj_X8_tells_123_4 at hf
  refine lv_iload_n hx hb dX8_tells_123 rfl (lv_at hl 1 rfl) ?_
  refine lv_bipush (v := (6 : Int32)) hx hb dX8_tells_124 (by decide) ?_
  refine lv_icmp_ne (tgt := 152) hx hb dX8_tells_126 (by decide) (fun c8 => ?_) (fun c8 => ?_)
  · rw [if_neg c8] at hf
    refine lv_iconst (v := (0 : Int32)) hx hb dX8_tells_152 (by decide) ?_
    refine lv_iadd hx hb dX8_tells_153 ?_
    refine lv_istore_n (lv' := [(2, .int (xt0 + (0 : Int32))), (0, .ref (ad 0)), (1, .int x1), (3, .int x3)]) hx hb dX8_tells_154 rfl hl (by decide) rfl (fun ls hl => ?_)
    refine lv_iinc (v := (x3 + (1 : Int32))) (lv' := [(3, .int (x3 + (1 : Int32))), (2, .int (xt0 + (0 : Int32))), (0, .ref (ad 0)), (1, .int x1)]) hx hb dX8_tells_155 hl (k := 3) rfl rfl (by decide) rfl (fun ls hl => ?_)
    refine lv_goto (tgt := 4) hx hb dX8_tells_158 (by decide) ?_
    exact hkb _ _ _ _ _ _ ls hf  hP hS (lv_sub hl [2, 3, 1, 0] rfl)
  · rw [if_pos c8] at hf
    refine lv_iload_n hx hb dX8_tells_129 rfl (lv_at hl 2 rfl) ?_
    refine lv_iconst (v := (3 : Int32)) hx hb dX8_tells_130 (by decide) ?_
    refine lv_icmp_ge (tgt := 152) hx hb dX8_tells_131 (by decide) (fun c9 => ?_) (fun c9 => ?_)
    · rw [if_pos c9] at hf
      refine lv_iconst (v := (0 : Int32)) hx hb dX8_tells_152 (by decide) ?_
      refine lv_iadd hx hb dX8_tells_153 ?_
      refine lv_istore_n (lv' := [(2, .int (xt0 + (0 : Int32))), (0, .ref (ad 0)), (1, .int x1), (3, .int x3)]) hx hb dX8_tells_154 rfl hl (by decide) rfl (fun ls hl => ?_)
      refine lv_iinc (v := (x3 + (1 : Int32))) (lv' := [(3, .int (x3 + (1 : Int32))), (2, .int (xt0 + (0 : Int32))), (0, .ref (ad 0)), (1, .int x1)]) hx hb dX8_tells_155 hl (k := 3) rfl rfl (by decide) rfl (fun ls hl => ?_)
      refine lv_goto (tgt := 4) hx hb dX8_tells_158 (by decide) ?_
      exact hkb _ _ _ _ _ _ ls hf  hP hS (lv_sub hl [2, 3, 1, 0] rfl)
    · rw [if_neg c9] at hf
      refine lv_aload_n hx hb dX8_tells_134 rfl (lv_at hl 0 rfl) ?_
      refine g_M_kept X hP  tw_97 dX8_tells_135 ?_
      refine lv_bipush (v := (38 : Int32)) hx hb dX8_tells_138 (by decide) ?_
      refine lv_iload_n hx hb dX8_tells_140 rfl (lv_at hl 2 rfl) ?_
      refine lv_imul hx hb dX8_tells_141 ?_
      obtain ⟨g10, hf⟩ := grd_some hf
      refine r_m_kept X hP  g10 dX8_tells_142 ?_
      refine lv_bipush (v := (-9 : Int32)) hx hb dX8_tells_143 (by decide) ?_
      refine lv_icmp_eq (tgt := 152) hx hb dX8_tells_145 (by decide) (fun c11 => ?_) (fun c11 => ?_)
      · rw [if_pos c11] at hf
        refine lv_iconst (v := (0 : Int32)) hx hb dX8_tells_152 (by decide) ?_
        refine lv_iadd hx hb dX8_tells_153 ?_
        refine lv_istore_n (lv' := [(2, .int (xt0 + (0 : Int32))), (0, .ref (ad 0)), (1, .int x1), (3, .int x3)]) hx hb dX8_tells_154 rfl hl (by decide) rfl (fun ls hl => ?_)
        refine lv_iinc (v := (x3 + (1 : Int32))) (lv' := [(3, .int (x3 + (1 : Int32))), (2, .int (xt0 + (0 : Int32))), (0, .ref (ad 0)), (1, .int x1)]) hx hb dX8_tells_155 hl (k := 3) rfl rfl (by decide) rfl (fun ls hl => ?_)
        refine lv_goto (tgt := 4) hx hb dX8_tells_158 (by decide) ?_
        exact hkb _ _ _ _ _ _ ls hf  hP hS (lv_sub hl [2, 3, 1, 0] rfl)
      · rw [if_neg c11] at hf
        refine lv_iconst (v := (1 : Int32)) hx hb dX8_tells_148 (by decide) ?_
        refine lv_goto (tgt := 153) hx hb dX8_tells_149 (by decide) ?_
        refine lv_iadd hx hb dX8_tells_153 ?_
        refine lv_istore_n (lv' := [(2, .int (xt0 + (1 : Int32))), (0, .ref (ad 0)), (1, .int x1), (3, .int x3)]) hx hb dX8_tells_154 rfl hl (by decide) rfl (fun ls hl => ?_)
        refine lv_iinc (v := (x3 + (1 : Int32))) (lv' := [(3, .int (x3 + (1 : Int32))), (2, .int (xt0 + (1 : Int32))), (0, .ref (ad 0)), (1, .int x1)]) hx hb dX8_tells_155 hl (k := 3) rfl rfl (by decide) rfl (fun ls hl => ?_)
        refine lv_goto (tgt := 4) hx hb dX8_tells_158 (by decide) ?_
        exact hkb _ _ _ _ _ _ ls hf  hP hS (lv_sub hl [2, 3, 1, 0] rfl)
set_option maxHeartbeats 4000000 in
set_option maxRecDepth 100000 in
theorem vj_X8_tells_104_4 (X : Cx D cI cP cB cA 19 ad tL tC p s m c cX8_tells 5 args RX8) (hr : meth.sig.returnType = (some .int)) (hlk : meth.locks = false) {res : Int32 × Stt} (kb : Int32 → Int32 → Int32 → Stt → Option (Int32 × Stt)) (ke : Int32 → Int32 → Stt → Option (Int32 × Stt)) (hkb : ∀ (x1 : Int32) (x2 : Int32) (x3 : Int32) (S : Stt) (H : Heap) (locs : List Loc) (ls : Array Slot), kb x1 x2 x3 S = some res → va_P D vwCl (wl 19 ad (cfM ad cI S)) H → va_S (Ar 19 ad) s.heap H locs → lv_has ls 5 [(0, .ref (ad 0)), (1, .int x1), (2, .int x2), (3, .int x3)] → W p l e (rmD 2) s m args below meth c H locs 0 0 (MQ below (QI D 19 ad res.1 (cfM ad cI res.2)) args s 0 0 (Ar 19 ad)) (F0 m 4 ls [])) (hke : ∀ (x1 : Int32) (x2 : Int32) (S : Stt) (H : Heap) (locs : List Loc) (ls : Array Slot), ke x1 x2 S = some res → va_P D vwCl (wl 19 ad (cfM ad cI S)) H → va_S (Ar 19 ad) s.heap H locs → lv_has ls 5 [(0, .ref (ad 0)), (1, .int x1), (2, .int x2)] → W p l e (rmD 2) s m args below meth c H locs 0 0 (MQ below (QI D 19 ad res.1 (cfM ad cI res.2)) args s 0 0 (Ar 19 ad)) (F0 m 161 ls [])) : ∀ (x1 : Int32) (x3 : Int32) (xt0 : Int32) (S : Stt) (H : Heap) (locs : List Loc) (ls : Array Slot), fj_X8_tells_104_4 kb ke x1 x3 xt0 S = some res → va_P D vwCl (wl 19 ad (cfM ad cI S)) H → va_S (Ar 19 ad) s.heap H locs → lv_has ls 5 [(0, .ref (ad 0)), (1, .int x1), (3, .int x3)] → W p l e (rmD 2) s m args below meth c H locs 0 0 (MQ below (QI D 19 ad res.1 (cfM ad cI res.2)) args s 0 0 (Ar 19 ad)) (F0 m 104 ls [.int xt0]) := by
  intro x1 x3 xt0 S H locs ls hf hP hS hl
  have hx := X.1.1
  have hb := X.1.2.1
  unfold fj_X8_tells_104_4 at hf
  refine lv_iload_n hx hb dX8_tells_104 rfl (lv_at hl 1 rfl) ?_
  refine lv_iconst (v := (5 : Int32)) hx hb dX8_tells_105 (by decide) ?_
  refine lv_icmp_ne (tgt := 123) hx hb dX8_tells_106 (by decide) (fun c7 => ?_) (fun c7 => ?_)
  · rw [if_neg c7] at hf
    exact vj_X8_tells_123_4 X hr hlk _ _ hkb hke _ _ _ _ _ _ ls hf  hP hS (lv_sub hl [0, 1, 2] rfl)
  · rw [if_pos c7] at hf
    refine lv_iload_n hx hb dX8_tells_109 rfl (lv_at hl 2 rfl) ?_
    refine lv_iconst (v := (4 : Int32)) hx hb dX8_tells_110 (by decide) ?_
    refine lv_icmp_ge (tgt := 123) hx hb dX8_tells_111 (by decide) (fun c12 => ?_) (fun c12 => ?_)
    · rw [if_pos c12] at hf
      exact vj_X8_tells_123_4 X hr hlk _ _ hkb hke _ _ _ _ _ _ ls hf  hP hS (lv_sub hl [0, 1, 2] rfl)
    · rw [if_neg c12] at hf
      refine lv_aload_n hx hb dX8_tells_114 rfl (lv_at hl 0 rfl) ?_
      refine g_M_lengths X hP  tw_84 dX8_tells_115 ?_
      refine lv_iload_n hx hb dX8_tells_118 rfl (lv_at hl 2 rfl) ?_
      obtain ⟨g13, hf⟩ := grd_some hf
      refine r_m_lengths X hP  g13 dX8_tells_119 ?_
      refine lv_if_ge (tgt := 148) hx hb dX8_tells_120 (by decide) (fun c14 => ?_) (fun c14 => ?_)
      · rw [if_pos c14] at hf
        refine lv_iconst (v := (1 : Int32)) hx hb dX8_tells_148 (by decide) ?_
        refine lv_goto (tgt := 153) hx hb dX8_tells_149 (by decide) ?_
        refine lv_iadd hx hb dX8_tells_153 ?_
        refine lv_istore_n (lv' := [(2, .int (xt0 + (1 : Int32))), (0, .ref (ad 0)), (1, .int x1), (3, .int x3)]) hx hb dX8_tells_154 rfl hl (by decide) rfl (fun ls hl => ?_)
        refine lv_iinc (v := (x3 + (1 : Int32))) (lv' := [(3, .int (x3 + (1 : Int32))), (2, .int (xt0 + (1 : Int32))), (0, .ref (ad 0)), (1, .int x1)]) hx hb dX8_tells_155 hl (k := 3) rfl rfl (by decide) rfl (fun ls hl => ?_)
        refine lv_goto (tgt := 4) hx hb dX8_tells_158 (by decide) ?_
        exact hkb _ _ _ _ _ _ ls hf  hP hS (lv_sub hl [2, 3, 1, 0] rfl)
      · rw [if_neg c14] at hf
        exact vj_X8_tells_123_4 X hr hlk _ _ hkb hke _ _ _ _ _ _ ls hf  hP hS (lv_sub hl [0, 1, 2] rfl)
set_option maxHeartbeats 4000000 in
set_option maxRecDepth 100000 in
theorem vj_X8_tells_82_4 (X : Cx D cI cP cB cA 19 ad tL tC p s m c cX8_tells 5 args RX8) (hr : meth.sig.returnType = (some .int)) (hlk : meth.locks = false) {res : Int32 × Stt} (kb : Int32 → Int32 → Int32 → Stt → Option (Int32 × Stt)) (ke : Int32 → Int32 → Stt → Option (Int32 × Stt)) (hkb : ∀ (x1 : Int32) (x2 : Int32) (x3 : Int32) (S : Stt) (H : Heap) (locs : List Loc) (ls : Array Slot), kb x1 x2 x3 S = some res → va_P D vwCl (wl 19 ad (cfM ad cI S)) H → va_S (Ar 19 ad) s.heap H locs → lv_has ls 5 [(0, .ref (ad 0)), (1, .int x1), (2, .int x2), (3, .int x3)] → W p l e (rmD 2) s m args below meth c H locs 0 0 (MQ below (QI D 19 ad res.1 (cfM ad cI res.2)) args s 0 0 (Ar 19 ad)) (F0 m 4 ls [])) (hke : ∀ (x1 : Int32) (x2 : Int32) (S : Stt) (H : Heap) (locs : List Loc) (ls : Array Slot), ke x1 x2 S = some res → va_P D vwCl (wl 19 ad (cfM ad cI S)) H → va_S (Ar 19 ad) s.heap H locs → lv_has ls 5 [(0, .ref (ad 0)), (1, .int x1), (2, .int x2)] → W p l e (rmD 2) s m args below meth c H locs 0 0 (MQ below (QI D 19 ad res.1 (cfM ad cI res.2)) args s 0 0 (Ar 19 ad)) (F0 m 161 ls [])) : ∀ (x1 : Int32) (x2 : Int32) (x3 : Int32) (xt0 : Int32) (S : Stt) (H : Heap) (locs : List Loc) (ls : Array Slot), fj_X8_tells_82_4 kb ke x1 x2 x3 xt0 S = some res → va_P D vwCl (wl 19 ad (cfM ad cI S)) H → va_S (Ar 19 ad) s.heap H locs → lv_has ls 5 [(0, .ref (ad 0)), (1, .int x1), (2, .int x2), (3, .int x3)] → W p l e (rmD 2) s m args below meth c H locs 0 0 (MQ below (QI D 19 ad res.1 (cfM ad cI res.2)) args s 0 0 (Ar 19 ad)) (F0 m 82 ls [.int xt0]) := by
  intro x1 x2 x3 xt0 S H locs ls hf hP hS hl
  have hx := X.1.1
  have hb := X.1.2.1
  unfold fj_X8_tells_82_4 at hf
  refine lv_istore (lv' := [(4, .int xt0), (0, .ref (ad 0)), (1, .int x1), (2, .int x2), (3, .int x3)]) hx hb dX8_tells_82 hl (by decide) rfl (fun ls hl => ?_)
  refine lv_iload_n hx hb dX8_tells_84 rfl (lv_at hl 3 rfl) ?_
  refine lv_iload hx hb dX8_tells_85 (lv_at hl 0 rfl) ?_
  refine lv_if_ne (tgt := 148) hx hb dX8_tells_87 (by decide) (fun c5 => ?_) (fun c5 => ?_)
  · rw [if_neg c5] at hf
    refine lv_iconst (v := (1 : Int32)) hx hb dX8_tells_148 (by decide) ?_
    refine lv_goto (tgt := 153) hx hb dX8_tells_149 (by decide) ?_
    refine lv_iadd hx hb dX8_tells_153 ?_
    refine lv_istore_n (lv' := [(2, .int (x2 + (1 : Int32))), (4, .int xt0), (0, .ref (ad 0)), (1, .int x1), (3, .int x3)]) hx hb dX8_tells_154 rfl hl (by decide) rfl (fun ls hl => ?_)
    refine lv_iinc (v := (x3 + (1 : Int32))) (lv' := [(3, .int (x3 + (1 : Int32))), (2, .int (x2 + (1 : Int32))), (4, .int xt0), (0, .ref (ad 0)), (1, .int x1)]) hx hb dX8_tells_155 hl (k := 4) rfl rfl (by decide) rfl (fun ls hl => ?_)
    refine lv_goto (tgt := 4) hx hb dX8_tells_158 (by decide) ?_
    exact hkb _ _ _ _ _ _ ls hf  hP hS (lv_sub hl [3, 4, 1, 0] rfl)
  · rw [if_pos c5] at hf
    refine lv_iload_n hx hb dX8_tells_90 rfl (lv_at hl 2 rfl) ?_
    refine lv_iconst (v := (4 : Int32)) hx hb dX8_tells_91 (by decide) ?_
    refine lv_icmp_ne (tgt := 104) hx hb dX8_tells_92 (by decide) (fun c6 => ?_) (fun c6 => ?_)
    · rw [if_neg c6] at hf
      exact vj_X8_tells_104_4 X hr hlk _ _ hkb hke _ _ _ _ _ _ ls hf  hP hS (lv_sub hl [1, 2, 4] rfl)
    · rw [if_pos c6] at hf
      refine lv_aload_n hx hb dX8_tells_95 rfl (lv_at hl 1 rfl) ?_
      refine g_M_sizes X hP  tw_81 dX8_tells_96 ?_
      refine lv_iload_n hx hb dX8_tells_99 rfl (lv_at hl 4 rfl) ?_
      obtain ⟨g15, hf⟩ := grd_some hf
      refine r_m_sizes X hP  g15 dX8_tells_100 ?_
      refine lv_if_ge (tgt := 148) hx hb dX8_tells_101 (by decide) (fun c16 => ?_) (fun c16 => ?_)
      · rw [if_pos c16] at hf
        refine lv_iconst (v := (1 : Int32)) hx hb dX8_tells_148 (by decide) ?_
        refine lv_goto (tgt := 153) hx hb dX8_tells_149 (by decide) ?_
        refine lv_iadd hx hb dX8_tells_153 ?_
        refine lv_istore_n (lv' := [(2, .int (x2 + (1 : Int32))), (4, .int xt0), (0, .ref (ad 0)), (1, .int x1), (3, .int x3)]) hx hb dX8_tells_154 rfl hl (by decide) rfl (fun ls hl => ?_)
        refine lv_iinc (v := (x3 + (1 : Int32))) (lv' := [(3, .int (x3 + (1 : Int32))), (2, .int (x2 + (1 : Int32))), (4, .int xt0), (0, .ref (ad 0)), (1, .int x1)]) hx hb dX8_tells_155 hl (k := 4) rfl rfl (by decide) rfl (fun ls hl => ?_)
        refine lv_goto (tgt := 4) hx hb dX8_tells_158 (by decide) ?_
        exact hkb _ _ _ _ _ _ ls hf  hP hS (lv_sub hl [3, 4, 1, 0] rfl)
      · rw [if_neg c16] at hf
        exact vj_X8_tells_104_4 X hr hlk _ _ hkb hke _ _ _ _ _ _ ls hf  hP hS (lv_sub hl [1, 2, 4] rfl)
set_option maxHeartbeats 4000000 in
set_option maxRecDepth 100000 in
theorem vj_X8_tells_81_4 (X : Cx D cI cP cB cA 19 ad tL tC p s m c cX8_tells 5 args RX8) (hr : meth.sig.returnType = (some .int)) (hlk : meth.locks = false) {res : Int32 × Stt} (kb : Int32 → Int32 → Int32 → Stt → Option (Int32 × Stt)) (ke : Int32 → Int32 → Stt → Option (Int32 × Stt)) (hkb : ∀ (x1 : Int32) (x2 : Int32) (x3 : Int32) (S : Stt) (H : Heap) (locs : List Loc) (ls : Array Slot), kb x1 x2 x3 S = some res → va_P D vwCl (wl 19 ad (cfM ad cI S)) H → va_S (Ar 19 ad) s.heap H locs → lv_has ls 5 [(0, .ref (ad 0)), (1, .int x1), (2, .int x2), (3, .int x3)] → W p l e (rmD 2) s m args below meth c H locs 0 0 (MQ below (QI D 19 ad res.1 (cfM ad cI res.2)) args s 0 0 (Ar 19 ad)) (F0 m 4 ls [])) (hke : ∀ (x1 : Int32) (x2 : Int32) (S : Stt) (H : Heap) (locs : List Loc) (ls : Array Slot), ke x1 x2 S = some res → va_P D vwCl (wl 19 ad (cfM ad cI S)) H → va_S (Ar 19 ad) s.heap H locs → lv_has ls 5 [(0, .ref (ad 0)), (1, .int x1), (2, .int x2)] → W p l e (rmD 2) s m args below meth c H locs 0 0 (MQ below (QI D 19 ad res.1 (cfM ad cI res.2)) args s 0 0 (Ar 19 ad)) (F0 m 161 ls [])) : ∀ (x1 : Int32) (x2 : Int32) (x3 : Int32) (S : Stt) (H : Heap) (locs : List Loc) (ls : Array Slot), fj_X8_tells_81_4 kb ke x1 x2 x3 S = some res → va_P D vwCl (wl 19 ad (cfM ad cI S)) H → va_S (Ar 19 ad) s.heap H locs → lv_has ls 5 [(0, .ref (ad 0)), (1, .int x1), (2, .int x2), (3, .int x3)] → W p l e (rmD 2) s m args below meth c H locs 0 0 (MQ below (QI D 19 ad res.1 (cfM ad cI res.2)) args s 0 0 (Ar 19 ad)) (F0 m 81 ls []) := by
  intro x1 x2 x3 S H locs ls hf hP hS hl
  have hx := X.1.1
  have hb := X.1.2.1
  unfold fj_X8_tells_81_4 at hf
  refine lv_iconst (v := (0 : Int32)) hx hb dX8_tells_81 (by decide) ?_
  exact vj_X8_tells_82_4 X hr hlk _ _ hkb hke _ _ _ _ _ _ _ ls hf  hP hS (lv_sub hl [0, 1, 2, 3] rfl)
set_option maxHeartbeats 4000000 in
set_option maxRecDepth 100000 in
theorem vj_X8_tells_77_4 (X : Cx D cI cP cB cA 19 ad tL tC p s m c cX8_tells 5 args RX8) (hr : meth.sig.returnType = (some .int)) (hlk : meth.locks = false) {res : Int32 × Stt} (kb : Int32 → Int32 → Int32 → Stt → Option (Int32 × Stt)) (ke : Int32 → Int32 → Stt → Option (Int32 × Stt)) (hkb : ∀ (x1 : Int32) (x2 : Int32) (x3 : Int32) (S : Stt) (H : Heap) (locs : List Loc) (ls : Array Slot), kb x1 x2 x3 S = some res → va_P D vwCl (wl 19 ad (cfM ad cI S)) H → va_S (Ar 19 ad) s.heap H locs → lv_has ls 5 [(0, .ref (ad 0)), (1, .int x1), (2, .int x2), (3, .int x3)] → W p l e (rmD 2) s m args below meth c H locs 0 0 (MQ below (QI D 19 ad res.1 (cfM ad cI res.2)) args s 0 0 (Ar 19 ad)) (F0 m 4 ls [])) (hke : ∀ (x1 : Int32) (x2 : Int32) (S : Stt) (H : Heap) (locs : List Loc) (ls : Array Slot), ke x1 x2 S = some res → va_P D vwCl (wl 19 ad (cfM ad cI S)) H → va_S (Ar 19 ad) s.heap H locs → lv_has ls 5 [(0, .ref (ad 0)), (1, .int x1), (2, .int x2)] → W p l e (rmD 2) s m args below meth c H locs 0 0 (MQ below (QI D 19 ad res.1 (cfM ad cI res.2)) args s 0 0 (Ar 19 ad)) (F0 m 161 ls [])) : ∀ (x1 : Int32) (x2 : Int32) (x3 : Int32) (S : Stt) (H : Heap) (locs : List Loc) (ls : Array Slot), fj_X8_tells_77_4 kb ke x1 x2 x3 S = some res → va_P D vwCl (wl 19 ad (cfM ad cI S)) H → va_S (Ar 19 ad) s.heap H locs → lv_has ls 5 [(0, .ref (ad 0)), (1, .int x1), (2, .int x2), (3, .int x3)] → W p l e (rmD 2) s m args below meth c H locs 0 0 (MQ below (QI D 19 ad res.1 (cfM ad cI res.2)) args s 0 0 (Ar 19 ad)) (F0 m 77 ls []) := by
  intro x1 x2 x3 S H locs ls hf hP hS hl
  have hx := X.1.1
  have hb := X.1.2.1
  unfold fj_X8_tells_77_4 at hf
  refine lv_iconst (v := (1 : Int32)) hx hb dX8_tells_77 (by decide) ?_
  refine lv_goto (tgt := 82) hx hb dX8_tells_78 (by decide) ?_
  exact vj_X8_tells_82_4 X hr hlk _ _ hkb hke _ _ _ _ _ _ _ ls hf  hP hS (lv_sub hl [0, 1, 2, 3] rfl)
set_option maxHeartbeats 4000000 in
set_option maxRecDepth 100000 in
theorem vj_X8_tells_55_4 (X : Cx D cI cP cB cA 19 ad tL tC p s m c cX8_tells 5 args RX8) (hr : meth.sig.returnType = (some .int)) (hlk : meth.locks = false) {res : Int32 × Stt} (kb : Int32 → Int32 → Int32 → Stt → Option (Int32 × Stt)) (ke : Int32 → Int32 → Stt → Option (Int32 × Stt)) (hkb : ∀ (x1 : Int32) (x2 : Int32) (x3 : Int32) (S : Stt) (H : Heap) (locs : List Loc) (ls : Array Slot), kb x1 x2 x3 S = some res → va_P D vwCl (wl 19 ad (cfM ad cI S)) H → va_S (Ar 19 ad) s.heap H locs → lv_has ls 5 [(0, .ref (ad 0)), (1, .int x1), (2, .int x2), (3, .int x3)] → W p l e (rmD 2) s m args below meth c H locs 0 0 (MQ below (QI D 19 ad res.1 (cfM ad cI res.2)) args s 0 0 (Ar 19 ad)) (F0 m 4 ls [])) (hke : ∀ (x1 : Int32) (x2 : Int32) (S : Stt) (H : Heap) (locs : List Loc) (ls : Array Slot), ke x1 x2 S = some res → va_P D vwCl (wl 19 ad (cfM ad cI S)) H → va_S (Ar 19 ad) s.heap H locs → lv_has ls 5 [(0, .ref (ad 0)), (1, .int x1), (2, .int x2)] → W p l e (rmD 2) s m args below meth c H locs 0 0 (MQ below (QI D 19 ad res.1 (cfM ad cI res.2)) args s 0 0 (Ar 19 ad)) (F0 m 161 ls [])) : ∀ (x1 : Int32) (x2 : Int32) (x3 : Int32) (S : Stt) (H : Heap) (locs : List Loc) (ls : Array Slot), fj_X8_tells_55_4 kb ke x1 x2 x3 S = some res → va_P D vwCl (wl 19 ad (cfM ad cI S)) H → va_S (Ar 19 ad) s.heap H locs → lv_has ls 5 [(0, .ref (ad 0)), (1, .int x1), (2, .int x2), (3, .int x3)] → W p l e (rmD 2) s m args below meth c H locs 0 0 (MQ below (QI D 19 ad res.1 (cfM ad cI res.2)) args s 0 0 (Ar 19 ad)) (F0 m 55 ls []) := by
  intro x1 x2 x3 S H locs ls hf hP hS hl
  have hx := X.1.1
  have hb := X.1.2.1
  unfold fj_X8_tells_55_4 at hf
  refine lv_iload_n hx hb dX8_tells_55 rfl (lv_at hl 1 rfl) ?_
  refine lv_iconst (v := (3 : Int32)) hx hb dX8_tells_56 (by decide) ?_
  refine lv_icmp_ne (tgt := 81) hx hb dX8_tells_57 (by decide) (fun c4 => ?_) (fun c4 => ?_)
  · rw [if_neg c4] at hf
    exact vj_X8_tells_81_4 X hr hlk _ _ hkb hke _ _ _ _ _ _ ls hf  hP hS (lv_sub hl [0, 1, 2, 3] rfl)
  · rw [if_pos c4] at hf
    refine lv_iload_n hx hb dX8_tells_60 rfl (lv_at hl 3 rfl) ?_
    refine lv_aload_n hx hb dX8_tells_61 rfl (lv_at hl 0 rfl) ?_
    refine g_M_many X hP  tw_86 dX8_tells_62 ?_
    refine lv_icmp_ge (tgt := 81) hx hb dX8_tells_65 (by decide) (fun c17 => ?_) (fun c17 => ?_)
    · rw [if_pos c17] at hf
      exact vj_X8_tells_81_4 X hr hlk _ _ hkb hke _ _ _ _ _ _ ls hf  hP hS (lv_sub hl [0, 1, 2, 3] rfl)
    · rw [if_neg c17] at hf
      refine lv_aload_n hx hb dX8_tells_68 rfl (lv_at hl 0 rfl) ?_
      refine lv_iload_n hx hb dX8_tells_69 rfl (lv_at hl 3 rfl) ?_
      refine lv_iconst (v := (2 : Int32)) hx hb dX8_tells_70 (by decide) ?_
      obtain ⟨q18, e19, hf⟩ := bind_some hf
      refine aftI hS (cV (rest := []) X hP hS [.int x3, .int (2 : Int32)] (m_X8_isA  e19) cw_X8_isA tw_321 tw_578 tw_784 (by decide) (cf_M ) rfl (fits9 (by first | decide | omega) (by decide)) rfl rfl hl.1 (Nat.le_of_ble_eq_true rfl) dX8_tells_71 ⟨Nat.zero_le _, Nat.zero_le _⟩) (fun H locs hP hS => ?_)
      refine lv_if_eq (tgt := 81) hx hb dX8_tells_74 (by decide) (fun c20 => ?_) (fun c20 => ?_)
      · rw [if_pos c20] at hf
        exact vj_X8_tells_81_4 X hr hlk _ _ hkb hke _ _ _ _ _ _ ls hf  hP hS (lv_sub hl [0, 1, 2, 3] rfl)
      · rw [if_neg c20] at hf
        exact vj_X8_tells_77_4 X hr hlk _ _ hkb hke _ _ _ _ _ _ ls hf  hP hS (lv_sub hl [0, 1, 2, 3] rfl)
set_option maxHeartbeats 4000000 in
set_option maxRecDepth 100000 in
theorem vj_X8_tells_33_4 (X : Cx D cI cP cB cA 19 ad tL tC p s m c cX8_tells 5 args RX8) (hr : meth.sig.returnType = (some .int)) (hlk : meth.locks = false) {res : Int32 × Stt} (kb : Int32 → Int32 → Int32 → Stt → Option (Int32 × Stt)) (ke : Int32 → Int32 → Stt → Option (Int32 × Stt)) (hkb : ∀ (x1 : Int32) (x2 : Int32) (x3 : Int32) (S : Stt) (H : Heap) (locs : List Loc) (ls : Array Slot), kb x1 x2 x3 S = some res → va_P D vwCl (wl 19 ad (cfM ad cI S)) H → va_S (Ar 19 ad) s.heap H locs → lv_has ls 5 [(0, .ref (ad 0)), (1, .int x1), (2, .int x2), (3, .int x3)] → W p l e (rmD 2) s m args below meth c H locs 0 0 (MQ below (QI D 19 ad res.1 (cfM ad cI res.2)) args s 0 0 (Ar 19 ad)) (F0 m 4 ls [])) (hke : ∀ (x1 : Int32) (x2 : Int32) (S : Stt) (H : Heap) (locs : List Loc) (ls : Array Slot), ke x1 x2 S = some res → va_P D vwCl (wl 19 ad (cfM ad cI S)) H → va_S (Ar 19 ad) s.heap H locs → lv_has ls 5 [(0, .ref (ad 0)), (1, .int x1), (2, .int x2)] → W p l e (rmD 2) s m args below meth c H locs 0 0 (MQ below (QI D 19 ad res.1 (cfM ad cI res.2)) args s 0 0 (Ar 19 ad)) (F0 m 161 ls [])) : ∀ (x1 : Int32) (x2 : Int32) (x3 : Int32) (S : Stt) (H : Heap) (locs : List Loc) (ls : Array Slot), fj_X8_tells_33_4 kb ke x1 x2 x3 S = some res → va_P D vwCl (wl 19 ad (cfM ad cI S)) H → va_S (Ar 19 ad) s.heap H locs → lv_has ls 5 [(0, .ref (ad 0)), (1, .int x1), (2, .int x2), (3, .int x3)] → W p l e (rmD 2) s m args below meth c H locs 0 0 (MQ below (QI D 19 ad res.1 (cfM ad cI res.2)) args s 0 0 (Ar 19 ad)) (F0 m 33 ls []) := by
  intro x1 x2 x3 S H locs ls hf hP hS hl
  have hx := X.1.1
  have hb := X.1.2.1
  unfold fj_X8_tells_33_4 at hf
  refine lv_iload_n hx hb dX8_tells_33 rfl (lv_at hl 1 rfl) ?_
  refine lv_iconst (v := (2 : Int32)) hx hb dX8_tells_34 (by decide) ?_
  refine lv_icmp_ne (tgt := 55) hx hb dX8_tells_35 (by decide) (fun c3 => ?_) (fun c3 => ?_)
  · rw [if_neg c3] at hf
    exact vj_X8_tells_55_4 X hr hlk _ _ hkb hke _ _ _ _ _ _ ls hf  hP hS (lv_sub hl [0, 1, 2, 3] rfl)
  · rw [if_pos c3] at hf
    refine lv_iload_n hx hb dX8_tells_38 rfl (lv_at hl 3 rfl) ?_
    refine lv_aload_n hx hb dX8_tells_39 rfl (lv_at hl 0 rfl) ?_
    refine g_M_many X hP  tw_86 dX8_tells_40 ?_
    refine lv_icmp_ge (tgt := 55) hx hb dX8_tells_43 (by decide) (fun c21 => ?_) (fun c21 => ?_)
    · rw [if_pos c21] at hf
      exact vj_X8_tells_55_4 X hr hlk _ _ hkb hke _ _ _ _ _ _ ls hf  hP hS (lv_sub hl [0, 1, 2, 3] rfl)
    · rw [if_neg c21] at hf
      refine lv_aload_n hx hb dX8_tells_46 rfl (lv_at hl 0 rfl) ?_
      refine lv_iload_n hx hb dX8_tells_47 rfl (lv_at hl 3 rfl) ?_
      refine lv_iconst (v := (1 : Int32)) hx hb dX8_tells_48 (by decide) ?_
      obtain ⟨q22, e23, hf⟩ := bind_some hf
      refine aftI hS (cV (rest := []) X hP hS [.int x3, .int (1 : Int32)] (m_X8_isA  e23) cw_X8_isA tw_321 tw_578 tw_784 (by decide) (cf_M ) rfl (fits9 (by first | decide | omega) (by decide)) rfl rfl hl.1 (Nat.le_of_ble_eq_true rfl) dX8_tells_49 ⟨Nat.zero_le _, Nat.zero_le _⟩) (fun H locs hP hS => ?_)
      refine lv_if_ne (tgt := 77) hx hb dX8_tells_52 (by decide) (fun c24 => ?_) (fun c24 => ?_)
      · rw [if_neg c24] at hf
        exact vj_X8_tells_77_4 X hr hlk _ _ hkb hke _ _ _ _ _ _ ls hf  hP hS (lv_sub hl [0, 1, 2, 3] rfl)
      · rw [if_pos c24] at hf
        exact vj_X8_tells_55_4 X hr hlk _ _ hkb hke _ _ _ _ _ _ ls hf  hP hS (lv_sub hl [0, 1, 2, 3] rfl)
set_option maxHeartbeats 4000000 in
set_option maxRecDepth 100000 in
theorem vb_X8_tells_4 (X : Cx D cI cP cB cA 19 ad tL tC p s m c cX8_tells 5 args RX8) (hr : meth.sig.returnType = (some .int)) (hlk : meth.locks = false) {res : Int32 × Stt} (kb : Int32 → Int32 → Int32 → Stt → Option (Int32 × Stt)) (ke : Int32 → Int32 → Stt → Option (Int32 × Stt)) (hkb : ∀ (x1 : Int32) (x2 : Int32) (x3 : Int32) (S : Stt) (H : Heap) (locs : List Loc) (ls : Array Slot), kb x1 x2 x3 S = some res → va_P D vwCl (wl 19 ad (cfM ad cI S)) H → va_S (Ar 19 ad) s.heap H locs → lv_has ls 5 [(0, .ref (ad 0)), (1, .int x1), (2, .int x2), (3, .int x3)] → W p l e (rmD 2) s m args below meth c H locs 0 0 (MQ below (QI D 19 ad res.1 (cfM ad cI res.2)) args s 0 0 (Ar 19 ad)) (F0 m 4 ls [])) (hke : ∀ (x1 : Int32) (x2 : Int32) (S : Stt) (H : Heap) (locs : List Loc) (ls : Array Slot), ke x1 x2 S = some res → va_P D vwCl (wl 19 ad (cfM ad cI S)) H → va_S (Ar 19 ad) s.heap H locs → lv_has ls 5 [(0, .ref (ad 0)), (1, .int x1), (2, .int x2)] → W p l e (rmD 2) s m args below meth c H locs 0 0 (MQ below (QI D 19 ad res.1 (cfM ad cI res.2)) args s 0 0 (Ar 19 ad)) (F0 m 161 ls [])) : ∀ (x1 : Int32) (x2 : Int32) (x3 : Int32) (S : Stt) (H : Heap) (locs : List Loc) (ls : Array Slot), fb_X8_tells_4 kb ke x1 x2 x3 S = some res → va_P D vwCl (wl 19 ad (cfM ad cI S)) H → va_S (Ar 19 ad) s.heap H locs → lv_has ls 5 [(0, .ref (ad 0)), (1, .int x1), (2, .int x2), (3, .int x3)] → W p l e (rmD 2) s m args below meth c H locs 0 0 (MQ below (QI D 19 ad res.1 (cfM ad cI res.2)) args s 0 0 (Ar 19 ad)) (F0 m 4 ls []) := by
  intro x1 x2 x3 S H locs ls hf hP hS hl
  have hx := X.1.1
  have hb := X.1.2.1
  unfold fb_X8_tells_4 at hf
  refine lv_iload_n hx hb dX8_tells_4 rfl (lv_at hl 3 rfl) ?_
  refine lv_bipush (v := (6 : Int32)) hx hb dX8_tells_5 (by decide) ?_
  refine lv_icmp_ge (tgt := 161) hx hb dX8_tells_7 (by decide) (fun c1 => ?_) (fun c1 => ?_)
  · rw [if_pos c1] at hf
    exact hke _ _ _ _ _ ls hf  hP hS (lv_sub hl [0, 1, 2] rfl)
  · rw [if_neg c1] at hf
    refine lv_iload_n hx hb dX8_tells_10 rfl (lv_at hl 1 rfl) ?_
    refine lv_iconst (v := (1 : Int32)) hx hb dX8_tells_11 (by decide) ?_
    refine lv_icmp_ne (tgt := 33) hx hb dX8_tells_12 (by decide) (fun c2 => ?_) (fun c2 => ?_)
    · rw [if_neg c2] at hf
      exact vj_X8_tells_33_4 X hr hlk _ _ hkb hke _ _ _ _ _ _ ls hf  hP hS (lv_sub hl [0, 1, 2, 3] rfl)
    · rw [if_pos c2] at hf
      refine lv_iload_n hx hb dX8_tells_15 rfl (lv_at hl 3 rfl) ?_
      refine lv_aload_n hx hb dX8_tells_16 rfl (lv_at hl 0 rfl) ?_
      refine g_M_many X hP  tw_86 dX8_tells_17 ?_
      refine lv_icmp_ge (tgt := 33) hx hb dX8_tells_20 (by decide) (fun c25 => ?_) (fun c25 => ?_)
      · rw [if_pos c25] at hf
        exact vj_X8_tells_33_4 X hr hlk _ _ hkb hke _ _ _ _ _ _ ls hf  hP hS (lv_sub hl [0, 1, 2, 3] rfl)
      · rw [if_neg c25] at hf
        refine lv_aload_n hx hb dX8_tells_23 rfl (lv_at hl 0 rfl) ?_
        refine g_M_kinds X hP  tw_87 dX8_tells_24 ?_
        refine lv_iload_n hx hb dX8_tells_27 rfl (lv_at hl 3 rfl) ?_
        obtain ⟨g26, hf⟩ := grd_some hf
        refine r_m_kinds X hP  g26 dX8_tells_28 ?_
        refine lv_iconst (v := (3 : Int32)) hx hb dX8_tells_29 (by decide) ?_
        refine lv_icmp_eq (tgt := 77) hx hb dX8_tells_30 (by decide) (fun c27 => ?_) (fun c27 => ?_)
        · rw [if_pos c27] at hf
          exact vj_X8_tells_77_4 X hr hlk _ _ hkb hke _ _ _ _ _ _ ls hf  hP hS (lv_sub hl [0, 1, 2, 3] rfl)
        · rw [if_neg c27] at hf
          exact vj_X8_tells_33_4 X hr hlk _ _ hkb hke _ _ _ _ _ _ ls hf  hP hS (lv_sub hl [0, 1, 2, 3] rfl)
set_option maxHeartbeats 4000000 in
set_option maxRecDepth 100000 in
theorem vl_X8_tells_4 (X : Cx D cI cP cB cA 19 ad tL tC p s m c cX8_tells 5 args RX8) (hr : meth.sig.returnType = (some .int)) (hlk : meth.locks = false) {res : Int32 × Stt} (ke : Int32 → Int32 → Stt → Option (Int32 × Stt)) (hke : ∀ (x1 : Int32) (x2 : Int32) (S : Stt) (H : Heap) (locs : List Loc) (ls : Array Slot), ke x1 x2 S = some res → va_P D vwCl (wl 19 ad (cfM ad cI S)) H → va_S (Ar 19 ad) s.heap H locs → lv_has ls 5 [(0, .ref (ad 0)), (1, .int x1), (2, .int x2)] → W p l e (rmD 2) s m args below meth c H locs 0 0 (MQ below (QI D 19 ad res.1 (cfM ad cI res.2)) args s 0 0 (Ar 19 ad)) (F0 m 161 ls [])) : ∀ (n : Nat), ∀ (x1 : Int32) (x2 : Int32) (x3 : Int32) (S : Stt) (H : Heap) (locs : List Loc) (ls : Array Slot), fl_X8_tells_4 ke n x1 x2 x3 S = some res → va_P D vwCl (wl 19 ad (cfM ad cI S)) H → va_S (Ar 19 ad) s.heap H locs → lv_has ls 5 [(0, .ref (ad 0)), (1, .int x1), (2, .int x2), (3, .int x3)] → W p l e (rmD 2) s m args below meth c H locs 0 0 (MQ below (QI D 19 ad res.1 (cfM ad cI res.2)) args s 0 0 (Ar 19 ad)) (F0 m 4 ls []) := by
  intro n
  induction n with
  | zero =>
    intro x1 x2 x3 S H locs ls hf hP hS hl
    cases hf
  | succ n ih =>
    intro x1 x2 x3 S H locs ls hf hP hS hl
    exact vb_X8_tells_4 X hr hlk _ ke ih hke x1 x2 x3 S H locs ls hf  hP hS hl
end
set_option maxHeartbeats 4000000 in
set_option maxRecDepth 100000 in
theorem m_X8_tells {l : Launch} {D : va_G} {cI cP cB cA : ClassId} {ad : Nat → Nat} {tL tC : Nat} {x1 : Int32} {S : Stt} {res : Int32 × Stt} (hf : f_X8_tells x1 S = some res) : Ct l D cI cP cB cA 19 ad tL tC yX8_tells cX8_tells 5 (some .int) 2 [.ref (ad 0), .int x1] (cfM ad cI S) (QI D 19 ad res.1 (cfM ad cI res.2)) := by
  refine ctOf (by decide) (Nat.le_of_ble_eq_true rfl) ?_
  intro p e s m args below meth c ls X hr hlk hP hl
  have hS : va_S (Ar 19 ad) s.heap s.heap [] := va_S.rf
  have hx := X.1.1
  have hb := X.1.2.1
  have hl : lv_has ls 5 [(0, .ref (ad 0)), (1, .int x1)] := hl
  unfold f_X8_tells at hf
  refine lv_iconst (v := (0 : Int32)) hx hb dX8_tells_0 (by decide) ?_
  refine lv_istore_n (lv' := [(2, .int (0 : Int32)), (0, .ref (ad 0)), (1, .int x1)]) hx hb dX8_tells_1 rfl hl (by decide) rfl (fun ls hl => ?_)
  refine lv_iconst (v := (0 : Int32)) hx hb dX8_tells_2 (by decide) ?_
  refine lv_istore_n (lv' := [(3, .int (0 : Int32)), (2, .int (0 : Int32)), (0, .ref (ad 0)), (1, .int x1)]) hx hb dX8_tells_3 rfl hl (by decide) rfl (fun ls hl => ?_)
  refine vl_X8_tells_4 X hr hlk _ ?_ 300 _ _ _ _ _ _ ls hf  hP hS (lv_sub hl [2, 3, 1, 0] rfl)
  intro x1 x2 S H locs ls hf hP hS hl
  refine lv_iload_n hx hb dX8_tells_161 rfl (lv_at hl 1 rfl) ?_
  refine lv_if_ne (tgt := 172) hx hb dX8_tells_162 (by decide) (fun c28 => ?_) (fun c28 => ?_)
  · rw [if_neg c28] at hf
    refine lv_iload_n hx hb dX8_tells_172 rfl (lv_at hl 2 rfl) ?_
    cases hf
    exact rtI X hr hlk hP hS dX8_tells_173
  · rw [if_pos c28] at hf
    refine lv_aload_n hx hb dX8_tells_165 rfl (lv_at hl 0 rfl) ?_
    refine g_M_many X hP  tw_86 dX8_tells_166 ?_
    refine lv_goto (tgt := 173) hx hb dX8_tells_169 (by decide) ?_
    cases hf
    exact rtI X hr hlk hP hS dX8_tells_173
/-! X8_weightOf -/
section
variable {p : Program} {l : Launch} {e : Env} {s : State} {m : MethodId} {args : Array Value} {below : List Frame} {meth : Method} {c : Code}
variable {D : va_G} {cI cP cB cA : ClassId} {ad : Nat → Nat} {tL tC : Nat}
end
set_option maxHeartbeats 4000000 in
set_option maxRecDepth 100000 in
theorem m_X8_weightOf {l : Launch} {D : va_G} {cI cP cB cA : ClassId} {ad : Nat → Nat} {tL tC : Nat} {x1 : Int32} {S : Stt} {res : Int32 × Stt} (hf : f_X8_weightOf x1 S = some res) : Ct l D cI cP cB cA 19 ad tL tC yX8_weightOf cX8_weightOf 2 (some .int) 2 [.ref (ad 0), .int x1] (cfM ad cI S) (QI D 19 ad res.1 (cfM ad cI res.2)) := by
  refine ctOf (by decide) (Nat.le_of_ble_eq_true rfl) ?_
  intro p e s m args below meth c ls X hr hlk hP hl
  have hS : va_S (Ar 19 ad) s.heap s.heap [] := va_S.rf
  have hx := X.1.1
  have hb := X.1.2.1
  have hl : lv_has ls 2 [(0, .ref (ad 0)), (1, .int x1)] := hl
  unfold f_X8_weightOf at hf
  refine lv_aload_n hx hb dX8_weightOf_0 rfl (lv_at hl 0 rfl) ?_
  refine g_M_words X hP  tw_89 dX8_weightOf_1 ?_
  refine lv_iload_n hx hb dX8_weightOf_4 rfl (lv_at hl 1 rfl) ?_
  obtain ⟨g1, hf⟩ := grd_some hf
  refine r_m_words X hP  g1 dX8_weightOf_5 ?_
  obtain ⟨q2, e3, hf⟩ := bind_some hf
  refine aftI hS (cS (rest := []) X hP hS [.int (S.1 9 0 x1.toNatClampNeg)] (m_X8_sizeOf  e3) cw_X8_sizeOf tw_323 tw_580 (fits9 (by first | decide | omega) (by decide)) rfl rfl hl.1 (Nat.le_of_ble_eq_true rfl) dX8_weightOf_6 ⟨Nat.zero_le _, Nat.zero_le _⟩) (fun H locs hP hS => ?_)
  refine lv_aload_n hx hb dX8_weightOf_9 rfl (lv_at hl 0 rfl) ?_
  refine lv_iload_n hx hb dX8_weightOf_10 rfl (lv_at hl 1 rfl) ?_
  refine lv_iconst (v := (1 : Int32)) hx hb dX8_weightOf_11 (by decide) ?_
  obtain ⟨q4, e5, hf⟩ := bind_some hf
  refine aftI hS (cV (rest := [.int q2.1]) X hP hS [.int x1, .int (1 : Int32)] (m_X8_isA  e5) cw_X8_isA tw_321 tw_578 tw_784 (by decide) (cf_M ) rfl (fits9 (by first | decide | omega) (by decide)) rfl rfl hl.1 (Nat.le_of_ble_eq_true rfl) dX8_weightOf_12 ⟨Nat.zero_le _, Nat.zero_le _⟩) (fun H locs hP hS => ?_)
  refine lv_if_eq (tgt := 23) hx hb dX8_weightOf_15 (by decide) (fun c6 => ?_) (fun c6 => ?_)
  · rw [if_pos c6] at hf
    refine lv_iconst (v := (0 : Int32)) hx hb dX8_weightOf_23 (by decide) ?_
    refine lv_iadd hx hb dX8_weightOf_24 ?_
    cases hf
    exact rtI X hr hlk hP hS dX8_weightOf_25
  · rw [if_neg c6] at hf
    refine lv_bipush (v := (10 : Int32)) hx hb dX8_weightOf_18 (by decide) ?_
    refine lv_goto (tgt := 24) hx hb dX8_weightOf_20 (by decide) ?_
    refine lv_iadd hx hb dX8_weightOf_24 ?_
    cases hf
    exact rtI X hr hlk hP hS dX8_weightOf_25
/-! X0_bound -/
section
variable {p : Program} {l : Launch} {e : Env} {s : State} {m : MethodId} {args : Array Value} {below : List Frame} {meth : Method} {c : Code}
variable {D : va_G} {cI cP cB cA : ClassId} {ad : Nat → Nat} {tL tC : Nat}
set_option maxHeartbeats 4000000 in
set_option maxRecDepth 100000 in
theorem vb_X0_bound_4 (X : Cx D cI cP cB cA 79 ad tL tC p s m c cX0_bound 4 args RX0) (hr : meth.sig.returnType = (some .int)) (hlk : meth.locks = false) {res : Int32 × Stt} (kb : Nat → Int32 → Int32 → Int32 → Stt → Option (Int32 × Stt)) (ke : Int32 → Stt → Option (Int32 × Stt)) (hkb : ∀ (b0 : Nat) (x1 : Int32) (x2 : Int32) (x3 : Int32) (S : Stt) (H : Heap) (locs : List Loc) (ls : Array Slot), kb b0 x1 x2 x3 S = some res → b0 < 5 → va_P D vwCl (wl 79 ad (cfC ad cI cP cB cA S)) H → va_S (Ar 79 ad) s.heap H locs → lv_has ls 4 [(0, .ref (ad (34 + b0))), (1, .int x1), (2, .int x2), (3, .int x3)] → W p l e (rmD 3) s m args below meth c H locs 0 0 (MQ below (QI D 79 ad res.1 (cfC ad cI cP cB cA res.2)) args s 0 0 (Ar 79 ad)) (F0 m 4 ls [])) (hke : ∀ (x2 : Int32) (S : Stt) (H : Heap) (locs : List Loc) (ls : Array Slot), ke x2 S = some res → va_P D vwCl (wl 79 ad (cfC ad cI cP cB cA S)) H → va_S (Ar 79 ad) s.heap H locs → lv_has ls 4 [(2, .int x2)] → W p l e (rmD 3) s m args below meth c H locs 0 0 (MQ below (QI D 79 ad res.1 (cfC ad cI cP cB cA res.2)) args s 0 0 (Ar 79 ad)) (F0 m 33 ls [])) : ∀ (b0 : Nat) (x1 : Int32) (x2 : Int32) (x3 : Int32) (S : Stt) (H : Heap) (locs : List Loc) (ls : Array Slot), fb_X0_bound_4 kb ke b0 x1 x2 x3 S = some res → b0 < 5 → va_P D vwCl (wl 79 ad (cfC ad cI cP cB cA S)) H → va_S (Ar 79 ad) s.heap H locs → lv_has ls 4 [(0, .ref (ad (34 + b0))), (1, .int x1), (2, .int x2), (3, .int x3)] → W p l e (rmD 3) s m args below meth c H locs 0 0 (MQ below (QI D 79 ad res.1 (cfC ad cI cP cB cA res.2)) args s 0 0 (Ar 79 ad)) (F0 m 4 ls []) := by
  intro b0 x1 x2 x3 S H locs ls hf hb_0_0 hP hS hl
  have hx := X.1.1
  have hb := X.1.2.1
  unfold fb_X0_bound_4 at hf
  refine lv_iload_n hx hb dX0_bound_4 rfl (lv_at hl 3 rfl) ?_
  refine lv_aload_n hx hb dX0_bound_5 rfl (lv_at hl 0 rfl) ?_
  refine g_Book_count X hP hb_0_0 tw_24 dX0_bound_6 ?_
  refine lv_icmp_ge (tgt := 33) hx hb dX0_bound_9 (by decide) (fun c1 => ?_) (fun c1 => ?_)
  · rw [if_pos c1] at hf
    exact hke _ _ _ _ ls hf  hP hS (lv_sub hl [2] rfl)
  · rw [if_neg c1] at hf
    refine lv_aload_n hx hb dX0_bound_12 rfl (lv_at hl 0 rfl) ?_
    refine lv_iload_n hx hb dX0_bound_13 rfl (lv_at hl 3 rfl) ?_
    refine lv_iload_n hx hb dX0_bound_14 rfl (lv_at hl 1 rfl) ?_
    obtain ⟨q2, e3, hf⟩ := bind_some hf
    refine aftI hS (cV (rest := []) X hP hS [.int x3, .int x1] (m_X0_holds hb_0_0 e3) cw_X0_holds tw_179 tw_453 tw_658 (bk_lt hb_0_0) (cf_Book hb_0_0) rfl (fits9 (by first | decide | omega) (by decide)) rfl rfl hl.1 (Nat.le_of_ble_eq_true rfl) dX0_bound_15 ⟨Nat.zero_le _, Nat.zero_le _⟩) (fun H locs hP hS => ?_)
    refine lv_if_eq (tgt := 27) hx hb dX0_bound_18 (by decide) (fun c4 => ?_) (fun c4 => ?_)
    · rw [if_pos c4] at hf
      refine lv_iinc (v := (x3 + (1 : Int32))) (lv' := [(3, .int (x3 + (1 : Int32))), (0, .ref (ad (34 + b0))), (1, .int x1), (2, .int x2)]) hx hb dX0_bound_27 hl (k := 3) rfl rfl (by decide) rfl (fun ls hl => ?_)
      refine lv_goto (tgt := 4) hx hb dX0_bound_30 (by decide) ?_
      exact hkb _ _ _ _ _ _ _ ls hf hb_0_0 hP hS (lv_sub hl [1, 2, 3, 0] rfl)
    · rw [if_neg c4] at hf
      refine lv_iload_n hx hb dX0_bound_21 rfl (lv_at hl 2 rfl) ?_
      refine lv_iconst (v := (1 : Int32)) hx hb dX0_bound_22 (by decide) ?_
      refine lv_iload_n hx hb dX0_bound_23 rfl (lv_at hl 3 rfl) ?_
      refine lv_ishl hx hb dX0_bound_24 ?_
      refine lv_ior hx hb dX0_bound_25 ?_
      refine lv_istore_n (lv' := [(2, .int (x2 ||| ((1 : Int32) <<< (x3 &&& 31)))), (0, .ref (ad (34 + b0))), (1, .int x1), (3, .int x3)]) hx hb dX0_bound_26 rfl hl (by decide) rfl (fun ls hl => ?_)
      refine lv_iinc (v := (x3 + (1 : Int32))) (lv' := [(3, .int (x3 + (1 : Int32))), (2, .int (x2 ||| ((1 : Int32) <<< (x3 &&& 31)))), (0, .ref (ad (34 + b0))), (1, .int x1)]) hx hb dX0_bound_27 hl (k := 3) rfl rfl (by decide) rfl (fun ls hl => ?_)
      refine lv_goto (tgt := 4) hx hb dX0_bound_30 (by decide) ?_
      exact hkb _ _ _ _ _ _ _ ls hf hb_0_0 hP hS (lv_sub hl [2, 3, 1, 0] rfl)
set_option maxHeartbeats 4000000 in
set_option maxRecDepth 100000 in
theorem vl_X0_bound_4 (X : Cx D cI cP cB cA 79 ad tL tC p s m c cX0_bound 4 args RX0) (hr : meth.sig.returnType = (some .int)) (hlk : meth.locks = false) {res : Int32 × Stt} (ke : Int32 → Stt → Option (Int32 × Stt)) (hke : ∀ (x2 : Int32) (S : Stt) (H : Heap) (locs : List Loc) (ls : Array Slot), ke x2 S = some res → va_P D vwCl (wl 79 ad (cfC ad cI cP cB cA S)) H → va_S (Ar 79 ad) s.heap H locs → lv_has ls 4 [(2, .int x2)] → W p l e (rmD 3) s m args below meth c H locs 0 0 (MQ below (QI D 79 ad res.1 (cfC ad cI cP cB cA res.2)) args s 0 0 (Ar 79 ad)) (F0 m 33 ls [])) : ∀ (n : Nat), ∀ (b0 : Nat) (x1 : Int32) (x2 : Int32) (x3 : Int32) (S : Stt) (H : Heap) (locs : List Loc) (ls : Array Slot), fl_X0_bound_4 ke n b0 x1 x2 x3 S = some res → b0 < 5 → va_P D vwCl (wl 79 ad (cfC ad cI cP cB cA S)) H → va_S (Ar 79 ad) s.heap H locs → lv_has ls 4 [(0, .ref (ad (34 + b0))), (1, .int x1), (2, .int x2), (3, .int x3)] → W p l e (rmD 3) s m args below meth c H locs 0 0 (MQ below (QI D 79 ad res.1 (cfC ad cI cP cB cA res.2)) args s 0 0 (Ar 79 ad)) (F0 m 4 ls []) := by
  intro n
  induction n with
  | zero =>
    intro b0 x1 x2 x3 S H locs ls hf hb_0_0 hP hS hl
    cases hf
  | succ n ih =>
    intro b0 x1 x2 x3 S H locs ls hf hb_0_0 hP hS hl
    exact vb_X0_bound_4 X hr hlk _ ke ih hke b0 x1 x2 x3 S H locs ls hf hb_0_0 hP hS hl
end
set_option maxHeartbeats 4000000 in
set_option maxRecDepth 100000 in
theorem m_X0_bound {l : Launch} {D : va_G} {cI cP cB cA : ClassId} {ad : Nat → Nat} {tL tC : Nat} {b0 : Nat} {x1 : Int32} (hb_0_0 : b0 < 5) {S : Stt} {res : Int32 × Stt} (hf : f_X0_bound b0 x1 S = some res) : Ct l D cI cP cB cA 79 ad tL tC yX0_bound cX0_bound 4 (some .int) 3 [.ref (ad (34 + b0)), .int x1] (cfC ad cI cP cB cA S) (QI D 79 ad res.1 (cfC ad cI cP cB cA res.2)) := by
  refine ctOf (by decide) (Nat.le_of_ble_eq_true rfl) ?_
  intro p e s m args below meth c ls X hr hlk hP hl
  have hS : va_S (Ar 79 ad) s.heap s.heap [] := va_S.rf
  have hx := X.1.1
  have hb := X.1.2.1
  have hl : lv_has ls 4 [(0, .ref (ad (34 + b0))), (1, .int x1)] := hl
  unfold f_X0_bound at hf
  refine lv_iconst (v := (0 : Int32)) hx hb dX0_bound_0 (by decide) ?_
  refine lv_istore_n (lv' := [(2, .int (0 : Int32)), (0, .ref (ad (34 + b0))), (1, .int x1)]) hx hb dX0_bound_1 rfl hl (by decide) rfl (fun ls hl => ?_)
  refine lv_iconst (v := (0 : Int32)) hx hb dX0_bound_2 (by decide) ?_
  refine lv_istore_n (lv' := [(3, .int (0 : Int32)), (2, .int (0 : Int32)), (0, .ref (ad (34 + b0))), (1, .int x1)]) hx hb dX0_bound_3 rfl hl (by decide) rfl (fun ls hl => ?_)
  refine vl_X0_bound_4 X hr hlk _ ?_ 300 _ _ _ _ _ _ _ ls hf hb_0_0 hP hS (lv_sub hl [2, 3, 1, 0] rfl)
  intro x2 S H locs ls hf hP hS hl
  refine lv_iload_n hx hb dX0_bound_33 rfl (lv_at hl 0 rfl) ?_
  cases hf
  exact rtI X hr hlk hP hS dX0_bound_34
/-! X0_casesOne -/
section
variable {p : Program} {l : Launch} {e : Env} {s : State} {m : MethodId} {args : Array Value} {below : List Frame} {meth : Method} {c : Code}
variable {D : va_G} {cI cP cB cA : ClassId} {ad : Nat → Nat} {tL tC : Nat}
set_option maxHeartbeats 4000000 in
set_option maxRecDepth 100000 in
theorem vj_X0_casesOne_77_9 (X : Cx D cI cP cB cA 79 ad tL tC p s m c cX0_casesOne 9 args RX0) (hr : meth.sig.returnType = (some .int)) (hlk : meth.locks = false) {res : Int32 × Stt} (kb : Nat → Int32 → Int32 → Int32 → Int32 → Int32 → Int32 → Stt → Option (Int32 × Stt)) (ke : Int32 → Stt → Option (Int32 × Stt)) (hkb : ∀ (b0 : Nat) (x1 : Int32) (x2 : Int32) (x3 : Int32) (x4 : Int32) (x5 : Int32) (x6 : Int32) (S : Stt) (H : Heap) (locs : List Loc) (ls : Array Slot), kb b0 x1 x2 x3 x4 x5 x6 S = some res → b0 < 5 → va_P D vwCl (wl 79 ad (cfC ad cI cP cB cA S)) H → va_S (Ar 79 ad) s.heap H locs → lv_has ls 9 [(0, .ref (ad (34 + b0))), (1, .int x1), (2, .int x2), (3, .int x3), (4, .int x4), (5, .int x5), (6, .int x6)] → W p l e (rmD 3) s m args below meth c H locs 0 0 (MQ below (QI D 79 ad res.1 (cfC ad cI cP cB cA res.2)) args s 0 0 (Ar 79 ad)) (F0 m 9 ls [])) (hke : ∀ (x4 : Int32) (S : Stt) (H : Heap) (locs : List Loc) (ls : Array Slot), ke x4 S = some res → va_P D vwCl (wl 79 ad (cfC ad cI cP cB cA S)) H → va_S (Ar 79 ad) s.heap H locs → lv_has ls 9 [(4, .int x4)] → W p l e (rmD 3) s m args below meth c H locs 0 0 (MQ below (QI D 79 ad res.1 (cfC ad cI cP cB cA res.2)) args s 0 0 (Ar 79 ad)) (F0 m 92 ls [])) : ∀ (b0 : Nat) (x1 : Int32) (x2 : Int32) (x3 : Int32) (x4 : Int32) (x5 : Int32) (x6 : Int32) (x8 : Int32) (S : Stt) (H : Heap) (locs : List Loc) (ls : Array Slot), fj_X0_casesOne_77_9 kb ke b0 x1 x2 x3 x4 x5 x6 x8 S = some res → b0 < 5 → va_P D vwCl (wl 79 ad (cfC ad cI cP cB cA S)) H → va_S (Ar 79 ad) s.heap H locs → lv_has ls 9 [(0, .ref (ad (34 + b0))), (1, .int x1), (2, .int x2), (3, .int x3), (4, .int x4), (5, .int x5), (6, .int x6), (8, .int x8)] → W p l e (rmD 3) s m args below meth c H locs 0 0 (MQ below (QI D 79 ad res.1 (cfC ad cI cP cB cA res.2)) args s 0 0 (Ar 79 ad)) (F0 m 77 ls []) := by
  intro b0 x1 x2 x3 x4 x5 x6 x8 S H locs ls hf hb_0_0 hP hS hl
  have hx := X.1.1
  have hb := X.1.2.1
  unfold fj_X0_casesOne_77_9 at hf
  refine lv_iload hx hb dX0_casesOne_77 (lv_at hl 5 rfl) ?_
  refine lv_iload hx hb dX0_casesOne_79 (lv_at hl 7 rfl) ?_
  refine lv_iconst (v := (-1 : Int32)) hx hb dX0_casesOne_81 (by decide) ?_
  refine lv_ixor hx hb dX0_casesOne_82 ?_
  refine lv_iand hx hb dX0_casesOne_83 ?_
  refine lv_istore (lv' := [(5, .int (x5 &&& (x8 ^^^ (-1 : Int32)))), (0, .ref (ad (34 + b0))), (1, .int x1), (2, .int x2), (3, .int x3), (4, .int x4), (6, .int x6), (8, .int x8)]) hx hb dX0_casesOne_84 hl (by decide) rfl (fun ls hl => ?_)
  refine lv_iinc (v := (x6 + (1 : Int32))) (lv' := [(6, .int (x6 + (1 : Int32))), (5, .int (x5 &&& (x8 ^^^ (-1 : Int32)))), (0, .ref (ad (34 + b0))), (1, .int x1), (2, .int x2), (3, .int x3), (4, .int x4), (8, .int x8)]) hx hb dX0_casesOne_86 hl (k := 6) rfl rfl (by decide) rfl (fun ls hl => ?_)
  refine lv_goto (tgt := 9) hx hb dX0_casesOne_89 (by decide) ?_
  exact hkb _ _ _ _ _ _ _ _ _ _ ls hf hb_0_0 hP hS (lv_sub hl [2, 3, 4, 5, 6, 1, 0] rfl)
set_option maxHeartbeats 4000000 in
set_option maxRecDepth 100000 in
theorem vb_X0_casesOne_9 (X : Cx D cI cP cB cA 79 ad tL tC p s m c cX0_casesOne 9 args RX0) (hr : meth.sig.returnType = (some .int)) (hlk : meth.locks = false) {res : Int32 × Stt} (kb : Nat → Int32 → Int32 → Int32 → Int32 → Int32 → Int32 → Stt → Option (Int32 × Stt)) (ke : Int32 → Stt → Option (Int32 × Stt)) (hkb : ∀ (b0 : Nat) (x1 : Int32) (x2 : Int32) (x3 : Int32) (x4 : Int32) (x5 : Int32) (x6 : Int32) (S : Stt) (H : Heap) (locs : List Loc) (ls : Array Slot), kb b0 x1 x2 x3 x4 x5 x6 S = some res → b0 < 5 → va_P D vwCl (wl 79 ad (cfC ad cI cP cB cA S)) H → va_S (Ar 79 ad) s.heap H locs → lv_has ls 9 [(0, .ref (ad (34 + b0))), (1, .int x1), (2, .int x2), (3, .int x3), (4, .int x4), (5, .int x5), (6, .int x6)] → W p l e (rmD 3) s m args below meth c H locs 0 0 (MQ below (QI D 79 ad res.1 (cfC ad cI cP cB cA res.2)) args s 0 0 (Ar 79 ad)) (F0 m 9 ls [])) (hke : ∀ (x4 : Int32) (S : Stt) (H : Heap) (locs : List Loc) (ls : Array Slot), ke x4 S = some res → va_P D vwCl (wl 79 ad (cfC ad cI cP cB cA S)) H → va_S (Ar 79 ad) s.heap H locs → lv_has ls 9 [(4, .int x4)] → W p l e (rmD 3) s m args below meth c H locs 0 0 (MQ below (QI D 79 ad res.1 (cfC ad cI cP cB cA res.2)) args s 0 0 (Ar 79 ad)) (F0 m 92 ls [])) : ∀ (b0 : Nat) (x1 : Int32) (x2 : Int32) (x3 : Int32) (x4 : Int32) (x5 : Int32) (x6 : Int32) (S : Stt) (H : Heap) (locs : List Loc) (ls : Array Slot), fb_X0_casesOne_9 kb ke b0 x1 x2 x3 x4 x5 x6 S = some res → b0 < 5 → va_P D vwCl (wl 79 ad (cfC ad cI cP cB cA S)) H → va_S (Ar 79 ad) s.heap H locs → lv_has ls 9 [(0, .ref (ad (34 + b0))), (1, .int x1), (2, .int x2), (3, .int x3), (4, .int x4), (5, .int x5), (6, .int x6)] → W p l e (rmD 3) s m args below meth c H locs 0 0 (MQ below (QI D 79 ad res.1 (cfC ad cI cP cB cA res.2)) args s 0 0 (Ar 79 ad)) (F0 m 9 ls []) := by
  intro b0 x1 x2 x3 x4 x5 x6 S H locs ls hf hb_0_0 hP hS hl
  have hx := X.1.1
  have hb := X.1.2.1
  unfold fb_X0_casesOne_9 at hf
  refine lv_iload hx hb dX0_casesOne_9 (lv_at hl 6 rfl) ?_
  refine lv_aload_n hx hb dX0_casesOne_11 rfl (lv_at hl 0 rfl) ?_
  refine g_Book_count X hP hb_0_0 tw_24 dX0_casesOne_12 ?_
  refine lv_icmp_ge (tgt := 92) hx hb dX0_casesOne_15 (by decide) (fun c1 => ?_) (fun c1 => ?_)
  · rw [if_pos c1] at hf
    exact hke _ _ _ _ ls hf  hP hS (lv_sub hl [4] rfl)
  · rw [if_neg c1] at hf
    refine lv_iload_n hx hb dX0_casesOne_18 rfl (lv_at hl 1 rfl) ?_
    refine lv_aload_n hx hb dX0_casesOne_19 rfl (lv_at hl 0 rfl) ?_
    refine g_Book_ranked X hP hb_0_0 tw_23 dX0_casesOne_20 ?_
    refine lv_iload hx hb dX0_casesOne_23 (lv_at hl 6 rfl) ?_
    obtain ⟨g2, hf⟩ := grd_some hf
    refine r_ranked X hP hb_0_0 g2 dX0_casesOne_25 ?_
    obtain ⟨q3, e4, hf⟩ := bind_some hf
    refine aftI hS (cSN (rest := []) X hP hS [.int x1, .int (S.1 18 b0 x6.toNatClampNeg)] (m_X7_hasBit  e4) cw_X7_hasBit tw_198 tw_435 (fits9 (by first | decide | omega) (by decide)) rfl rfl hl.1 (Nat.le_of_ble_eq_true rfl) dX0_casesOne_26 ⟨Nat.zero_le _, Nat.zero_le _⟩) (fun H locs hP hS => ?_)
    refine lv_if_ne (tgt := 35) hx hb dX0_casesOne_29 (by decide) (fun c5 => ?_) (fun c5 => ?_)
    · rw [if_neg c5] at hf
      refine lv_aload_n hx hb dX0_casesOne_35 rfl (lv_at hl 0 rfl) ?_
      refine g_Book_pages X hP hb_0_0 tw_20 dX0_casesOne_36 ?_
      refine lv_aload_n hx hb dX0_casesOne_39 rfl (lv_at hl 0 rfl) ?_
      refine g_Book_ranked X hP hb_0_0 tw_23 dX0_casesOne_40 ?_
      refine lv_iload hx hb dX0_casesOne_43 (lv_at hl 6 rfl) ?_
      obtain ⟨g6, hf⟩ := grd_some hf
      refine r_ranked X hP hb_0_0 g6 dX0_casesOne_45 ?_
      obtain ⟨g7, hf⟩ := grd_some hf
      refine q_pages X hP hb_0_0 g7 dX0_casesOne_46 ?_
      refine lv_astore (lv' := [(7, .ref (ad (49 + 6 * b0 + (q3.2.1 18 b0 x6.toNatClampNeg).toNatClampNeg))), (0, .ref (ad (34 + b0))), (1, .int x1), (2, .int x2), (3, .int x3), (4, .int x4), (5, .int x5), (6, .int x6)]) hx hb dX0_casesOne_47 hl (by decide) rfl (fun ls hl => ?_)
      refine lv_aload hx hb dX0_casesOne_49 (lv_at hl 0 rfl) ?_
      refine lv_iload_n hx hb dX0_casesOne_51 rfl (lv_at hl 3 rfl) ?_
      refine lv_iload_n hx hb dX0_casesOne_52 rfl (lv_at hl 4 rfl) ?_
      obtain ⟨q8, e9, hf⟩ := bind_some hf
      refine aftI hS (cV (rest := []) X hP hS [.int x2, .int x3] (m_X3_casesThatFit hb_0_0 (ixb_lt g7) e9) cw_X3_casesThatFit tw_210 tw_479 tw_680 (pg_lt hb_0_0 (ixb_lt g7)) (cf_Page hb_0_0 (ixb_lt g7)) rfl (fits9 (by first | decide | omega) (by decide)) rfl rfl hl.1 (Nat.le_of_ble_eq_true rfl) dX0_casesOne_53 ⟨Nat.zero_le _, Nat.zero_le _⟩) (fun H locs hP hS => ?_)
      refine lv_iload hx hb dX0_casesOne_56 (lv_at hl 6 rfl) ?_
      refine lv_iand hx hb dX0_casesOne_58 ?_
      refine lv_istore (lv' := [(8, .int (q8.1 &&& x5)), (7, .ref (ad (49 + 6 * b0 + (q3.2.1 18 b0 x6.toNatClampNeg).toNatClampNeg))), (0, .ref (ad (34 + b0))), (1, .int x1), (2, .int x2), (3, .int x3), (4, .int x4), (5, .int x5), (6, .int x6)]) hx hb dX0_casesOne_59 hl (by decide) rfl (fun ls hl => ?_)
      refine lv_aload hx hb dX0_casesOne_61 (lv_at hl 1 rfl) ?_
      refine gN_Page_verdict X hP hb_0_0 (ixb_lt g7) tw_8 dX0_casesOne_63 ?_
      refine lv_iconst (v := (1 : Int32)) hx hb dX0_casesOne_66 (by decide) ?_
      refine lv_icmp_ne (tgt := 77) hx hb dX0_casesOne_67 (by decide) (fun c10 => ?_) (fun c10 => ?_)
      · rw [if_neg c10] at hf
        exact vj_X0_casesOne_77_9 X hr hlk _ _ hkb hke _ _ _ _ _ _ _ _ _ _ _ ls hf hb_0_0 hP hS (lv_sub hl [2, 3, 4, 5, 6, 7, 8, 0] rfl)
      · rw [if_pos c10] at hf
        refine lv_iload hx hb dX0_casesOne_70 (lv_at hl 6 rfl) ?_
        refine lv_iload hx hb dX0_casesOne_72 (lv_at hl 0 rfl) ?_
        refine lv_ior hx hb dX0_casesOne_74 ?_
        refine lv_istore (lv' := [(4, .int (x4 ||| (q8.1 &&& x5))), (8, .int (q8.1 &&& x5)), (7, .ref (ad (49 + 6 * b0 + (q3.2.1 18 b0 x6.toNatClampNeg).toNatClampNeg))), (0, .ref (ad (34 + b0))), (1, .int x1), (2, .int x2), (3, .int x3), (5, .int x5), (6, .int x6)]) hx hb dX0_casesOne_75 hl (by decide) rfl (fun ls hl => ?_)
        exact vj_X0_casesOne_77_9 X hr hlk _ _ hkb hke _ _ _ _ _ _ _ _ _ _ _ ls hf hb_0_0 hP hS (lv_sub hl [3, 4, 5, 6, 0, 7, 8, 1] rfl)
    · rw [if_pos c5] at hf
      refine lv_goto (tgt := 86) hx hb dX0_casesOne_32 (by decide) ?_
      refine lv_iinc (v := (x6 + (1 : Int32))) (lv' := [(6, .int (x6 + (1 : Int32))), (0, .ref (ad (34 + b0))), (1, .int x1), (2, .int x2), (3, .int x3), (4, .int x4), (5, .int x5)]) hx hb dX0_casesOne_86 hl (k := 6) rfl rfl (by decide) rfl (fun ls hl => ?_)
      refine lv_goto (tgt := 9) hx hb dX0_casesOne_89 (by decide) ?_
      exact hkb _ _ _ _ _ _ _ _ _ _ ls hf hb_0_0 hP hS (lv_sub hl [1, 2, 3, 4, 5, 6, 0] rfl)
set_option maxHeartbeats 4000000 in
set_option maxRecDepth 100000 in
theorem vl_X0_casesOne_9 (X : Cx D cI cP cB cA 79 ad tL tC p s m c cX0_casesOne 9 args RX0) (hr : meth.sig.returnType = (some .int)) (hlk : meth.locks = false) {res : Int32 × Stt} (ke : Int32 → Stt → Option (Int32 × Stt)) (hke : ∀ (x4 : Int32) (S : Stt) (H : Heap) (locs : List Loc) (ls : Array Slot), ke x4 S = some res → va_P D vwCl (wl 79 ad (cfC ad cI cP cB cA S)) H → va_S (Ar 79 ad) s.heap H locs → lv_has ls 9 [(4, .int x4)] → W p l e (rmD 3) s m args below meth c H locs 0 0 (MQ below (QI D 79 ad res.1 (cfC ad cI cP cB cA res.2)) args s 0 0 (Ar 79 ad)) (F0 m 92 ls [])) : ∀ (n : Nat), ∀ (b0 : Nat) (x1 : Int32) (x2 : Int32) (x3 : Int32) (x4 : Int32) (x5 : Int32) (x6 : Int32) (S : Stt) (H : Heap) (locs : List Loc) (ls : Array Slot), fl_X0_casesOne_9 ke n b0 x1 x2 x3 x4 x5 x6 S = some res → b0 < 5 → va_P D vwCl (wl 79 ad (cfC ad cI cP cB cA S)) H → va_S (Ar 79 ad) s.heap H locs → lv_has ls 9 [(0, .ref (ad (34 + b0))), (1, .int x1), (2, .int x2), (3, .int x3), (4, .int x4), (5, .int x5), (6, .int x6)] → W p l e (rmD 3) s m args below meth c H locs 0 0 (MQ below (QI D 79 ad res.1 (cfC ad cI cP cB cA res.2)) args s 0 0 (Ar 79 ad)) (F0 m 9 ls []) := by
  intro n
  induction n with
  | zero =>
    intro b0 x1 x2 x3 x4 x5 x6 S H locs ls hf hb_0_0 hP hS hl
    cases hf
  | succ n ih =>
    intro b0 x1 x2 x3 x4 x5 x6 S H locs ls hf hb_0_0 hP hS hl
    exact vb_X0_casesOne_9 X hr hlk _ ke ih hke b0 x1 x2 x3 x4 x5 x6 S H locs ls hf hb_0_0 hP hS hl
end
set_option maxHeartbeats 4000000 in
set_option maxRecDepth 100000 in
theorem m_X0_casesOne {l : Launch} {D : va_G} {cI cP cB cA : ClassId} {ad : Nat → Nat} {tL tC : Nat} {b0 : Nat} {x1 : Int32} {x2 : Int32} {x3 : Int32} (hb_0_0 : b0 < 5) {S : Stt} {res : Int32 × Stt} (hf : f_X0_casesOne b0 x1 x2 x3 S = some res) : Ct l D cI cP cB cA 79 ad tL tC yX0_casesOne cX0_casesOne 9 (some .int) 3 [.ref (ad (34 + b0)), .int x1, .int x2, .int x3] (cfC ad cI cP cB cA S) (QI D 79 ad res.1 (cfC ad cI cP cB cA res.2)) := by
  refine ctOf (by decide) (Nat.le_of_ble_eq_true rfl) ?_
  intro p e s m args below meth c ls X hr hlk hP hl
  have hS : va_S (Ar 79 ad) s.heap s.heap [] := va_S.rf
  have hx := X.1.1
  have hb := X.1.2.1
  have hl : lv_has ls 9 [(0, .ref (ad (34 + b0))), (1, .int x1), (2, .int x2), (3, .int x3)] := hl
  unfold f_X0_casesOne at hf
  refine lv_iconst (v := (0 : Int32)) hx hb dX0_casesOne_0 (by decide) ?_
  refine lv_istore (lv' := [(4, .int (0 : Int32)), (0, .ref (ad (34 + b0))), (1, .int x1), (2, .int x2), (3, .int x3)]) hx hb dX0_casesOne_1 hl (by decide) rfl (fun ls hl => ?_)
  refine lv_iconst (v := (-1 : Int32)) hx hb dX0_casesOne_3 (by decide) ?_
  refine lv_istore (lv' := [(5, .int (-1 : Int32)), (4, .int (0 : Int32)), (0, .ref (ad (34 + b0))), (1, .int x1), (2, .int x2), (3, .int x3)]) hx hb dX0_casesOne_4 hl (by decide) rfl (fun ls hl => ?_)
  refine lv_iconst (v := (0 : Int32)) hx hb dX0_casesOne_6 (by decide) ?_
  refine lv_istore (lv' := [(6, .int (0 : Int32)), (5, .int (-1 : Int32)), (4, .int (0 : Int32)), (0, .ref (ad (34 + b0))), (1, .int x1), (2, .int x2), (3, .int x3)]) hx hb dX0_casesOne_7 hl (by decide) rfl (fun ls hl => ?_)
  refine vl_X0_casesOne_9 X hr hlk _ ?_ 300 _ _ _ _ _ _ _ _ _ _ ls hf hb_0_0 hP hS (lv_sub hl [3, 4, 5, 6, 2, 1, 0] rfl)
  intro x4 S H locs ls hf hP hS hl
  refine lv_iload hx hb dX0_casesOne_92 (lv_at hl 0 rfl) ?_
  cases hf
  exact rtI X hr hlk hP hS dX0_casesOne_94
/-! X0_firstDayOf -/
section
variable {p : Program} {l : Launch} {e : Env} {s : State} {m : MethodId} {args : Array Value} {below : List Frame} {meth : Method} {c : Code}
variable {D : va_G} {cI cP cB cA : ClassId} {ad : Nat → Nat} {tL tC : Nat}
set_option maxHeartbeats 4000000 in
set_option maxRecDepth 100000 in
theorem vb_X0_firstDayOf_2 (X : Cx D cI cP cB cA 79 ad tL tC p s m c cX0_firstDayOf 3 args RX0) (hr : meth.sig.returnType = (some .int)) (hlk : meth.locks = false) {res : Int32 × Stt} (kb : Nat → Int32 → Int32 → Stt → Option (Int32 × Stt)) (ke : Stt → Option (Int32 × Stt)) (hkb : ∀ (b0 : Nat) (x1 : Int32) (x2 : Int32) (S : Stt) (H : Heap) (locs : List Loc) (ls : Array Slot), kb b0 x1 x2 S = some res → b0 < 5 → va_P D vwCl (wl 79 ad (cfC ad cI cP cB cA S)) H → va_S (Ar 79 ad) s.heap H locs → lv_has ls 3 [(0, .ref (ad (34 + b0))), (1, .int x1), (2, .int x2)] → W p l e (rmD 3) s m args below meth c H locs 0 0 (MQ below (QI D 79 ad res.1 (cfC ad cI cP cB cA res.2)) args s 0 0 (Ar 79 ad)) (F0 m 2 ls [])) (hke : ∀ (S : Stt) (H : Heap) (locs : List Loc) (ls : Array Slot), ke S = some res → va_P D vwCl (wl 79 ad (cfC ad cI cP cB cA S)) H → va_S (Ar 79 ad) s.heap H locs → lv_has ls 3 [] → W p l e (rmD 3) s m args below meth c H locs 0 0 (MQ below (QI D 79 ad res.1 (cfC ad cI cP cB cA res.2)) args s 0 0 (Ar 79 ad)) (F0 m 25 ls [])) : ∀ (b0 : Nat) (x1 : Int32) (x2 : Int32) (S : Stt) (H : Heap) (locs : List Loc) (ls : Array Slot), fb_X0_firstDayOf_2 kb ke b0 x1 x2 S = some res → b0 < 5 → va_P D vwCl (wl 79 ad (cfC ad cI cP cB cA S)) H → va_S (Ar 79 ad) s.heap H locs → lv_has ls 3 [(0, .ref (ad (34 + b0))), (1, .int x1), (2, .int x2)] → W p l e (rmD 3) s m args below meth c H locs 0 0 (MQ below (QI D 79 ad res.1 (cfC ad cI cP cB cA res.2)) args s 0 0 (Ar 79 ad)) (F0 m 2 ls []) := by
  intro b0 x1 x2 S H locs ls hf hb_0_0 hP hS hl
  have hx := X.1.1
  have hb := X.1.2.1
  unfold fb_X0_firstDayOf_2 at hf
  refine lv_iload_n hx hb dX0_firstDayOf_2 rfl (lv_at hl 2 rfl) ?_
  refine lv_bipush (v := (20 : Int32)) hx hb dX0_firstDayOf_3 (by decide) ?_
  refine lv_icmp_gt (tgt := 25) hx hb dX0_firstDayOf_5 (by decide) (fun c1 => ?_) (fun c1 => ?_)
  · rw [if_pos c1] at hf
    exact hke  _ _ _ ls hf  hP hS (lv_sub hl [] rfl)
  · rw [if_neg c1] at hf
    refine lv_aload_n hx hb dX0_firstDayOf_8 rfl (lv_at hl 0 rfl) ?_
    refine lv_iload_n hx hb dX0_firstDayOf_9 rfl (lv_at hl 1 rfl) ?_
    refine lv_iload_n hx hb dX0_firstDayOf_10 rfl (lv_at hl 2 rfl) ?_
    obtain ⟨q2, e3, hf⟩ := bind_some hf
    refine aftI hS (cV (rest := []) X hP hS [.int x1, .int x2] (m_X0_holds hb_0_0 e3) cw_X0_holds tw_179 tw_453 tw_658 (bk_lt hb_0_0) (cf_Book hb_0_0) rfl (fits9 (by first | decide | omega) (by decide)) rfl rfl hl.1 (Nat.le_of_ble_eq_true rfl) dX0_firstDayOf_11 ⟨Nat.zero_le _, Nat.zero_le _⟩) (fun H locs hP hS => ?_)
    refine lv_if_eq (tgt := 19) hx hb dX0_firstDayOf_14 (by decide) (fun c4 => ?_) (fun c4 => ?_)
    · rw [if_pos c4] at hf
      refine lv_iinc (v := (x2 + (1 : Int32))) (lv' := [(2, .int (x2 + (1 : Int32))), (0, .ref (ad (34 + b0))), (1, .int x1)]) hx hb dX0_firstDayOf_19 hl (k := 2) rfl rfl (by decide) rfl (fun ls hl => ?_)
      refine lv_goto (tgt := 2) hx hb dX0_firstDayOf_22 (by decide) ?_
      exact hkb _ _ _ _ _ _ ls hf hb_0_0 hP hS (lv_sub hl [1, 2, 0] rfl)
    · rw [if_neg c4] at hf
      refine lv_iload_n hx hb dX0_firstDayOf_17 rfl (lv_at hl 2 rfl) ?_
      cases hf
      exact rtI X hr hlk hP hS dX0_firstDayOf_18
set_option maxHeartbeats 4000000 in
set_option maxRecDepth 100000 in
theorem vl_X0_firstDayOf_2 (X : Cx D cI cP cB cA 79 ad tL tC p s m c cX0_firstDayOf 3 args RX0) (hr : meth.sig.returnType = (some .int)) (hlk : meth.locks = false) {res : Int32 × Stt} (ke : Stt → Option (Int32 × Stt)) (hke : ∀ (S : Stt) (H : Heap) (locs : List Loc) (ls : Array Slot), ke S = some res → va_P D vwCl (wl 79 ad (cfC ad cI cP cB cA S)) H → va_S (Ar 79 ad) s.heap H locs → lv_has ls 3 [] → W p l e (rmD 3) s m args below meth c H locs 0 0 (MQ below (QI D 79 ad res.1 (cfC ad cI cP cB cA res.2)) args s 0 0 (Ar 79 ad)) (F0 m 25 ls [])) : ∀ (n : Nat), ∀ (b0 : Nat) (x1 : Int32) (x2 : Int32) (S : Stt) (H : Heap) (locs : List Loc) (ls : Array Slot), fl_X0_firstDayOf_2 ke n b0 x1 x2 S = some res → b0 < 5 → va_P D vwCl (wl 79 ad (cfC ad cI cP cB cA S)) H → va_S (Ar 79 ad) s.heap H locs → lv_has ls 3 [(0, .ref (ad (34 + b0))), (1, .int x1), (2, .int x2)] → W p l e (rmD 3) s m args below meth c H locs 0 0 (MQ below (QI D 79 ad res.1 (cfC ad cI cP cB cA res.2)) args s 0 0 (Ar 79 ad)) (F0 m 2 ls []) := by
  intro n
  induction n with
  | zero =>
    intro b0 x1 x2 S H locs ls hf hb_0_0 hP hS hl
    cases hf
  | succ n ih =>
    intro b0 x1 x2 S H locs ls hf hb_0_0 hP hS hl
    exact vb_X0_firstDayOf_2 X hr hlk _ ke ih hke b0 x1 x2 S H locs ls hf hb_0_0 hP hS hl
end
set_option maxHeartbeats 4000000 in
set_option maxRecDepth 100000 in
theorem m_X0_firstDayOf {l : Launch} {D : va_G} {cI cP cB cA : ClassId} {ad : Nat → Nat} {tL tC : Nat} {b0 : Nat} {x1 : Int32} (hb_0_0 : b0 < 5) {S : Stt} {res : Int32 × Stt} (hf : f_X0_firstDayOf b0 x1 S = some res) : Ct l D cI cP cB cA 79 ad tL tC yX0_firstDayOf cX0_firstDayOf 3 (some .int) 3 [.ref (ad (34 + b0)), .int x1] (cfC ad cI cP cB cA S) (QI D 79 ad res.1 (cfC ad cI cP cB cA res.2)) := by
  refine ctOf (by decide) (Nat.le_of_ble_eq_true rfl) ?_
  intro p e s m args below meth c ls X hr hlk hP hl
  have hS : va_S (Ar 79 ad) s.heap s.heap [] := va_S.rf
  have hx := X.1.1
  have hb := X.1.2.1
  have hl : lv_has ls 3 [(0, .ref (ad (34 + b0))), (1, .int x1)] := hl
  unfold f_X0_firstDayOf at hf
  refine lv_iconst (v := (0 : Int32)) hx hb dX0_firstDayOf_0 (by decide) ?_
  refine lv_istore_n (lv' := [(2, .int (0 : Int32)), (0, .ref (ad (34 + b0))), (1, .int x1)]) hx hb dX0_firstDayOf_1 rfl hl (by decide) rfl (fun ls hl => ?_)
  refine vl_X0_firstDayOf_2 X hr hlk _ ?_ 300 _ _ _ _ _ _ ls hf hb_0_0 hP hS (lv_sub hl [1, 2, 0] rfl)
  intro S H locs ls hf hP hS hl
  refine lv_bipush (v := (-9 : Int32)) hx hb dX0_firstDayOf_25 (by decide) ?_
  cases hf
  exact rtI X hr hlk hP hS dX0_firstDayOf_27
/-! X0_judgeOf -/
section
variable {p : Program} {l : Launch} {e : Env} {s : State} {m : MethodId} {args : Array Value} {below : List Frame} {meth : Method} {c : Code}
variable {D : va_G} {cI cP cB cA : ClassId} {ad : Nat → Nat} {tL tC : Nat}
set_option maxHeartbeats 4000000 in
set_option maxRecDepth 100000 in
theorem vb_X0_judgeOf_3 (X : Cx D cI cP cB cA 79 ad tL tC p s m c cX0_judgeOf 7 args RX0) (hr : meth.sig.returnType = (some .int)) (hlk : meth.locks = false) {res : Int32 × Stt} (kb : Nat → Int32 → Int32 → Int32 → Int32 → Int32 → Stt → Option (Int32 × Stt)) (ke : Stt → Option (Int32 × Stt)) (hkb : ∀ (b0 : Nat) (x1 : Int32) (x2 : Int32) (x3 : Int32) (x4 : Int32) (x5 : Int32) (S : Stt) (H : Heap) (locs : List Loc) (ls : Array Slot), kb b0 x1 x2 x3 x4 x5 S = some res → b0 < 5 → va_P D vwCl (wl 79 ad (cfC ad cI cP cB cA S)) H → va_S (Ar 79 ad) s.heap H locs → lv_has ls 7 [(0, .ref (ad (34 + b0))), (1, .int x1), (2, .int x2), (3, .int x3), (4, .int x4), (5, .int x5)] → W p l e (rmD 3) s m args below meth c H locs 0 0 (MQ below (QI D 79 ad res.1 (cfC ad cI cP cB cA res.2)) args s 0 0 (Ar 79 ad)) (F0 m 3 ls [])) (hke : ∀ (S : Stt) (H : Heap) (locs : List Loc) (ls : Array Slot), ke S = some res → va_P D vwCl (wl 79 ad (cfC ad cI cP cB cA S)) H → va_S (Ar 79 ad) s.heap H locs → lv_has ls 7 [] → W p l e (rmD 3) s m args below meth c H locs 0 0 (MQ below (QI D 79 ad res.1 (cfC ad cI cP cB cA res.2)) args s 0 0 (Ar 79 ad)) (F0 m 59 ls [])) : ∀ (b0 : Nat) (x1 : Int32) (x2 : Int32) (x3 : Int32) (x4 : Int32) (x5 : Int32) (S : Stt) (H : Heap) (locs : List Loc) (ls : Array Slot), fb_X0_judgeOf_3 kb ke b0 x1 x2 x3 x4 x5 S = some res → b0 < 5 → va_P D vwCl (wl 79 ad (cfC ad cI cP cB cA S)) H → va_S (Ar 79 ad) s.heap H locs → lv_has ls 7 [(0, .ref (ad (34 + b0))), (1, .int x1), (2, .int x2), (3, .int x3), (4, .int x4), (5, .int x5)] → W p l e (rmD 3) s m args below meth c H locs 0 0 (MQ below (QI D 79 ad res.1 (cfC ad cI cP cB cA res.2)) args s 0 0 (Ar 79 ad)) (F0 m 3 ls []) := by
  intro b0 x1 x2 x3 x4 x5 S H locs ls hf hb_0_0 hP hS hl
  have hx := X.1.1
  have hb := X.1.2.1
  unfold fb_X0_judgeOf_3 at hf
  refine lv_iload hx hb dX0_judgeOf_3 (lv_at hl 5 rfl) ?_
  refine lv_aload_n hx hb dX0_judgeOf_5 rfl (lv_at hl 0 rfl) ?_
  refine g_Book_count X hP hb_0_0 tw_24 dX0_judgeOf_6 ?_
  refine lv_icmp_ge (tgt := 59) hx hb dX0_judgeOf_9 (by decide) (fun c1 => ?_) (fun c1 => ?_)
  · rw [if_pos c1] at hf
    exact hke  _ _ _ ls hf  hP hS (lv_sub hl [] rfl)
  · rw [if_neg c1] at hf
    refine lv_aload_n hx hb dX0_judgeOf_12 rfl (lv_at hl 0 rfl) ?_
    refine g_Book_ranked X hP hb_0_0 tw_23 dX0_judgeOf_13 ?_
    refine lv_iload hx hb dX0_judgeOf_16 (lv_at hl 5 rfl) ?_
    obtain ⟨g2, hf⟩ := grd_some hf
    refine r_ranked X hP hb_0_0 g2 dX0_judgeOf_18 ?_
    refine lv_istore (lv' := [(6, .int (S.1 18 b0 x5.toNatClampNeg)), (0, .ref (ad (34 + b0))), (1, .int x1), (2, .int x2), (3, .int x3), (4, .int x4), (5, .int x5)]) hx hb dX0_judgeOf_19 hl (by decide) rfl (fun ls hl => ?_)
    refine lv_iload_n hx hb dX0_judgeOf_21 rfl (lv_at hl 3 rfl) ?_
    refine lv_iload hx hb dX0_judgeOf_22 (lv_at hl 0 rfl) ?_
    obtain ⟨q3, e4, hf⟩ := bind_some hf
    refine aftI hS (cSN (rest := []) X hP hS [.int x2, .int (S.1 18 b0 x5.toNatClampNeg)] (m_X7_hasBit  e4) cw_X7_hasBit tw_198 tw_435 (fits9 (by first | decide | omega) (by decide)) rfl rfl hl.1 (Nat.le_of_ble_eq_true rfl) dX0_judgeOf_24 ⟨Nat.zero_le _, Nat.zero_le _⟩) (fun H locs hP hS => ?_)
    refine lv_if_eq (tgt := 53) hx hb dX0_judgeOf_27 (by decide) (fun c5 => ?_) (fun c5 => ?_)
    · rw [if_pos c5] at hf
      refine lv_iinc (v := (x5 + (1 : Int32))) (lv' := [(5, .int (x5 + (1 : Int32))), (6, .int (S.1 18 b0 x5.toNatClampNeg)), (0, .ref (ad (34 + b0))), (1, .int x1), (2, .int x2), (3, .int x3), (4, .int x4)]) hx hb dX0_judgeOf_53 hl (k := 6) rfl rfl (by decide) rfl (fun ls hl => ?_)
      refine lv_goto (tgt := 3) hx hb dX0_judgeOf_56 (by decide) ?_
      exact hkb _ _ _ _ _ _ _ _ _ ls hf hb_0_0 hP hS (lv_sub hl [2, 3, 4, 5, 6, 0] rfl)
    · rw [if_neg c5] at hf
      refine lv_aload_n hx hb dX0_judgeOf_30 rfl (lv_at hl 1 rfl) ?_
      refine g_Book_pages X hP hb_0_0 tw_20 dX0_judgeOf_31 ?_
      refine lv_iload hx hb dX0_judgeOf_34 (lv_at hl 0 rfl) ?_
      obtain ⟨g6, hf⟩ := grd_some hf
      refine q_pages X hP hb_0_0 g6 dX0_judgeOf_36 ?_
      refine lv_iload_n hx hb dX0_judgeOf_37 rfl (lv_at hl 4 rfl) ?_
      refine lv_iload hx hb dX0_judgeOf_38 (lv_at hl 5 rfl) ?_
      obtain ⟨q7, e8, hf⟩ := bind_some hf
      refine aftI hS (cV (rest := []) X hP hS [.int x3, .int x4] (m_X3_casesThatFit hb_0_0 (ixb_lt g6) e8) cw_X3_casesThatFit tw_210 tw_479 tw_680 (pg_lt hb_0_0 (ixb_lt g6)) (cf_Page hb_0_0 (ixb_lt g6)) rfl (fits9 (by first | decide | omega) (by decide)) rfl rfl hl.1 (Nat.le_of_ble_eq_true rfl) dX0_judgeOf_40 ⟨Nat.zero_le _, Nat.zero_le _⟩) (fun H locs hP hS => ?_)
      refine lv_iload_n hx hb dX0_judgeOf_43 rfl (lv_at hl 2 rfl) ?_
      obtain ⟨q9, e10, hf⟩ := bind_some hf
      refine aftI hS (cSN (rest := []) X hP hS [.int q7.1, .int x1] (m_X7_hasBit  e10) cw_X7_hasBit tw_198 tw_435 (fits9 (by first | decide | omega) (by decide)) rfl rfl hl.1 (Nat.le_of_ble_eq_true rfl) dX0_judgeOf_44 ⟨Nat.zero_le _, Nat.zero_le _⟩) (fun H locs hP hS => ?_)
      refine lv_if_eq (tgt := 53) hx hb dX0_judgeOf_47 (by decide) (fun c11 => ?_) (fun c11 => ?_)
      · rw [if_pos c11] at hf
        refine lv_iinc (v := (x5 + (1 : Int32))) (lv' := [(5, .int (x5 + (1 : Int32))), (6, .int (S.1 18 b0 x5.toNatClampNeg)), (0, .ref (ad (34 + b0))), (1, .int x1), (2, .int x2), (3, .int x3), (4, .int x4)]) hx hb dX0_judgeOf_53 hl (k := 6) rfl rfl (by decide) rfl (fun ls hl => ?_)
        refine lv_goto (tgt := 3) hx hb dX0_judgeOf_56 (by decide) ?_
        exact hkb _ _ _ _ _ _ _ _ _ ls hf hb_0_0 hP hS (lv_sub hl [2, 3, 4, 5, 6, 0] rfl)
      · rw [if_neg c11] at hf
        refine lv_iload hx hb dX0_judgeOf_50 (lv_at hl 0 rfl) ?_
        cases hf
        exact rtI X hr hlk hP hS dX0_judgeOf_52
set_option maxHeartbeats 4000000 in
set_option maxRecDepth 100000 in
theorem vl_X0_judgeOf_3 (X : Cx D cI cP cB cA 79 ad tL tC p s m c cX0_judgeOf 7 args RX0) (hr : meth.sig.returnType = (some .int)) (hlk : meth.locks = false) {res : Int32 × Stt} (ke : Stt → Option (Int32 × Stt)) (hke : ∀ (S : Stt) (H : Heap) (locs : List Loc) (ls : Array Slot), ke S = some res → va_P D vwCl (wl 79 ad (cfC ad cI cP cB cA S)) H → va_S (Ar 79 ad) s.heap H locs → lv_has ls 7 [] → W p l e (rmD 3) s m args below meth c H locs 0 0 (MQ below (QI D 79 ad res.1 (cfC ad cI cP cB cA res.2)) args s 0 0 (Ar 79 ad)) (F0 m 59 ls [])) : ∀ (n : Nat), ∀ (b0 : Nat) (x1 : Int32) (x2 : Int32) (x3 : Int32) (x4 : Int32) (x5 : Int32) (S : Stt) (H : Heap) (locs : List Loc) (ls : Array Slot), fl_X0_judgeOf_3 ke n b0 x1 x2 x3 x4 x5 S = some res → b0 < 5 → va_P D vwCl (wl 79 ad (cfC ad cI cP cB cA S)) H → va_S (Ar 79 ad) s.heap H locs → lv_has ls 7 [(0, .ref (ad (34 + b0))), (1, .int x1), (2, .int x2), (3, .int x3), (4, .int x4), (5, .int x5)] → W p l e (rmD 3) s m args below meth c H locs 0 0 (MQ below (QI D 79 ad res.1 (cfC ad cI cP cB cA res.2)) args s 0 0 (Ar 79 ad)) (F0 m 3 ls []) := by
  intro n
  induction n with
  | zero =>
    intro b0 x1 x2 x3 x4 x5 S H locs ls hf hb_0_0 hP hS hl
    cases hf
  | succ n ih =>
    intro b0 x1 x2 x3 x4 x5 S H locs ls hf hb_0_0 hP hS hl
    exact vb_X0_judgeOf_3 X hr hlk _ ke ih hke b0 x1 x2 x3 x4 x5 S H locs ls hf hb_0_0 hP hS hl
end
set_option maxHeartbeats 4000000 in
set_option maxRecDepth 100000 in
theorem m_X0_judgeOf {l : Launch} {D : va_G} {cI cP cB cA : ClassId} {ad : Nat → Nat} {tL tC : Nat} {b0 : Nat} {x1 : Int32} {x2 : Int32} {x3 : Int32} {x4 : Int32} (hb_0_0 : b0 < 5) {S : Stt} {res : Int32 × Stt} (hf : f_X0_judgeOf b0 x1 x2 x3 x4 S = some res) : Ct l D cI cP cB cA 79 ad tL tC yX0_judgeOf cX0_judgeOf 7 (some .int) 3 [.ref (ad (34 + b0)), .int x1, .int x2, .int x3, .int x4] (cfC ad cI cP cB cA S) (QI D 79 ad res.1 (cfC ad cI cP cB cA res.2)) := by
  refine ctOf (by decide) (Nat.le_of_ble_eq_true rfl) ?_
  intro p e s m args below meth c ls X hr hlk hP hl
  have hS : va_S (Ar 79 ad) s.heap s.heap [] := va_S.rf
  have hx := X.1.1
  have hb := X.1.2.1
  have hl : lv_has ls 7 [(0, .ref (ad (34 + b0))), (1, .int x1), (2, .int x2), (3, .int x3), (4, .int x4)] := hl
  unfold f_X0_judgeOf at hf
  refine lv_iconst (v := (0 : Int32)) hx hb dX0_judgeOf_0 (by decide) ?_
  refine lv_istore (lv' := [(5, .int (0 : Int32)), (0, .ref (ad (34 + b0))), (1, .int x1), (2, .int x2), (3, .int x3), (4, .int x4)]) hx hb dX0_judgeOf_1 hl (by decide) rfl (fun ls hl => ?_)
  refine vl_X0_judgeOf_3 X hr hlk _ ?_ 300 _ _ _ _ _ _ _ _ _ ls hf hb_0_0 hP hS (lv_sub hl [1, 2, 3, 4, 5, 0] rfl)
  intro S H locs ls hf hP hS hl
  refine lv_bipush (v := (-9 : Int32)) hx hb dX0_judgeOf_59 (by decide) ?_
  cases hf
  exact rtI X hr hlk hP hS dX0_judgeOf_61
/-! X0_rank -/
section
variable {p : Program} {l : Launch} {e : Env} {s : State} {m : MethodId} {args : Array Value} {below : List Frame} {meth : Method} {c : Code}
variable {D : va_G} {cI cP cB cA : ClassId} {ad : Nat → Nat} {tL tC : Nat}
set_option maxHeartbeats 4000000 in
set_option maxRecDepth 100000 in
theorem vb_X0_rank_12 (X : Cx D cI cP cB cA 79 ad tL tC p s m c cX0_rank 3 args RX0) (hr : meth.sig.returnType = none) (hlk : meth.locks = false) {res : Stt} (kb : Nat → Int32 → Int32 → Stt → Option (Stt)) (ke : Nat → Int32 → Int32 → Stt → Option (Stt)) (hkb : ∀ (b0 : Nat) (x1 : Int32) (x2 : Int32) (S : Stt) (H : Heap) (locs : List Loc) (ls : Array Slot), kb b0 x1 x2 S = some res → b0 < 5 → va_P D vwCl (wl 79 ad (cfC ad cI cP cB cA S)) H → va_S (Ar 79 ad) s.heap H locs → lv_has ls 3 [(0, .ref (ad (34 + b0))), (1, .int x1), (2, .int x2)] → W p l e (rmD 3) s m args below meth c H locs 0 0 (MQ below (QV D 79 ad (cfC ad cI cP cB cA res)) args s 0 0 (Ar 79 ad)) (F0 m 12 ls [])) (hke : ∀ (b0 : Nat) (x1 : Int32) (x2 : Int32) (S : Stt) (H : Heap) (locs : List Loc) (ls : Array Slot), ke b0 x1 x2 S = some res → b0 < 5 → va_P D vwCl (wl 79 ad (cfC ad cI cP cB cA S)) H → va_S (Ar 79 ad) s.heap H locs → lv_has ls 3 [(0, .ref (ad (34 + b0))), (1, .int x1), (2, .int x2)] → W p l e (rmD 3) s m args below meth c H locs 0 0 (MQ below (QV D 79 ad (cfC ad cI cP cB cA res)) args s 0 0 (Ar 79 ad)) (F0 m 64 ls [])) : ∀ (b0 : Nat) (x1 : Int32) (x2 : Int32) (S : Stt) (H : Heap) (locs : List Loc) (ls : Array Slot), fb_X0_rank_12 kb ke b0 x1 x2 S = some res → b0 < 5 → va_P D vwCl (wl 79 ad (cfC ad cI cP cB cA S)) H → va_S (Ar 79 ad) s.heap H locs → lv_has ls 3 [(0, .ref (ad (34 + b0))), (1, .int x1), (2, .int x2)] → W p l e (rmD 3) s m args below meth c H locs 0 0 (MQ below (QV D 79 ad (cfC ad cI cP cB cA res)) args s 0 0 (Ar 79 ad)) (F0 m 12 ls []) := by
  intro b0 x1 x2 S H locs ls hf hb_0_0 hP hS hl
  have hx := X.1.1
  have hb := X.1.2.1
  unfold fb_X0_rank_12 at hf
  refine lv_iload_n hx hb dX0_rank_12 rfl (lv_at hl 2 rfl) ?_
  refine lv_if_le (tgt := 64) hx hb dX0_rank_13 (by decide) (fun c2 => ?_) (fun c2 => ?_)
  · rw [if_pos c2] at hf
    exact hke _ _ _ _ _ _ ls hf hb_0_0 hP hS (lv_sub hl [0, 1, 2] rfl)
  · rw [if_neg c2] at hf
    refine lv_aload_n hx hb dX0_rank_16 rfl (lv_at hl 0 rfl) ?_
    refine g_Book_pages X hP hb_0_0 tw_20 dX0_rank_17 ?_
    refine lv_aload_n hx hb dX0_rank_20 rfl (lv_at hl 0 rfl) ?_
    refine g_Book_ranked X hP hb_0_0 tw_23 dX0_rank_21 ?_
    refine lv_iload_n hx hb dX0_rank_24 rfl (lv_at hl 2 rfl) ?_
    refine lv_iconst (v := (1 : Int32)) hx hb dX0_rank_25 (by decide) ?_
    refine lv_isub hx hb dX0_rank_26 ?_
    obtain ⟨g3, hf⟩ := grd_some hf
    refine r_ranked X hP hb_0_0 g3 dX0_rank_27 ?_
    obtain ⟨g4, hf⟩ := grd_some hf
    refine q_pages X hP hb_0_0 g4 dX0_rank_28 ?_
    obtain ⟨q5, e6, hf⟩ := bind_some hf
    refine aftI hS (cV (rest := []) X hP hS [] (m_X3_weight hb_0_0 (ixb_lt g4) e6) cw_X3_weight tw_158 tw_437 tw_679 (pg_lt hb_0_0 (ixb_lt g4)) (cf_Page hb_0_0 (ixb_lt g4)) rfl (fits9 (by first | decide | omega) (by decide)) rfl rfl hl.1 (Nat.le_of_ble_eq_true rfl) dX0_rank_29 ⟨Nat.zero_le _, Nat.zero_le _⟩) (fun H locs hP hS => ?_)
    refine lv_aload_n hx hb dX0_rank_32 rfl (lv_at hl 0 rfl) ?_
    refine g_Book_pages X hP hb_0_0 tw_20 dX0_rank_33 ?_
    refine lv_iload_n hx hb dX0_rank_36 rfl (lv_at hl 1 rfl) ?_
    obtain ⟨g7, hf⟩ := grd_some hf
    refine q_pages X hP hb_0_0 g7 dX0_rank_37 ?_
    obtain ⟨q8, e9, hf⟩ := bind_some hf
    refine aftI hS (cV (rest := [.int q5.1]) X hP hS [] (m_X3_weight hb_0_0 (ixb_lt g7) e9) cw_X3_weight tw_158 tw_437 tw_679 (pg_lt hb_0_0 (ixb_lt g7)) (cf_Page hb_0_0 (ixb_lt g7)) rfl (fits9 (by first | decide | omega) (by decide)) rfl rfl hl.1 (Nat.le_of_ble_eq_true rfl) dX0_rank_38 ⟨Nat.zero_le _, Nat.zero_le _⟩) (fun H locs hP hS => ?_)
    refine lv_icmp_ge (tgt := 64) hx hb dX0_rank_41 (by decide) (fun c10 => ?_) (fun c10 => ?_)
    · rw [if_pos c10] at hf
      exact hke _ _ _ _ _ _ ls hf hb_0_0 hP hS (lv_sub hl [0, 1, 2] rfl)
    · rw [if_neg c10] at hf
      refine lv_aload_n hx hb dX0_rank_44 rfl (lv_at hl 0 rfl) ?_
      refine g_Book_ranked X hP hb_0_0 tw_23 dX0_rank_45 ?_
      refine lv_iload_n hx hb dX0_rank_48 rfl (lv_at hl 2 rfl) ?_
      refine lv_aload_n hx hb dX0_rank_49 rfl (lv_at hl 0 rfl) ?_
      refine g_Book_ranked X hP hb_0_0 tw_23 dX0_rank_50 ?_
      refine lv_iload_n hx hb dX0_rank_53 rfl (lv_at hl 2 rfl) ?_
      refine lv_iconst (v := (1 : Int32)) hx hb dX0_rank_54 (by decide) ?_
      refine lv_isub hx hb dX0_rank_55 ?_
      obtain ⟨g11, hf⟩ := grd_some hf
      refine r_ranked X hP hb_0_0 g11 dX0_rank_56 ?_
      obtain ⟨g12, hf⟩ := grd_some hf
      refine w_ranked X hP hS hb_0_0 g12 dX0_rank_57 (fun H locs hP hS => ?_)
      refine lv_iinc (v := (x2 + (-1 : Int32))) (lv' := [(2, .int (x2 + (-1 : Int32))), (0, .ref (ad (34 + b0))), (1, .int x1)]) hx hb dX0_rank_58 hl (k := 2) rfl rfl (by decide) rfl (fun ls hl => ?_)
      refine lv_goto (tgt := 12) hx hb dX0_rank_61 (by decide) ?_
      exact hkb _ _ _ _ _ _ ls hf hb_0_0 hP hS (lv_sub hl [1, 2, 0] rfl)
set_option maxHeartbeats 4000000 in
set_option maxRecDepth 100000 in
theorem vl_X0_rank_12 (X : Cx D cI cP cB cA 79 ad tL tC p s m c cX0_rank 3 args RX0) (hr : meth.sig.returnType = none) (hlk : meth.locks = false) {res : Stt} (ke : Nat → Int32 → Int32 → Stt → Option (Stt)) (hke : ∀ (b0 : Nat) (x1 : Int32) (x2 : Int32) (S : Stt) (H : Heap) (locs : List Loc) (ls : Array Slot), ke b0 x1 x2 S = some res → b0 < 5 → va_P D vwCl (wl 79 ad (cfC ad cI cP cB cA S)) H → va_S (Ar 79 ad) s.heap H locs → lv_has ls 3 [(0, .ref (ad (34 + b0))), (1, .int x1), (2, .int x2)] → W p l e (rmD 3) s m args below meth c H locs 0 0 (MQ below (QV D 79 ad (cfC ad cI cP cB cA res)) args s 0 0 (Ar 79 ad)) (F0 m 64 ls [])) : ∀ (n : Nat), ∀ (b0 : Nat) (x1 : Int32) (x2 : Int32) (S : Stt) (H : Heap) (locs : List Loc) (ls : Array Slot), fl_X0_rank_12 ke n b0 x1 x2 S = some res → b0 < 5 → va_P D vwCl (wl 79 ad (cfC ad cI cP cB cA S)) H → va_S (Ar 79 ad) s.heap H locs → lv_has ls 3 [(0, .ref (ad (34 + b0))), (1, .int x1), (2, .int x2)] → W p l e (rmD 3) s m args below meth c H locs 0 0 (MQ below (QV D 79 ad (cfC ad cI cP cB cA res)) args s 0 0 (Ar 79 ad)) (F0 m 12 ls []) := by
  intro n
  induction n with
  | zero =>
    intro b0 x1 x2 S H locs ls hf hb_0_0 hP hS hl
    cases hf
  | succ n ih =>
    intro b0 x1 x2 S H locs ls hf hb_0_0 hP hS hl
    exact vb_X0_rank_12 X hr hlk _ ke ih hke b0 x1 x2 S H locs ls hf hb_0_0 hP hS hl
set_option maxHeartbeats 4000000 in
set_option maxRecDepth 100000 in
theorem vb_X0_rank_2 (X : Cx D cI cP cB cA 79 ad tL tC p s m c cX0_rank 3 args RX0) (hr : meth.sig.returnType = none) (hlk : meth.locks = false) {res : Stt} (kb : Nat → Int32 → Stt → Option (Stt)) (ke : Stt → Option (Stt)) (hkb : ∀ (b0 : Nat) (x1 : Int32) (S : Stt) (H : Heap) (locs : List Loc) (ls : Array Slot), kb b0 x1 S = some res → b0 < 5 → va_P D vwCl (wl 79 ad (cfC ad cI cP cB cA S)) H → va_S (Ar 79 ad) s.heap H locs → lv_has ls 3 [(0, .ref (ad (34 + b0))), (1, .int x1)] → W p l e (rmD 3) s m args below meth c H locs 0 0 (MQ below (QV D 79 ad (cfC ad cI cP cB cA res)) args s 0 0 (Ar 79 ad)) (F0 m 2 ls [])) (hke : ∀ (S : Stt) (H : Heap) (locs : List Loc) (ls : Array Slot), ke S = some res → va_P D vwCl (wl 79 ad (cfC ad cI cP cB cA S)) H → va_S (Ar 79 ad) s.heap H locs → lv_has ls 3 [] → W p l e (rmD 3) s m args below meth c H locs 0 0 (MQ below (QV D 79 ad (cfC ad cI cP cB cA res)) args s 0 0 (Ar 79 ad)) (F0 m 77 ls [])) : ∀ (b0 : Nat) (x1 : Int32) (S : Stt) (H : Heap) (locs : List Loc) (ls : Array Slot), fb_X0_rank_2 kb ke b0 x1 S = some res → b0 < 5 → va_P D vwCl (wl 79 ad (cfC ad cI cP cB cA S)) H → va_S (Ar 79 ad) s.heap H locs → lv_has ls 3 [(0, .ref (ad (34 + b0))), (1, .int x1)] → W p l e (rmD 3) s m args below meth c H locs 0 0 (MQ below (QV D 79 ad (cfC ad cI cP cB cA res)) args s 0 0 (Ar 79 ad)) (F0 m 2 ls []) := by
  intro b0 x1 S H locs ls hf hb_0_0 hP hS hl
  have hx := X.1.1
  have hb := X.1.2.1
  unfold fb_X0_rank_2 at hf
  refine lv_iload_n hx hb dX0_rank_2 rfl (lv_at hl 1 rfl) ?_
  refine lv_aload_n hx hb dX0_rank_3 rfl (lv_at hl 0 rfl) ?_
  refine g_Book_count X hP hb_0_0 tw_24 dX0_rank_4 ?_
  refine lv_icmp_ge (tgt := 77) hx hb dX0_rank_7 (by decide) (fun c1 => ?_) (fun c1 => ?_)
  · rw [if_pos c1] at hf
    exact hke  _ _ _ ls hf  hP hS (lv_sub hl [] rfl)
  · rw [if_neg c1] at hf
    refine lv_iload_n hx hb dX0_rank_10 rfl (lv_at hl 1 rfl) ?_
    refine lv_istore_n (lv' := [(2, .int x1), (0, .ref (ad (34 + b0))), (1, .int x1)]) hx hb dX0_rank_11 rfl hl (by decide) rfl (fun ls hl => ?_)
    refine vl_X0_rank_12 X hr hlk _ ?_ 300 _ _ _ _ _ _ ls hf hb_0_0 hP hS (lv_sub hl [1, 2, 0] rfl)
    intro b0 x1 x2 S H locs ls hf hb_0_0 hP hS hl
    refine lv_aload_n hx hb dX0_rank_64 rfl (lv_at hl 0 rfl) ?_
    refine g_Book_ranked X hP hb_0_0 tw_23 dX0_rank_65 ?_
    refine lv_iload_n hx hb dX0_rank_68 rfl (lv_at hl 2 rfl) ?_
    refine lv_iload_n hx hb dX0_rank_69 rfl (lv_at hl 1 rfl) ?_
    obtain ⟨g13, hf⟩ := grd_some hf
    refine w_ranked X hP hS hb_0_0 g13 dX0_rank_70 (fun H locs hP hS => ?_)
    refine lv_iinc (v := (x1 + (1 : Int32))) (lv' := [(1, .int (x1 + (1 : Int32))), (0, .ref (ad (34 + b0))), (2, .int x2)]) hx hb dX0_rank_71 hl (k := 1) rfl rfl (by decide) rfl (fun ls hl => ?_)
    refine lv_goto (tgt := 2) hx hb dX0_rank_74 (by decide) ?_
    exact hkb _ _ _ _ _ ls hf hb_0_0 hP hS (lv_sub hl [1, 0] rfl)
set_option maxHeartbeats 4000000 in
set_option maxRecDepth 100000 in
theorem vl_X0_rank_2 (X : Cx D cI cP cB cA 79 ad tL tC p s m c cX0_rank 3 args RX0) (hr : meth.sig.returnType = none) (hlk : meth.locks = false) {res : Stt} (ke : Stt → Option (Stt)) (hke : ∀ (S : Stt) (H : Heap) (locs : List Loc) (ls : Array Slot), ke S = some res → va_P D vwCl (wl 79 ad (cfC ad cI cP cB cA S)) H → va_S (Ar 79 ad) s.heap H locs → lv_has ls 3 [] → W p l e (rmD 3) s m args below meth c H locs 0 0 (MQ below (QV D 79 ad (cfC ad cI cP cB cA res)) args s 0 0 (Ar 79 ad)) (F0 m 77 ls [])) : ∀ (n : Nat), ∀ (b0 : Nat) (x1 : Int32) (S : Stt) (H : Heap) (locs : List Loc) (ls : Array Slot), fl_X0_rank_2 ke n b0 x1 S = some res → b0 < 5 → va_P D vwCl (wl 79 ad (cfC ad cI cP cB cA S)) H → va_S (Ar 79 ad) s.heap H locs → lv_has ls 3 [(0, .ref (ad (34 + b0))), (1, .int x1)] → W p l e (rmD 3) s m args below meth c H locs 0 0 (MQ below (QV D 79 ad (cfC ad cI cP cB cA res)) args s 0 0 (Ar 79 ad)) (F0 m 2 ls []) := by
  intro n
  induction n with
  | zero =>
    intro b0 x1 S H locs ls hf hb_0_0 hP hS hl
    cases hf
  | succ n ih =>
    intro b0 x1 S H locs ls hf hb_0_0 hP hS hl
    exact vb_X0_rank_2 X hr hlk _ ke ih hke b0 x1 S H locs ls hf hb_0_0 hP hS hl
end
set_option maxHeartbeats 4000000 in
set_option maxRecDepth 100000 in
theorem m_X0_rank {l : Launch} {D : va_G} {cI cP cB cA : ClassId} {ad : Nat → Nat} {tL tC : Nat} {b0 : Nat} (hb_0_0 : b0 < 5) {S : Stt} {res : Stt} (hf : f_X0_rank b0 S = some res) : Ct l D cI cP cB cA 79 ad tL tC yX0_rank cX0_rank 3 none 3 [.ref (ad (34 + b0))] (cfC ad cI cP cB cA S) (QV D 79 ad (cfC ad cI cP cB cA res)) := by
  refine ctOf (by decide) (Nat.le_of_ble_eq_true rfl) ?_
  intro p e s m args below meth c ls X hr hlk hP hl
  have hS : va_S (Ar 79 ad) s.heap s.heap [] := va_S.rf
  have hx := X.1.1
  have hb := X.1.2.1
  have hl : lv_has ls 3 [(0, .ref (ad (34 + b0)))] := hl
  unfold f_X0_rank at hf
  refine lv_iconst (v := (0 : Int32)) hx hb dX0_rank_0 (by decide) ?_
  refine lv_istore_n (lv' := [(1, .int (0 : Int32)), (0, .ref (ad (34 + b0)))]) hx hb dX0_rank_1 rfl hl (by decide) rfl (fun ls hl => ?_)
  refine vl_X0_rank_2 X hr hlk _ ?_ 300 _ _ _ _ _ ls hf hb_0_0 hP hS (lv_sub hl [1, 0] rfl)
  intro S H locs ls hf hP hS hl
  cases hf
  exact rtV X hr hlk hP hS dX0_rank_77
/-! X4_planAsTheyCome -/
section
variable {p : Program} {l : Launch} {e : Env} {s : State} {m : MethodId} {args : Array Value} {below : List Frame} {meth : Method} {c : Code}
variable {D : va_G} {cI cP cB cA : ClassId} {ad : Nat → Nat} {tL tC : Nat}
set_option maxHeartbeats 4000000 in
set_option maxRecDepth 100000 in
theorem vb_X4_planAsTheyCome_10 (X : Cx D cI cP cB cA 79 ad tL tC p s m c cX4_planAsTheyCome 4 args RX4) (hr : meth.sig.returnType = (some .boolean)) (hlk : meth.locks = false) {res : Int32 × Stt} (kb : Int32 → Int32 → Stt → Option (Int32 × Stt)) (ke : Stt → Option (Int32 × Stt)) (hkb : ∀ (x1 : Int32) (x2 : Int32) (S : Stt) (H : Heap) (locs : List Loc) (ls : Array Slot), kb x1 x2 S = some res → va_P D vwCl (wl 79 ad (cfC ad cI cP cB cA S)) H → va_S (Ar 79 ad) s.heap H locs → lv_has ls 4 [(0, .ref (ad 9)), (1, .int x1), (2, .int x2)] → W p l e (rmD 3) s m args below meth c H locs 0 0 (MQ below (QI D 79 ad res.1 (cfC ad cI cP cB cA res.2)) args s 0 0 (Ar 79 ad)) (F0 m 10 ls [])) (hke : ∀ (S : Stt) (H : Heap) (locs : List Loc) (ls : Array Slot), ke S = some res → va_P D vwCl (wl 79 ad (cfC ad cI cP cB cA S)) H → va_S (Ar 79 ad) s.heap H locs → lv_has ls 4 [] → W p l e (rmD 3) s m args below meth c H locs 0 0 (MQ below (QI D 79 ad res.1 (cfC ad cI cP cB cA res.2)) args s 0 0 (Ar 79 ad)) (F0 m 55 ls [])) : ∀ (x1 : Int32) (x2 : Int32) (S : Stt) (H : Heap) (locs : List Loc) (ls : Array Slot), fb_X4_planAsTheyCome_10 kb ke x1 x2 S = some res → va_P D vwCl (wl 79 ad (cfC ad cI cP cB cA S)) H → va_S (Ar 79 ad) s.heap H locs → lv_has ls 4 [(0, .ref (ad 9)), (1, .int x1), (2, .int x2)] → W p l e (rmD 3) s m args below meth c H locs 0 0 (MQ below (QI D 79 ad res.1 (cfC ad cI cP cB cA res.2)) args s 0 0 (Ar 79 ad)) (F0 m 10 ls []) := by
  intro x1 x2 S H locs ls hf hP hS hl
  have hx := X.1.1
  have hb := X.1.2.1
  unfold fb_X4_planAsTheyCome_10 at hf
  refine lv_iload_n hx hb dX4_planAsTheyCome_10 rfl (lv_at hl 2 rfl) ?_
  refine lv_aload_n hx hb dX4_planAsTheyCome_11 rfl (lv_at hl 0 rfl) ?_
  refine g_Planner_size X hP  tw_49 dX4_planAsTheyCome_12 ?_
  refine lv_icmp_ge (tgt := 55) hx hb dX4_planAsTheyCome_15 (by decide) (fun c1 => ?_) (fun c1 => ?_)
  · rw [if_pos c1] at hf
    exact hke  _ _ _ ls hf  hP hS (lv_sub hl [] rfl)
  · rw [if_neg c1] at hf
    refine lv_aload_n hx hb dX4_planAsTheyCome_18 rfl (lv_at hl 0 rfl) ?_
    refine lv_iload_n hx hb dX4_planAsTheyCome_19 rfl (lv_at hl 2 rfl) ?_
    refine lv_iload_n hx hb dX4_planAsTheyCome_20 rfl (lv_at hl 1 rfl) ?_
    obtain ⟨q2, e3, hf⟩ := bind_some hf
    refine aftI hS (cV (rest := []) X hP hS [.int x2, .int x1] (m_X4_firstClear  e3) cw_X4_firstClear tw_234 tw_497 tw_682 (by decide) (cf_Planner ) rfl (fits9 (by first | decide | omega) (by decide)) rfl rfl hl.1 (Nat.le_of_ble_eq_true rfl) dX4_planAsTheyCome_21 ⟨Nat.zero_le _, Nat.zero_le _⟩) (fun H locs hP hS => ?_)
    refine lv_istore_n (lv' := [(3, .int q2.1), (0, .ref (ad 9)), (1, .int x1), (2, .int x2)]) hx hb dX4_planAsTheyCome_24 rfl hl (by decide) rfl (fun ls hl => ?_)
    refine lv_iload_n hx hb dX4_planAsTheyCome_25 rfl (lv_at hl 0 rfl) ?_
    refine lv_bipush (v := (-9 : Int32)) hx hb dX4_planAsTheyCome_26 (by decide) ?_
    refine lv_icmp_ne (tgt := 33) hx hb dX4_planAsTheyCome_28 (by decide) (fun c4 => ?_) (fun c4 => ?_)
    · rw [if_neg c4] at hf
      refine lv_aload_n hx hb dX4_planAsTheyCome_33 rfl (lv_at hl 1 rfl) ?_
      refine g_Planner_days X hP  tw_50 dX4_planAsTheyCome_34 ?_
      refine lv_iload_n hx hb dX4_planAsTheyCome_37 rfl (lv_at hl 3 rfl) ?_
      refine lv_iload_n hx hb dX4_planAsTheyCome_38 rfl (lv_at hl 0 rfl) ?_
      obtain ⟨g5, hf⟩ := grd_some hf
      refine w_pdays X hP hS  g5 dX4_planAsTheyCome_39 (fun H locs hP hS => ?_)
      refine lv_aload_n hx hb dX4_planAsTheyCome_40 rfl (lv_at hl 1 rfl) ?_
      refine lv_iload_n hx hb dX4_planAsTheyCome_41 rfl (lv_at hl 0 rfl) ?_
      refine p_Planner_soonest X hP hS  tw_53 dX4_planAsTheyCome_42 (fun H locs hP hS => ?_)
      refine lv_iload_n hx hb dX4_planAsTheyCome_45 rfl (lv_at hl 0 rfl) ?_
      refine lv_iconst (v := (1 : Int32)) hx hb dX4_planAsTheyCome_46 (by decide) ?_
      refine lv_iadd hx hb dX4_planAsTheyCome_47 ?_
      refine lv_istore_n (lv' := [(1, .int (q2.1 + (1 : Int32))), (3, .int q2.1), (0, .ref (ad 9)), (2, .int x2)]) hx hb dX4_planAsTheyCome_48 rfl hl (by decide) rfl (fun ls hl => ?_)
      refine lv_iinc (v := (x2 + (1 : Int32))) (lv' := [(2, .int (x2 + (1 : Int32))), (1, .int (q2.1 + (1 : Int32))), (3, .int q2.1), (0, .ref (ad 9))]) hx hb dX4_planAsTheyCome_49 hl (k := 3) rfl rfl (by decide) rfl (fun ls hl => ?_)
      refine lv_goto (tgt := 10) hx hb dX4_planAsTheyCome_52 (by decide) ?_
      exact hkb _ _ _ _ _ ls hf  hP hS (lv_sub hl [3, 1, 0] rfl)
    · rw [if_pos c4] at hf
      refine lv_iconst (v := (0 : Int32)) hx hb dX4_planAsTheyCome_31 (by decide) ?_
      cases hf
      exact rtZ X hr hlk hP hS (Or.inl rfl) dX4_planAsTheyCome_32
set_option maxHeartbeats 4000000 in
set_option maxRecDepth 100000 in
theorem vl_X4_planAsTheyCome_10 (X : Cx D cI cP cB cA 79 ad tL tC p s m c cX4_planAsTheyCome 4 args RX4) (hr : meth.sig.returnType = (some .boolean)) (hlk : meth.locks = false) {res : Int32 × Stt} (ke : Stt → Option (Int32 × Stt)) (hke : ∀ (S : Stt) (H : Heap) (locs : List Loc) (ls : Array Slot), ke S = some res → va_P D vwCl (wl 79 ad (cfC ad cI cP cB cA S)) H → va_S (Ar 79 ad) s.heap H locs → lv_has ls 4 [] → W p l e (rmD 3) s m args below meth c H locs 0 0 (MQ below (QI D 79 ad res.1 (cfC ad cI cP cB cA res.2)) args s 0 0 (Ar 79 ad)) (F0 m 55 ls [])) : ∀ (n : Nat), ∀ (x1 : Int32) (x2 : Int32) (S : Stt) (H : Heap) (locs : List Loc) (ls : Array Slot), fl_X4_planAsTheyCome_10 ke n x1 x2 S = some res → va_P D vwCl (wl 79 ad (cfC ad cI cP cB cA S)) H → va_S (Ar 79 ad) s.heap H locs → lv_has ls 4 [(0, .ref (ad 9)), (1, .int x1), (2, .int x2)] → W p l e (rmD 3) s m args below meth c H locs 0 0 (MQ below (QI D 79 ad res.1 (cfC ad cI cP cB cA res.2)) args s 0 0 (Ar 79 ad)) (F0 m 10 ls []) := by
  intro n
  induction n with
  | zero =>
    intro x1 x2 S H locs ls hf hP hS hl
    cases hf
  | succ n ih =>
    intro x1 x2 S H locs ls hf hP hS hl
    exact vb_X4_planAsTheyCome_10 X hr hlk _ ke ih hke x1 x2 S H locs ls hf  hP hS hl
end
set_option maxHeartbeats 4000000 in
set_option maxRecDepth 100000 in
theorem m_X4_planAsTheyCome {l : Launch} {D : va_G} {cI cP cB cA : ClassId} {ad : Nat → Nat} {tL tC : Nat} {S : Stt} {res : Int32 × Stt} (hf : f_X4_planAsTheyCome  S = some res) : Ct l D cI cP cB cA 79 ad tL tC yX4_planAsTheyCome cX4_planAsTheyCome 4 (some .boolean) 3 [.ref (ad 9)] (cfC ad cI cP cB cA S) (QI D 79 ad res.1 (cfC ad cI cP cB cA res.2)) := by
  refine ctOf (by decide) (Nat.le_of_ble_eq_true rfl) ?_
  intro p e s m args below meth c ls X hr hlk hP hl
  have hS : va_S (Ar 79 ad) s.heap s.heap [] := va_S.rf
  have hx := X.1.1
  have hb := X.1.2.1
  have hl : lv_has ls 4 [(0, .ref (ad 9))] := hl
  unfold f_X4_planAsTheyCome at hf
  refine lv_aload_n hx hb dX4_planAsTheyCome_0 rfl (lv_at hl 0 rfl) ?_
  refine lv_bipush (v := (-9 : Int32)) hx hb dX4_planAsTheyCome_1 (by decide) ?_
  refine p_Planner_soonest X hP hS  tw_53 dX4_planAsTheyCome_3 (fun H locs hP hS => ?_)
  refine lv_iconst (v := (0 : Int32)) hx hb dX4_planAsTheyCome_6 (by decide) ?_
  refine lv_istore_n (lv' := [(1, .int (0 : Int32)), (0, .ref (ad 9))]) hx hb dX4_planAsTheyCome_7 rfl hl (by decide) rfl (fun ls hl => ?_)
  refine lv_iconst (v := (0 : Int32)) hx hb dX4_planAsTheyCome_8 (by decide) ?_
  refine lv_istore_n (lv' := [(2, .int (0 : Int32)), (1, .int (0 : Int32)), (0, .ref (ad 9))]) hx hb dX4_planAsTheyCome_9 rfl hl (by decide) rfl (fun ls hl => ?_)
  refine vl_X4_planAsTheyCome_10 X hr hlk _ ?_ 300 _ _ _ _ _ ls hf  hP hS (lv_sub hl [2, 1, 0] rfl)
  intro S H locs ls hf hP hS hl
  refine lv_iconst (v := (1 : Int32)) hx hb dX4_planAsTheyCome_55 (by decide) ?_
  cases hf
  exact rtZ X hr hlk hP hS (Or.inr rfl) dX4_planAsTheyCome_56
/-! X5_isAtFigure -/
section
variable {p : Program} {l : Launch} {e : Env} {s : State} {m : MethodId} {args : Array Value} {below : List Frame} {meth : Method} {c : Code}
variable {D : va_G} {cI cP cB cA : ClassId} {ad : Nat → Nat} {tL tC : Nat}
end
set_option maxHeartbeats 4000000 in
set_option maxRecDepth 100000 in
theorem m_X5_isAtFigure {l : Launch} {D : va_G} {cI cP cB cA : ClassId} {ad : Nat → Nat} {tL tC : Nat} {S : Stt} {res : Int32 × Stt} (hf : f_X5_isAtFigure  S = some res) : Ct l D cI cP cB cA 79 ad tL tC yX5_isAtFigure cX5_isAtFigure 1 (some .boolean) 3 [.ref (ad 7)] (cfC ad cI cP cB cA S) (QI D 79 ad res.1 (cfC ad cI cP cB cA res.2)) := by
  refine ctOf (by decide) (Nat.le_of_ble_eq_true rfl) ?_
  intro p e s m args below meth c ls X hr hlk hP hl
  have hS : va_S (Ar 79 ad) s.heap s.heap [] := va_S.rf
  have hx := X.1.1
  have hb := X.1.2.1
  have hl : lv_has ls 1 [(0, .ref (ad 7))] := hl
  unfold f_X5_isAtFigure at hf
  refine lv_aload_n hx hb dX5_isAtFigure_0 rfl (lv_at hl 0 rfl) ?_
  refine g_Scribe_stuck X hP  tw_33 dX5_isAtFigure_1 ?_
  refine lv_if_ne (tgt := 40) hx hb dX5_isAtFigure_4 (by decide) (fun c1 => ?_) (fun c1 => ?_)
  · rw [if_neg c1] at hf
    refine lv_iconst (v := (0 : Int32)) hx hb dX5_isAtFigure_40 (by decide) ?_
    cases hf
    exact rtZ X hr hlk hP hS (Or.inl rfl) dX5_isAtFigure_41
  · rw [if_pos c1] at hf
    refine lv_aload_n hx hb dX5_isAtFigure_7 rfl (lv_at hl 0 rfl) ?_
    refine g_Scribe_place X hP  tw_32 dX5_isAtFigure_8 ?_
    refine lv_aload_n hx hb dX5_isAtFigure_11 rfl (lv_at hl 0 rfl) ?_
    refine g_Scribe_size X hP  tw_31 dX5_isAtFigure_12 ?_
    refine lv_icmp_ge (tgt := 40) hx hb dX5_isAtFigure_15 (by decide) (fun c2 => ?_) (fun c2 => ?_)
    · rw [if_pos c2] at hf
      refine lv_iconst (v := (0 : Int32)) hx hb dX5_isAtFigure_40 (by decide) ?_
      cases hf
      exact rtZ X hr hlk hP hS (Or.inl rfl) dX5_isAtFigure_41
    · rw [if_neg c2] at hf
      refine lv_aload_n hx hb dX5_isAtFigure_18 rfl (lv_at hl 0 rfl) ?_
      obtain ⟨q3, e4, hf⟩ := bind_some hf
      refine aftI hS (cV (rest := []) X hP hS [] (m_X5_sign  e4) cw_X5_sign tw_149 tw_429 tw_689 (by decide) (cf_Scribe ) rfl (fits9 (by first | decide | omega) (by decide)) rfl rfl hl.1 (Nat.le_of_ble_eq_true rfl) dX5_isAtFigure_19 ⟨Nat.zero_le _, Nat.zero_le _⟩) (fun H locs hP hS => ?_)
      refine lv_bipush (v := (48 : Int32)) hx hb dX5_isAtFigure_22 (by decide) ?_
      refine lv_icmp_lt (tgt := 40) hx hb dX5_isAtFigure_24 (by decide) (fun c5 => ?_) (fun c5 => ?_)
      · rw [if_pos c5] at hf
        refine lv_iconst (v := (0 : Int32)) hx hb dX5_isAtFigure_40 (by decide) ?_
        cases hf
        exact rtZ X hr hlk hP hS (Or.inl rfl) dX5_isAtFigure_41
      · rw [if_neg c5] at hf
        refine lv_aload_n hx hb dX5_isAtFigure_27 rfl (lv_at hl 0 rfl) ?_
        obtain ⟨q6, e7, hf⟩ := bind_some hf
        refine aftI hS (cV (rest := []) X hP hS [] (m_X5_sign  e7) cw_X5_sign tw_149 tw_429 tw_689 (by decide) (cf_Scribe ) rfl (fits9 (by first | decide | omega) (by decide)) rfl rfl hl.1 (Nat.le_of_ble_eq_true rfl) dX5_isAtFigure_28 ⟨Nat.zero_le _, Nat.zero_le _⟩) (fun H locs hP hS => ?_)
        refine lv_bipush (v := (57 : Int32)) hx hb dX5_isAtFigure_31 (by decide) ?_
        refine lv_icmp_gt (tgt := 40) hx hb dX5_isAtFigure_33 (by decide) (fun c8 => ?_) (fun c8 => ?_)
        · rw [if_pos c8] at hf
          refine lv_iconst (v := (0 : Int32)) hx hb dX5_isAtFigure_40 (by decide) ?_
          cases hf
          exact rtZ X hr hlk hP hS (Or.inl rfl) dX5_isAtFigure_41
        · rw [if_neg c8] at hf
          refine lv_iconst (v := (1 : Int32)) hx hb dX5_isAtFigure_36 (by decide) ?_
          refine lv_goto (tgt := 41) hx hb dX5_isAtFigure_37 (by decide) ?_
          cases hf
          exact rtZ X hr hlk hP hS (Or.inr rfl) dX5_isAtFigure_41
/-! X5_takeFigure -/
section
variable {p : Program} {l : Launch} {e : Env} {s : State} {m : MethodId} {args : Array Value} {below : List Frame} {meth : Method} {c : Code}
variable {D : va_G} {cI cP cB cA : ClassId} {ad : Nat → Nat} {tL tC : Nat}
end
set_option maxHeartbeats 4000000 in
set_option maxRecDepth 100000 in
theorem m_X5_takeFigure {l : Launch} {D : va_G} {cI cP cB cA : ClassId} {ad : Nat → Nat} {tL tC : Nat} {x1 : Int32} {x2 : Int32} {S : Stt} {res : Int32 × Stt} (hf : f_X5_takeFigure x1 x2 S = some res) : Ct l D cI cP cB cA 79 ad tL tC yX5_takeFigure cX5_takeFigure 3 (some .int) 3 [.ref (ad 7), .int x1, .int x2] (cfC ad cI cP cB cA S) (QI D 79 ad res.1 (cfC ad cI cP cB cA res.2)) := by
  refine ctOf (by decide) (Nat.le_of_ble_eq_true rfl) ?_
  intro p e s m args below meth c ls X hr hlk hP hl
  have hS : va_S (Ar 79 ad) s.heap s.heap [] := va_S.rf
  have hx := X.1.1
  have hb := X.1.2.1
  have hl : lv_has ls 3 [(0, .ref (ad 7)), (1, .int x1), (2, .int x2)] := hl
  unfold f_X5_takeFigure at hf
  refine lv_aload_n hx hb dX5_takeFigure_0 rfl (lv_at hl 0 rfl) ?_
  refine g_Scribe_stuck X hP  tw_33 dX5_takeFigure_1 ?_
  refine lv_if_eq (tgt := 9) hx hb dX5_takeFigure_4 (by decide) (fun c1 => ?_) (fun c1 => ?_)
  · rw [if_pos c1] at hf
    refine lv_aload_n hx hb dX5_takeFigure_9 rfl (lv_at hl 0 rfl) ?_
    refine g_Scribe_place X hP  tw_32 dX5_takeFigure_10 ?_
    refine lv_aload_n hx hb dX5_takeFigure_13 rfl (lv_at hl 0 rfl) ?_
    refine g_Scribe_size X hP  tw_31 dX5_takeFigure_14 ?_
    refine lv_icmp_ge (tgt := 42) hx hb dX5_takeFigure_17 (by decide) (fun c2 => ?_) (fun c2 => ?_)
    · rw [if_pos c2] at hf
      refine lv_aload_n hx hb dX5_takeFigure_42 rfl (lv_at hl 0 rfl) ?_
      refine lv_iconst (v := (1 : Int32)) hx hb dX5_takeFigure_43 (by decide) ?_
      refine p_Scribe_stuck X hP hS  (Or.inr rfl) tw_33 dX5_takeFigure_44 (fun H locs hP hS => ?_)
      refine lv_iload_n hx hb dX5_takeFigure_47 rfl (lv_at hl 1 rfl) ?_
      cases hf
      exact rtI X hr hlk hP hS dX5_takeFigure_48
    · rw [if_neg c2] at hf
      refine lv_aload_n hx hb dX5_takeFigure_20 rfl (lv_at hl 0 rfl) ?_
      obtain ⟨q3, e4, hf⟩ := bind_some hf
      refine aftI hS (cV (rest := []) X hP hS [] (m_X5_sign  e4) cw_X5_sign tw_149 tw_429 tw_689 (by decide) (cf_Scribe ) rfl (fits9 (by first | decide | omega) (by decide)) rfl rfl hl.1 (Nat.le_of_ble_eq_true rfl) dX5_takeFigure_21 ⟨Nat.zero_le _, Nat.zero_le _⟩) (fun H locs hP hS => ?_)
      refine lv_bipush (v := (48 : Int32)) hx hb dX5_takeFigure_24 (by decide) ?_
      refine lv_iload_n hx hb dX5_takeFigure_26 rfl (lv_at hl 1 rfl) ?_
      refine lv_iadd hx hb dX5_takeFigure_27 ?_
      refine lv_icmp_lt (tgt := 42) hx hb dX5_takeFigure_28 (by decide) (fun c5 => ?_) (fun c5 => ?_)
      · rw [if_pos c5] at hf
        refine lv_aload_n hx hb dX5_takeFigure_42 rfl (lv_at hl 0 rfl) ?_
        refine lv_iconst (v := (1 : Int32)) hx hb dX5_takeFigure_43 (by decide) ?_
        refine p_Scribe_stuck X hP hS  (Or.inr rfl) tw_33 dX5_takeFigure_44 (fun H locs hP hS => ?_)
        refine lv_iload_n hx hb dX5_takeFigure_47 rfl (lv_at hl 1 rfl) ?_
        cases hf
        exact rtI X hr hlk hP hS dX5_takeFigure_48
      · rw [if_neg c5] at hf
        refine lv_aload_n hx hb dX5_takeFigure_31 rfl (lv_at hl 0 rfl) ?_
        obtain ⟨q6, e7, hf⟩ := bind_some hf
        refine aftI hS (cV (rest := []) X hP hS [] (m_X5_sign  e7) cw_X5_sign tw_149 tw_429 tw_689 (by decide) (cf_Scribe ) rfl (fits9 (by first | decide | omega) (by decide)) rfl rfl hl.1 (Nat.le_of_ble_eq_true rfl) dX5_takeFigure_32 ⟨Nat.zero_le _, Nat.zero_le _⟩) (fun H locs hP hS => ?_)
        refine lv_bipush (v := (48 : Int32)) hx hb dX5_takeFigure_35 (by decide) ?_
        refine lv_iload_n hx hb dX5_takeFigure_37 rfl (lv_at hl 2 rfl) ?_
        refine lv_iadd hx hb dX5_takeFigure_38 ?_
        refine lv_icmp_le (tgt := 49) hx hb dX5_takeFigure_39 (by decide) (fun c8 => ?_) (fun c8 => ?_)
        · rw [if_pos c8] at hf
          refine lv_aload_n hx hb dX5_takeFigure_49 rfl (lv_at hl 0 rfl) ?_
          refine lv_dup hx hb dX5_takeFigure_50 rfl ?_
          refine g_Scribe_place X hP  tw_32 dX5_takeFigure_51 ?_
          refine lv_iconst (v := (1 : Int32)) hx hb dX5_takeFigure_54 (by decide) ?_
          refine lv_iadd hx hb dX5_takeFigure_55 ?_
          refine p_Scribe_place X hP hS  tw_32 dX5_takeFigure_56 (fun H locs hP hS => ?_)
          refine lv_aload_n hx hb dX5_takeFigure_59 rfl (lv_at hl 0 rfl) ?_
          obtain ⟨g9, hf⟩ := grd_some hf
          refine g_Scribe_texts X hP  (of_decide_eq_true g9) tw_29 dX5_takeFigure_60 ?_
          refine lv_aload_n hx hb dX5_takeFigure_63 rfl (lv_at hl 0 rfl) ?_
          refine g_Scribe_t X hP  tw_30 dX5_takeFigure_64 ?_
          refine lv_aload_n hx hb dX5_takeFigure_67 rfl (lv_at hl 0 rfl) ?_
          refine g_Scribe_place X hP  tw_32 dX5_takeFigure_68 ?_
          refine lv_iconst (v := (1 : Int32)) hx hb dX5_takeFigure_71 (by decide) ?_
          refine lv_isub hx hb dX5_takeFigure_72 ?_
          obtain ⟨q10, e11, hf⟩ := bind_some hf
          refine aftI hS (cV (rest := []) X hP hS [.int ((put q6.2 25 0 0 ((q6.2.1 25 0 0) + (1 : Int32))).1 23 0 0), .int (((put q6.2 25 0 0 ((q6.2.1 25 0 0) + (1 : Int32))).1 25 0 0) - (1 : Int32))] (m_X6_placeOf (by decide) e11) cw_X6_placeOf tw_150 tw_411 tw_699 (sh_lt (by decide)) (cf_Shelf (by decide)) rfl (fits9 (by first | decide | omega) (by decide)) rfl rfl hl.1 (Nat.le_of_ble_eq_true rfl) dX5_takeFigure_73 ⟨Nat.zero_le _, Nat.zero_le _⟩) (fun H locs hP hS => ?_)
          refine lv_bipush (v := (48 : Int32)) hx hb dX5_takeFigure_76 (by decide) ?_
          refine lv_isub hx hb dX5_takeFigure_78 ?_
          cases hf
          exact rtI X hr hlk hP hS dX5_takeFigure_79
        · rw [if_neg c8] at hf
          refine lv_aload_n hx hb dX5_takeFigure_42 rfl (lv_at hl 0 rfl) ?_
          refine lv_iconst (v := (1 : Int32)) hx hb dX5_takeFigure_43 (by decide) ?_
          refine p_Scribe_stuck X hP hS  (Or.inr rfl) tw_33 dX5_takeFigure_44 (fun H locs hP hS => ?_)
          refine lv_iload_n hx hb dX5_takeFigure_47 rfl (lv_at hl 1 rfl) ?_
          cases hf
          exact rtI X hr hlk hP hS dX5_takeFigure_48
  · rw [if_neg c1] at hf
    refine lv_iload_n hx hb dX5_takeFigure_7 rfl (lv_at hl 1 rfl) ?_
    cases hf
    exact rtI X hr hlk hP hS dX5_takeFigure_8
/-! X7_count -/
section
variable {p : Program} {l : Launch} {e : Env} {s : State} {m : MethodId} {args : Array Value} {below : List Frame} {meth : Method} {c : Code}
variable {D : va_G} {cI cP cB cA : ClassId} {ad : Nat → Nat} {tL tC : Nat}
end
set_option maxHeartbeats 4000000 in
set_option maxRecDepth 100000 in
theorem m_X7_count {l : Launch} {D : va_G} {cI cP cB cA : ClassId} {ad : Nat → Nat} {tL tC : Nat} {x1 : Int32} {S : Stt} {res : Int32 × Stt} (hf : f_X7_count x1 S = some res) : Ct l D cI cP cB cA 79 ad tL tC yX7_count cX7_count 2 (some .int) 3 [.ref (ad 0), .int x1] (cfC ad cI cP cB cA S) (QI D 79 ad res.1 (cfC ad cI cP cB cA res.2)) := by
  refine ctOf (by decide) (Nat.le_of_ble_eq_true rfl) ?_
  intro p e s m args below meth c ls X hr hlk hP hl
  have hS : va_S (Ar 79 ad) s.heap s.heap [] := va_S.rf
  have hx := X.1.1
  have hb := X.1.2.1
  have hl : lv_has ls 2 [(0, .ref (ad 0)), (1, .int x1)] := hl
  unfold f_X7_count at hf
  refine lv_iload_n hx hb dX7_count_0 rfl (lv_at hl 1 rfl) ?_
  by_cases c1 : x1 = (0 : Int32)
  · rw [if_pos c1] at hf
    refine W.eq (g2 := F0 m 1 ls [.int (0 : Int32)]) (by rw [c1]) ?_
    refine lv_tableIn (x := (0 : Int32)) (off := 43) (tgt := 44) hx hb dX7_count_1 (by decide) (by decide) rfl (by decide) ?_
    refine lv_aload_n hx hb dX7_count_44 rfl (lv_at hl 0 rfl) ?_
    refine g_LP_book X hP  tw_62 dX7_count_45 ?_
    refine gN_Book_count X hP (by decide) tw_28 dX7_count_48 ?_
    cases hf
    exact rtI X hr hlk hP hS dX7_count_51
  · rw [if_neg c1] at hf
    by_cases c2 : x1 = (1 : Int32)
    · rw [if_pos c2] at hf
      refine W.eq (g2 := F0 m 1 ls [.int (1 : Int32)]) (by rw [c2]) ?_
      refine lv_tableIn (x := (1 : Int32)) (off := 51) (tgt := 52) hx hb dX7_count_1 (by decide) (by decide) rfl (by decide) ?_
      refine lv_aload_n hx hb dX7_count_52 rfl (lv_at hl 0 rfl) ?_
      refine g_LP_book X hP  tw_62 dX7_count_53 ?_
      refine lv_iconst (v := (3 : Int32)) hx hb dX7_count_56 (by decide) ?_
      obtain ⟨q3, e4, hf⟩ := bind_some hf
      refine aftI hS (cV (rest := []) X hP hS [.int (3 : Int32)] (m_X0_countOf (by decide) e4) cw_X0_countOf tw_275 tw_533 tw_655 (bk_lt (by decide)) (cf_Book (by decide)) rfl (fits9 (by first | decide | omega) (by decide)) rfl rfl hl.1 (Nat.le_of_ble_eq_true rfl) dX7_count_57 ⟨Nat.zero_le _, Nat.zero_le _⟩) (fun H locs hP hS => ?_)
      cases hf
      exact rtI X hr hlk hP hS dX7_count_60
    · rw [if_neg c2] at hf
      by_cases c5 : x1 = (2 : Int32)
      · rw [if_pos c5] at hf
        refine W.eq (g2 := F0 m 1 ls [.int (2 : Int32)]) (by rw [c5]) ?_
        refine lv_tableIn (x := (2 : Int32)) (off := 60) (tgt := 61) hx hb dX7_count_1 (by decide) (by decide) rfl (by decide) ?_
        refine lv_aload_n hx hb dX7_count_61 rfl (lv_at hl 0 rfl) ?_
        refine g_LP_book X hP  tw_62 dX7_count_62 ?_
        refine lv_iconst (v := (1 : Int32)) hx hb dX7_count_65 (by decide) ?_
        obtain ⟨q6, e7, hf⟩ := bind_some hf
        refine aftI hS (cV (rest := []) X hP hS [.int (1 : Int32)] (m_X0_countOf (by decide) e7) cw_X0_countOf tw_275 tw_533 tw_655 (bk_lt (by decide)) (cf_Book (by decide)) rfl (fits9 (by first | decide | omega) (by decide)) rfl rfl hl.1 (Nat.le_of_ble_eq_true rfl) dX7_count_66 ⟨Nat.zero_le _, Nat.zero_le _⟩) (fun H locs hP hS => ?_)
        cases hf
        exact rtI X hr hlk hP hS dX7_count_69
      · rw [if_neg c5] at hf
        by_cases c8 : x1 = (3 : Int32)
        · rw [if_pos c8] at hf
          refine W.eq (g2 := F0 m 1 ls [.int (3 : Int32)]) (by rw [c8]) ?_
          refine lv_tableIn (x := (3 : Int32)) (off := 69) (tgt := 70) hx hb dX7_count_1 (by decide) (by decide) rfl (by decide) ?_
          refine lv_aload_n hx hb dX7_count_70 rfl (lv_at hl 0 rfl) ?_
          refine g_LP_book X hP  tw_62 dX7_count_71 ?_
          refine lv_iconst (v := (2 : Int32)) hx hb dX7_count_74 (by decide) ?_
          obtain ⟨q9, e10, hf⟩ := bind_some hf
          refine aftI hS (cV (rest := []) X hP hS [.int (2 : Int32)] (m_X0_countOf (by decide) e10) cw_X0_countOf tw_275 tw_533 tw_655 (bk_lt (by decide)) (cf_Book (by decide)) rfl (fits9 (by first | decide | omega) (by decide)) rfl rfl hl.1 (Nat.le_of_ble_eq_true rfl) dX7_count_75 ⟨Nat.zero_le _, Nat.zero_le _⟩) (fun H locs hP hS => ?_)
          cases hf
          exact rtI X hr hlk hP hS dX7_count_78
        · rw [if_neg c8] at hf
          by_cases c11 : x1 = (4 : Int32)
          · rw [if_pos c11] at hf
            refine W.eq (g2 := F0 m 1 ls [.int (4 : Int32)]) (by rw [c11]) ?_
            refine lv_tableIn (x := (4 : Int32)) (off := 78) (tgt := 79) hx hb dX7_count_1 (by decide) (by decide) rfl (by decide) ?_
            refine lv_aload_n hx hb dX7_count_79 rfl (lv_at hl 0 rfl) ?_
            refine g_LP_rows X hP  tw_60 dX7_count_80 ?_
            obtain ⟨q12, e13, hf⟩ := bind_some hf
            refine aftI hS (cV (rest := []) X hP hS [] (m_X6_countThere (by decide) e13) cw_X6_countThere tw_276 tw_534 tw_705 (sh_lt (by decide)) (cf_Shelf (by decide)) rfl (fits9 (by first | decide | omega) (by decide)) rfl rfl hl.1 (Nat.le_of_ble_eq_true rfl) dX7_count_83 ⟨Nat.zero_le _, Nat.zero_le _⟩) (fun H locs hP hS => ?_)
            cases hf
            exact rtI X hr hlk hP hS dX7_count_86
          · rw [if_neg c11] at hf
            by_cases c14 : x1 = (5 : Int32)
            · rw [if_pos c14] at hf
              refine W.eq (g2 := F0 m 1 ls [.int (5 : Int32)]) (by rw [c14]) ?_
              refine lv_tableIn (x := (5 : Int32)) (off := 86) (tgt := 87) hx hb dX7_count_1 (by decide) (by decide) rfl (by decide) ?_
              refine lv_aload_n hx hb dX7_count_87 rfl (lv_at hl 0 rfl) ?_
              refine g_LP_texts X hP  tw_61 dX7_count_88 ?_
              obtain ⟨q15, e16, hf⟩ := bind_some hf
              refine aftI hS (cV (rest := []) X hP hS [] (m_X6_countThere (by decide) e16) cw_X6_countThere tw_276 tw_534 tw_705 (sh_lt (by decide)) (cf_Shelf (by decide)) rfl (fits9 (by first | decide | omega) (by decide)) rfl rfl hl.1 (Nat.le_of_ble_eq_true rfl) dX7_count_91 ⟨Nat.zero_le _, Nat.zero_le _⟩) (fun H locs hP hS => ?_)
              cases hf
              exact rtI X hr hlk hP hS dX7_count_94
            · rw [if_neg c14] at hf
              by_cases c17 : x1 = (6 : Int32)
              · rw [if_pos c17] at hf
                refine W.eq (g2 := F0 m 1 ls [.int (6 : Int32)]) (by rw [c17]) ?_
                refine lv_tableIn (x := (6 : Int32)) (off := 94) (tgt := 95) hx hb dX7_count_1 (by decide) (by decide) rfl (by decide) ?_
                refine lv_aload_n hx hb dX7_count_95 rfl (lv_at hl 0 rfl) ?_
                obtain ⟨q18, e19, hf⟩ := bind_some hf
                refine aftI hS (cV (rest := []) X hP hS [] (m_X7_keptBooks  e19) cw_X7_keptBooks tw_278 tw_535 tw_755 (by decide) (cf_LP ) rfl (fits9 (by first | decide | omega) (by decide)) rfl rfl hl.1 (Nat.le_of_ble_eq_true rfl) dX7_count_96 ⟨Nat.zero_le _, Nat.zero_le _⟩) (fun H locs hP hS => ?_)
                cases hf
                exact rtI X hr hlk hP hS dX7_count_99
              · rw [if_neg c17] at hf
                have z9 : ∀ k : Int32, ¬ x1 = k → ¬ (x1).toInt = k.toInt := fun k h q => h (Int32.toInt_inj.mp q)
                have a0 : ¬ (x1).toInt = 0 := z9 (0 : Int32) c1
                have a1 : ¬ (x1).toInt = 1 := z9 (1 : Int32) c2
                have a2 : ¬ (x1).toInt = 2 := z9 (2 : Int32) c5
                have a3 : ¬ (x1).toInt = 3 := z9 (3 : Int32) c8
                have a4 : ¬ (x1).toInt = 4 := z9 (4 : Int32) c11
                have a5 : ¬ (x1).toInt = 5 := z9 (5 : Int32) c14
                have a6 : ¬ (x1).toInt = 6 := z9 (6 : Int32) c17
                have z8 : (x1).toInt < 0 ∨ 6 < (x1).toInt := by omega
                refine lv_tableOut (tgt := 100) hx hb dX7_count_1 z8 (by decide) ?_
                refine lv_iconst (v := (-1 : Int32)) hx hb dX7_count_100 (by decide) ?_
                cases hf
                exact rtI X hr hlk hP hS dX7_count_101
/-! X7_keep -/
section
variable {p : Program} {l : Launch} {e : Env} {s : State} {m : MethodId} {args : Array Value} {below : List Frame} {meth : Method} {c : Code}
variable {D : va_G} {cI cP cB cA : ClassId} {ad : Nat → Nat} {tL tC : Nat}
end
set_option maxHeartbeats 4000000 in
set_option maxRecDepth 100000 in
theorem m_X7_keep {l : Launch} {D : va_G} {cI cP cB cA : ClassId} {ad : Nat → Nat} {tL tC : Nat} {x1 : Int32} {S : Stt} {res : Int32 × Stt} (hf : f_X7_keep x1 S = some res) : Ct l D cI cP cB cA 79 ad tL tC yX7_keep cX7_keep 2 (some .int) 3 [.ref (ad 0), .int x1] (cfC ad cI cP cB cA S) (QI D 79 ad res.1 (cfC ad cI cP cB cA res.2)) := by
  refine ctOf (by decide) (Nat.le_of_ble_eq_true rfl) ?_
  intro p e s m args below meth c ls X hr hlk hP hl
  have hS : va_S (Ar 79 ad) s.heap s.heap [] := va_S.rf
  have hx := X.1.1
  have hb := X.1.2.1
  have hl : lv_has ls 2 [(0, .ref (ad 0)), (1, .int x1)] := hl
  unfold f_X7_keep at hf
  refine lv_iload_n hx hb dX7_keep_0 rfl (lv_at hl 1 rfl) ?_
  obtain ⟨q1, e2, hf⟩ := bind_some hf
  refine aftI hS (cS (rest := []) X hP hS [.int x1] (m_X7_isShelf  e2) cw_X7_isShelf tw_191 tw_465 (fits9 (by first | decide | omega) (by decide)) rfl rfl hl.1 (Nat.le_of_ble_eq_true rfl) dX7_keep_1 ⟨Nat.zero_le _, Nat.zero_le _⟩) (fun H locs hP hS => ?_)
  refine lv_if_ne (tgt := 9) hx hb dX7_keep_4 (by decide) (fun c3 => ?_) (fun c3 => ?_)
  · rw [if_neg c3] at hf
    refine lv_aload_n hx hb dX7_keep_9 rfl (lv_at hl 0 rfl) ?_
    refine g_LP_book X hP  tw_62 dX7_keep_10 ?_
    refine gN_Book_count X hP (by decide) tw_28 dX7_keep_13 ?_
    refine lv_if_ne (tgt := 22) hx hb dX7_keep_16 (by decide) (fun c4 => ?_) (fun c4 => ?_)
    · rw [if_neg c4] at hf
      refine lv_aload_n hx hb dX7_keep_22 rfl (lv_at hl 0 rfl) ?_
      refine g_LP_kept X hP  tw_64 dX7_keep_23 ?_
      refine lv_iload_n hx hb dX7_keep_26 rfl (lv_at hl 1 rfl) ?_
      obtain ⟨g5, hf⟩ := grd_some hf
      refine q_kept X hP  g5 dX7_keep_27 ?_
      refine lv_aload_n hx hb dX7_keep_28 rfl (lv_at hl 0 rfl) ?_
      refine g_LP_book X hP  tw_62 dX7_keep_29 ?_
      obtain ⟨q6, e7, hf⟩ := bind_some hf
      refine aftV hS (cV (rest := []) X hP hS [.ref (ad (34 + 0))] (m_X0_become (by have := ixb_lt g5; omega) (by decide) e7) cw_X0_become tw_164 tw_446 tw_646 (bk_lt (by have := ixb_lt g5; omega)) (cf_Book (by have := ixb_lt g5; omega)) rfl (fits9 (by first | decide | omega) (by decide)) rfl rfl hl.1 (Nat.le_of_ble_eq_true rfl) dX7_keep_32 ⟨Nat.zero_le _, Nat.zero_le _⟩) (fun H locs hP hS => ?_)
      refine lv_aload_n hx hb dX7_keep_35 rfl (lv_at hl 0 rfl) ?_
      refine g_LP_book X hP  tw_62 dX7_keep_36 ?_
      refine gN_Book_count X hP (by decide) tw_28 dX7_keep_39 ?_
      cases hf
      exact rtI X hr hlk hP hS dX7_keep_42
    · rw [if_pos c4] at hf
      refine lv_bipush (v := (-4 : Int32)) hx hb dX7_keep_19 (by decide) ?_
      cases hf
      exact rtI X hr hlk hP hS dX7_keep_21
  · rw [if_pos c3] at hf
    refine lv_iconst (v := (-1 : Int32)) hx hb dX7_keep_7 (by decide) ?_
    cases hf
    exact rtI X hr hlk hP hS dX7_keep_8
/-! X7_on -/
section
variable {p : Program} {l : Launch} {e : Env} {s : State} {m : MethodId} {args : Array Value} {below : List Frame} {meth : Method} {c : Code}
variable {D : va_G} {cI cP cB cA : ClassId} {ad : Nat → Nat} {tL tC : Nat}
end
set_option maxHeartbeats 4000000 in
set_option maxRecDepth 100000 in
theorem m_X7_on {l : Launch} {D : va_G} {cI cP cB cA : ClassId} {ad : Nat → Nat} {tL tC : Nat} {x1 : Int32} {S : Stt} {res : Int32 × Stt} (hf : f_X7_on x1 S = some res) : Ct l D cI cP cB cA 79 ad tL tC yX7_on cX7_on 2 (some .int) 3 [.ref (ad 0), .int x1] (cfC ad cI cP cB cA S) (QI D 79 ad res.1 (cfC ad cI cP cB cA res.2)) := by
  refine ctOf (by decide) (Nat.le_of_ble_eq_true rfl) ?_
  intro p e s m args below meth c ls X hr hlk hP hl
  have hS : va_S (Ar 79 ad) s.heap s.heap [] := va_S.rf
  have hx := X.1.1
  have hb := X.1.2.1
  have hl : lv_has ls 2 [(0, .ref (ad 0)), (1, .int x1)] := hl
  unfold f_X7_on at hf
  refine lv_iload_n hx hb dX7_on_0 rfl (lv_at hl 1 rfl) ?_
  obtain ⟨q1, e2, hf⟩ := bind_some hf
  refine aftI hS (cS (rest := []) X hP hS [.int x1] (m_X7_isShelf  e2) cw_X7_isShelf tw_191 tw_465 (fits9 (by first | decide | omega) (by decide)) rfl rfl hl.1 (Nat.le_of_ble_eq_true rfl) dX7_on_1 ⟨Nat.zero_le _, Nat.zero_le _⟩) (fun H locs hP hS => ?_)
  refine lv_if_ne (tgt := 9) hx hb dX7_on_4 (by decide) (fun c3 => ?_) (fun c3 => ?_)
  · rw [if_neg c3] at hf
    refine lv_aload_n hx hb dX7_on_9 rfl (lv_at hl 0 rfl) ?_
    refine g_LP_kept X hP  tw_64 dX7_on_10 ?_
    refine lv_iload_n hx hb dX7_on_13 rfl (lv_at hl 1 rfl) ?_
    obtain ⟨g4, hf⟩ := grd_some hf
    refine q_kept X hP  g4 dX7_on_14 ?_
    refine gN_Book_count X hP (by have := ixb_lt g4; omega) tw_28 dX7_on_15 ?_
    refine lv_if_ne (tgt := 27) hx hb dX7_on_18 (by decide) (fun c5 => ?_) (fun c5 => ?_)
    · rw [if_neg c5] at hf
      refine lv_aload_n hx hb dX7_on_27 rfl (lv_at hl 0 rfl) ?_
      refine g_LP_book X hP  tw_62 dX7_on_28 ?_
      refine lv_aload_n hx hb dX7_on_31 rfl (lv_at hl 0 rfl) ?_
      refine g_LP_kept X hP  tw_64 dX7_on_32 ?_
      refine lv_iload_n hx hb dX7_on_35 rfl (lv_at hl 1 rfl) ?_
      obtain ⟨g6, hf⟩ := grd_some hf
      refine q_kept X hP  g6 dX7_on_36 ?_
      obtain ⟨q7, e8, hf⟩ := bind_some hf
      refine aftV hS (cV (rest := []) X hP hS [.ref (ad (34 + (2 + x1.toNatClampNeg)))] (m_X0_become (by decide) (by have := ixb_lt g6; omega) e8) cw_X0_become tw_164 tw_446 tw_646 (bk_lt (by decide)) (cf_Book (by decide)) rfl (fits9 (by first | decide | omega) (by decide)) rfl rfl hl.1 (Nat.le_of_ble_eq_true rfl) dX7_on_37 ⟨Nat.zero_le _, Nat.zero_le _⟩) (fun H locs hP hS => ?_)
      refine lv_aload_n hx hb dX7_on_40 rfl (lv_at hl 0 rfl) ?_
      refine g_LP_book X hP  tw_62 dX7_on_41 ?_
      refine gN_Book_count X hP (by decide) tw_28 dX7_on_44 ?_
      cases hf
      exact rtI X hr hlk hP hS dX7_on_47
    · rw [if_pos c5] at hf
      refine lv_aload_n hx hb dX7_on_21 rfl (lv_at hl 0 rfl) ?_
      refine lv_iconst (v := (1 : Int32)) hx hb dX7_on_22 (by decide) ?_
      obtain ⟨q9, e10, hf⟩ := bind_some hf
      refine aftI hS (cV (rest := []) X hP hS [.int (1 : Int32)] (m_X7_refuse  e10) cw_X7_refuse tw_126 tw_406 tw_754 (by decide) (cf_LP ) rfl (fits9 (by first | decide | omega) (by decide)) rfl rfl hl.1 (Nat.le_of_ble_eq_true rfl) dX7_on_23 ⟨Nat.zero_le _, Nat.zero_le _⟩) (fun H locs hP hS => ?_)
      cases hf
      exact rtI X hr hlk hP hS dX7_on_26
  · rw [if_pos c3] at hf
    refine lv_iconst (v := (-1 : Int32)) hx hb dX7_on_7 (by decide) ?_
    cases hf
    exact rtI X hr hlk hP hS dX7_on_8
