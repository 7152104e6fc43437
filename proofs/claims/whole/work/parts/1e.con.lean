/-! X7_page -/
section
variable {p : Program} {l : Launch} {e : Env} {s : State} {m : MethodId} {args : Array Value} {below : List Frame} {meth : Method} {c : Code}
variable {D : va_G} {cI cP cB cA : ClassId} {ad : Nat → Nat} {tL tC : Nat}
end
set_option maxHeartbeats 4000000 in
set_option maxRecDepth 100000 in
theorem m_X7_page {l : Launch} {D : va_G} {cI cP cB cA : ClassId} {ad : Nat → Nat} {tL tC : Nat} {x1 : Int32} {x2 : Int32} {S : Stt} {res : Int32 × Stt} (hf : f_X7_page x1 x2 S = some res) : Ct l D cI cP cB cA 79 ad tL tC yX7_page cX7_page 3 (some .int) 3 [.ref (ad 0), .int x1, .int x2] (cfC ad cI cP cB cA S) (QI D 79 ad res.1 (cfC ad cI cP cB cA res.2)) := by
  refine ctOf (by decide) (Nat.le_of_ble_eq_true rfl) ?_
  intro p e s m args below meth c ls X hr hlk hP hl
  have hS : va_S (Ar 79 ad) s.heap s.heap [] := va_S.rf
  have hx := X.1.1
  have hb := X.1.2.1
  have hl : lv_has ls 3 [(0, .ref (ad 0)), (1, .int x1), (2, .int x2)] := hl
  unfold f_X7_page at hf
  refine lv_aload_n hx hb dX7_page_0 rfl (lv_at hl 0 rfl) ?_
  refine g_LP_book X hP  tw_62 dX7_page_1 ?_
  refine lv_iload_n hx hb dX7_page_4 rfl (lv_at hl 1 rfl) ?_
  obtain ⟨q1, e2, hf⟩ := bind_some hf
  refine aftI hS (cV (rest := []) X hP hS [.int x1] (m_X0_isOne (by decide) e2) cw_X0_isOne tw_169 tw_450 tw_644 (bk_lt (by decide)) (cf_Book (by decide)) rfl (fits9 (by first | decide | omega) (by decide)) rfl rfl hl.1 (Nat.le_of_ble_eq_true rfl) dX7_page_5 ⟨Nat.zero_le _, Nat.zero_le _⟩) (fun H locs hP hS => ?_)
  refine lv_if_eq (tgt := 20) hx hb dX7_page_8 (by decide) (fun c3 => ?_) (fun c3 => ?_)
  · rw [if_pos c3] at hf
    refine lv_iconst (v := (-1 : Int32)) hx hb dX7_page_20 (by decide) ?_
    cases hf
    exact rtI X hr hlk hP hS dX7_page_21
  · rw [if_neg c3] at hf
    refine lv_iload_n hx hb dX7_page_11 rfl (lv_at hl 2 rfl) ?_
    refine lv_if_lt (tgt := 20) hx hb dX7_page_12 (by decide) (fun c4 => ?_) (fun c4 => ?_)
    · rw [if_pos c4] at hf
      refine lv_iconst (v := (-1 : Int32)) hx hb dX7_page_20 (by decide) ?_
      cases hf
      exact rtI X hr hlk hP hS dX7_page_21
    · rw [if_neg c4] at hf
      refine lv_iload_n hx hb dX7_page_15 rfl (lv_at hl 2 rfl) ?_
      refine lv_iconst (v := (5 : Int32)) hx hb dX7_page_16 (by decide) ?_
      refine lv_icmp_le (tgt := 22) hx hb dX7_page_17 (by decide) (fun c5 => ?_) (fun c5 => ?_)
      · rw [if_pos c5] at hf
        refine lv_aload_n hx hb dX7_page_22 rfl (lv_at hl 0 rfl) ?_
        refine lv_aload_n hx hb dX7_page_23 rfl (lv_at hl 0 rfl) ?_
        refine g_LP_book X hP  tw_62 dX7_page_24 ?_
        refine lv_iload_n hx hb dX7_page_27 rfl (lv_at hl 1 rfl) ?_
        refine lv_iload_n hx hb dX7_page_28 rfl (lv_at hl 2 rfl) ?_
        obtain ⟨q6, e7, hf⟩ := bind_some hf
        refine aftI hS (cV (rest := [.ref (ad 0)]) X hP hS [.int x1, .int x2] (m_X0_tell (by decide) e7) cw_X0_tell tw_170 tw_451 tw_654 (bk_lt (by decide)) (cf_Book (by decide)) rfl (fits9 (by first | decide | omega) (by decide)) rfl rfl hl.1 (Nat.le_of_ble_eq_true rfl) dX7_page_29 ⟨Nat.zero_le _, Nat.zero_le _⟩) (fun H locs hP hS => ?_)
        refine p_LP_lastAsked X hP hS  tw_71 dX7_page_32 (fun H locs hP hS => ?_)
        refine lv_iconst (v := (1 : Int32)) hx hb dX7_page_35 (by decide) ?_
        cases hf
        exact rtI X hr hlk hP hS dX7_page_36
      · rw [if_neg c5] at hf
        refine lv_iconst (v := (-1 : Int32)) hx hb dX7_page_20 (by decide) ?_
        cases hf
        exact rtI X hr hlk hP hS dX7_page_21
/-! X7_read -/
section
variable {p : Program} {l : Launch} {e : Env} {s : State} {m : MethodId} {args : Array Value} {below : List Frame} {meth : Method} {c : Code}
variable {D : va_G} {cI cP cB cA : ClassId} {ad : Nat → Nat} {tL tC : Nat}
set_option maxHeartbeats 4000000 in
set_option maxRecDepth 100000 in
theorem vb_X7_read_83 (X : Cx D cI cP cB cA 79 ad tL tC p s m c cX7_read 4 args RX7) (hr : meth.sig.returnType = (some .int)) (hlk : meth.locks = false) {res : Int32 × Stt} (kb : Int32 → Int32 → Stt → Option (Int32 × Stt)) (ke : Stt → Option (Int32 × Stt)) (hkb : ∀ (x1 : Int32) (x2 : Int32) (S : Stt) (H : Heap) (locs : List Loc) (ls : Array Slot), kb x1 x2 S = some res → va_P D vwCl (wl 79 ad (cfC ad cI cP cB cA S)) H → va_S (Ar 79 ad) s.heap H locs → lv_has ls 4 [(0, .ref (ad 0)), (1, .int x1), (2, .int x2)] → W p l e (rmD 3) s m args below meth c H locs 0 0 (MQ below (QI D 79 ad res.1 (cfC ad cI cP cB cA res.2)) args s 0 0 (Ar 79 ad)) (F0 m 83 ls [])) (hke : ∀ (S : Stt) (H : Heap) (locs : List Loc) (ls : Array Slot), ke S = some res → va_P D vwCl (wl 79 ad (cfC ad cI cP cB cA S)) H → va_S (Ar 79 ad) s.heap H locs → lv_has ls 4 [] → W p l e (rmD 3) s m args below meth c H locs 0 0 (MQ below (QI D 79 ad res.1 (cfC ad cI cP cB cA res.2)) args s 0 0 (Ar 79 ad)) (F0 m 134 ls [])) : ∀ (x1 : Int32) (x2 : Int32) (S : Stt) (H : Heap) (locs : List Loc) (ls : Array Slot), fb_X7_read_83 kb ke x1 x2 S = some res → va_P D vwCl (wl 79 ad (cfC ad cI cP cB cA S)) H → va_S (Ar 79 ad) s.heap H locs → lv_has ls 4 [(0, .ref (ad 0)), (1, .int x1), (2, .int x2)] → W p l e (rmD 3) s m args below meth c H locs 0 0 (MQ below (QI D 79 ad res.1 (cfC ad cI cP cB cA res.2)) args s 0 0 (Ar 79 ad)) (F0 m 83 ls []) := by
  intro x1 x2 S H locs ls hf hP hS hl
  have hx := X.1.1
  have hb := X.1.2.1
  unfold fb_X7_read_83 at hf
  refine lv_iload_n hx hb dX7_read_83 rfl (lv_at hl 2 rfl) ?_
  refine lv_aload_n hx hb dX7_read_84 rfl (lv_at hl 0 rfl) ?_
  refine g_LP_book X hP  tw_62 dX7_read_85 ?_
  refine gN_Book_count X hP (by decide) tw_28 dX7_read_88 ?_
  refine lv_icmp_ge (tgt := 134) hx hb dX7_read_91 (by decide) (fun c14 => ?_) (fun c14 => ?_)
  · rw [if_pos c14] at hf
    exact hke  _ _ _ ls hf  hP hS (lv_sub hl [] rfl)
  · rw [if_neg c14] at hf
    refine lv_aload_n hx hb dX7_read_94 rfl (lv_at hl 0 rfl) ?_
    refine g_LP_rows X hP  tw_60 dX7_read_95 ?_
    refine lv_iload_n hx hb dX7_read_98 rfl (lv_at hl 1 rfl) ?_
    refine lv_iload_n hx hb dX7_read_99 rfl (lv_at hl 2 rfl) ?_
    obtain ⟨q15, e16, hf⟩ := bind_some hf
    refine aftI hS (cV (rest := []) X hP hS [.int x1, .int x2] (m_X6_placeOf (by decide) e16) cw_X6_placeOf tw_131 tw_411 tw_699 (sh_lt (by decide)) (cf_Shelf (by decide)) rfl (fits9 (by first | decide | omega) (by decide)) rfl rfl hl.1 (Nat.le_of_ble_eq_true rfl) dX7_read_100 ⟨Nat.zero_le _, Nat.zero_le _⟩) (fun H locs hP hS => ?_)
    refine lv_istore_n (lv' := [(3, .int q15.1), (0, .ref (ad 0)), (1, .int x1), (2, .int x2)]) hx hb dX7_read_103 rfl hl (by decide) rfl (fun ls hl => ?_)
    refine lv_aload_n hx hb dX7_read_104 rfl (lv_at hl 1 rfl) ?_
    refine g_LP_book X hP  tw_62 dX7_read_105 ?_
    refine lv_iload_n hx hb dX7_read_108 rfl (lv_at hl 0 rfl) ?_
    obtain ⟨q17, e18, hf⟩ := bind_some hf
    refine aftI hS (cV (rest := []) X hP hS [.int q15.1] (m_X0_isOne (by decide) e18) cw_X0_isOne tw_169 tw_450 tw_644 (bk_lt (by decide)) (cf_Book (by decide)) rfl (fits9 (by first | decide | omega) (by decide)) rfl rfl hl.1 (Nat.le_of_ble_eq_true rfl) dX7_read_109 ⟨Nat.zero_le _, Nat.zero_le _⟩) (fun H locs hP hS => ?_)
    refine lv_if_eq (tgt := 128) hx hb dX7_read_112 (by decide) (fun c19 => ?_) (fun c19 => ?_)
    · rw [if_pos c19] at hf
      refine lv_iinc (v := (x2 + (1 : Int32))) (lv' := [(2, .int (x2 + (1 : Int32))), (3, .int q15.1), (0, .ref (ad 0)), (1, .int x1)]) hx hb dX7_read_128 hl (k := 3) rfl rfl (by decide) rfl (fun ls hl => ?_)
      refine lv_goto (tgt := 83) hx hb dX7_read_131 (by decide) ?_
      exact hkb _ _ _ _ _ ls hf  hP hS (lv_sub hl [2, 3, 0] rfl)
    · rw [if_neg c19] at hf
      refine lv_aload_n hx hb dX7_read_115 rfl (lv_at hl 1 rfl) ?_
      refine g_LP_book X hP  tw_62 dX7_read_116 ?_
      refine gN_Book_pages X hP (by decide) tw_22 dX7_read_119 ?_
      refine lv_iload_n hx hb dX7_read_122 rfl (lv_at hl 0 rfl) ?_
      obtain ⟨g20, hf⟩ := grd_some hf
      refine q_pages X hP (by decide) g20 dX7_read_123 ?_
      refine lv_iload_n hx hb dX7_read_124 rfl (lv_at hl 3 rfl) ?_
      refine pN_Page_day X hP hS (by decide) (ixb_lt g20) tw_18 dX7_read_125 (fun H locs hP hS => ?_)
      refine lv_iinc (v := (x2 + (1 : Int32))) (lv' := [(2, .int (x2 + (1 : Int32))), (3, .int q15.1), (0, .ref (ad 0)), (1, .int x1)]) hx hb dX7_read_128 hl (k := 3) rfl rfl (by decide) rfl (fun ls hl => ?_)
      refine lv_goto (tgt := 83) hx hb dX7_read_131 (by decide) ?_
      exact hkb _ _ _ _ _ ls hf  hP hS (lv_sub hl [2, 3, 0] rfl)
set_option maxHeartbeats 4000000 in
set_option maxRecDepth 100000 in
theorem vl_X7_read_83 (X : Cx D cI cP cB cA 79 ad tL tC p s m c cX7_read 4 args RX7) (hr : meth.sig.returnType = (some .int)) (hlk : meth.locks = false) {res : Int32 × Stt} (ke : Stt → Option (Int32 × Stt)) (hke : ∀ (S : Stt) (H : Heap) (locs : List Loc) (ls : Array Slot), ke S = some res → va_P D vwCl (wl 79 ad (cfC ad cI cP cB cA S)) H → va_S (Ar 79 ad) s.heap H locs → lv_has ls 4 [] → W p l e (rmD 3) s m args below meth c H locs 0 0 (MQ below (QI D 79 ad res.1 (cfC ad cI cP cB cA res.2)) args s 0 0 (Ar 79 ad)) (F0 m 134 ls [])) : ∀ (n : Nat), ∀ (x1 : Int32) (x2 : Int32) (S : Stt) (H : Heap) (locs : List Loc) (ls : Array Slot), fl_X7_read_83 ke n x1 x2 S = some res → va_P D vwCl (wl 79 ad (cfC ad cI cP cB cA S)) H → va_S (Ar 79 ad) s.heap H locs → lv_has ls 4 [(0, .ref (ad 0)), (1, .int x1), (2, .int x2)] → W p l e (rmD 3) s m args below meth c H locs 0 0 (MQ below (QI D 79 ad res.1 (cfC ad cI cP cB cA res.2)) args s 0 0 (Ar 79 ad)) (F0 m 83 ls []) := by
  intro n
  induction n with
  | zero =>
    intro x1 x2 S H locs ls hf hP hS hl
    cases hf
  | succ n ih =>
    intro x1 x2 S H locs ls hf hP hS hl
    exact vb_X7_read_83 X hr hlk _ ke ih hke x1 x2 S H locs ls hf  hP hS hl
end
set_option maxHeartbeats 4000000 in
set_option maxRecDepth 100000 in
theorem m_X7_read {l : Launch} {D : va_G} {cI cP cB cA : ClassId} {ad : Nat → Nat} {tL tC : Nat} {x1 : Int32} {S : Stt} {res : Int32 × Stt} (hf : f_X7_read x1 S = some res) : Ct l D cI cP cB cA 79 ad tL tC yX7_read cX7_read 4 (some .int) 3 [.ref (ad 0), .int x1] (cfC ad cI cP cB cA S) (QI D 79 ad res.1 (cfC ad cI cP cB cA res.2)) := by
  refine ctOf (by decide) (Nat.le_of_ble_eq_true rfl) ?_
  intro p e s m args below meth c ls X hr hlk hP hl
  have hS : va_S (Ar 79 ad) s.heap s.heap [] := va_S.rf
  have hx := X.1.1
  have hb := X.1.2.1
  have hl : lv_has ls 4 [(0, .ref (ad 0)), (1, .int x1)] := hl
  unfold f_X7_read at hf
  refine lv_aload_n hx hb dX7_read_0 rfl (lv_at hl 0 rfl) ?_
  refine g_LP_rows X hP  tw_60 dX7_read_1 ?_
  refine lv_iload_n hx hb dX7_read_4 rfl (lv_at hl 1 rfl) ?_
  obtain ⟨q1, e2, hf⟩ := bind_some hf
  refine aftI hS (cV (rest := []) X hP hS [.int x1] (m_X6_isOne (by decide) e2) cw_X6_isOne tw_125 tw_405 tw_694 (sh_lt (by decide)) (cf_Shelf (by decide)) rfl (fits9 (by first | decide | omega) (by decide)) rfl rfl hl.1 (Nat.le_of_ble_eq_true rfl) dX7_read_5 ⟨Nat.zero_le _, Nat.zero_le _⟩) (fun H locs hP hS => ?_)
  refine lv_if_ne (tgt := 13) hx hb dX7_read_8 (by decide) (fun c3 => ?_) (fun c3 => ?_)
  · rw [if_neg c3] at hf
    refine lv_aload_n hx hb dX7_read_13 rfl (lv_at hl 0 rfl) ?_
    refine g_LP_book X hP  tw_62 dX7_read_14 ?_
    refine gN_Book_count X hP (by decide) tw_28 dX7_read_17 ?_
    refine lv_if_ne (tgt := 26) hx hb dX7_read_20 (by decide) (fun c4 => ?_) (fun c4 => ?_)
    · rw [if_neg c4] at hf
      refine lv_aload_n hx hb dX7_read_26 rfl (lv_at hl 0 rfl) ?_
      refine g_LP_rows X hP  tw_60 dX7_read_27 ?_
      refine lv_iload_n hx hb dX7_read_30 rfl (lv_at hl 1 rfl) ?_
      obtain ⟨q5, e6, hf⟩ := bind_some hf
      refine aftI hS (cV (rest := []) X hP hS [.int x1] (m_X6_isThere (by decide) e6) cw_X6_isThere tw_129 tw_409 tw_695 (sh_lt (by decide)) (cf_Shelf (by decide)) rfl (fits9 (by first | decide | omega) (by decide)) rfl rfl hl.1 (Nat.le_of_ble_eq_true rfl) dX7_read_31 ⟨Nat.zero_le _, Nat.zero_le _⟩) (fun H locs hP hS => ?_)
      refine lv_if_ne (tgt := 43) hx hb dX7_read_34 (by decide) (fun c7 => ?_) (fun c7 => ?_)
      · rw [if_neg c7] at hf
        refine lv_aload_n hx hb dX7_read_43 rfl (lv_at hl 0 rfl) ?_
        refine g_LP_rows X hP  tw_60 dX7_read_44 ?_
        refine lv_iload_n hx hb dX7_read_47 rfl (lv_at hl 1 rfl) ?_
        obtain ⟨q8, e9, hf⟩ := bind_some hf
        refine aftI hS (cV (rest := []) X hP hS [.int x1] (m_X6_sizeOf (by decide) e9) cw_X6_sizeOf tw_141 tw_422 tw_698 (sh_lt (by decide)) (cf_Shelf (by decide)) rfl (fits9 (by first | decide | omega) (by decide)) rfl rfl hl.1 (Nat.le_of_ble_eq_true rfl) dX7_read_48 ⟨Nat.zero_le _, Nat.zero_le _⟩) (fun H locs hP hS => ?_)
        refine lv_aload_n hx hb dX7_read_51 rfl (lv_at hl 0 rfl) ?_
        refine g_LP_book X hP  tw_62 dX7_read_52 ?_
        refine gN_Book_count X hP (by decide) tw_28 dX7_read_55 ?_
        refine lv_icmp_eq (tgt := 67) hx hb dX7_read_58 (by decide) (fun c10 => ?_) (fun c10 => ?_)
        · rw [if_pos c10] at hf
          refine lv_aload_n hx hb dX7_read_67 rfl (lv_at hl 0 rfl) ?_
          refine lv_iload_n hx hb dX7_read_68 rfl (lv_at hl 1 rfl) ?_
          obtain ⟨q11, e12, hf⟩ := bind_some hf
          refine aftI hS (cV (rest := []) X hP hS [.int x1] (m_X7_namesEachPageOnce  e12) cw_X7_namesEachPageOnce tw_184 tw_460 tw_756 (by decide) (cf_LP ) rfl (fits9 (by first | decide | omega) (by decide)) rfl rfl hl.1 (Nat.le_of_ble_eq_true rfl) dX7_read_69 ⟨Nat.zero_le _, Nat.zero_le _⟩) (fun H locs hP hS => ?_)
          refine lv_if_ne (tgt := 81) hx hb dX7_read_72 (by decide) (fun c13 => ?_) (fun c13 => ?_)
          · rw [if_neg c13] at hf
            refine lv_iconst (v := (0 : Int32)) hx hb dX7_read_81 (by decide) ?_
            refine lv_istore_n (lv' := [(2, .int (0 : Int32)), (0, .ref (ad 0)), (1, .int x1)]) hx hb dX7_read_82 rfl hl (by decide) rfl (fun ls hl => ?_)
            refine vl_X7_read_83 X hr hlk _ ?_ 300 _ _ _ _ _ ls hf  hP hS (lv_sub hl [1, 2, 0] rfl)
            intro S H locs ls hf hP hS hl
            refine lv_iconst (v := (1 : Int32)) hx hb dX7_read_134 (by decide) ?_
            cases hf
            exact rtI X hr hlk hP hS dX7_read_135
          · rw [if_pos c13] at hf
            refine lv_aload_n hx hb dX7_read_75 rfl (lv_at hl 0 rfl) ?_
            refine lv_iconst (v := (3 : Int32)) hx hb dX7_read_76 (by decide) ?_
            obtain ⟨q21, e22, hf⟩ := bind_some hf
            refine aftI hS (cV (rest := []) X hP hS [.int (3 : Int32)] (m_X7_refuse  e22) cw_X7_refuse tw_126 tw_406 tw_754 (by decide) (cf_LP ) rfl (fits9 (by first | decide | omega) (by decide)) rfl rfl hl.1 (Nat.le_of_ble_eq_true rfl) dX7_read_77 ⟨Nat.zero_le _, Nat.zero_le _⟩) (fun H locs hP hS => ?_)
            cases hf
            exact rtI X hr hlk hP hS dX7_read_80
        · rw [if_neg c10] at hf
          refine lv_aload_n hx hb dX7_read_61 rfl (lv_at hl 0 rfl) ?_
          refine lv_iconst (v := (5 : Int32)) hx hb dX7_read_62 (by decide) ?_
          obtain ⟨q23, e24, hf⟩ := bind_some hf
          refine aftI hS (cV (rest := []) X hP hS [.int (5 : Int32)] (m_X7_refuse  e24) cw_X7_refuse tw_126 tw_406 tw_754 (by decide) (cf_LP ) rfl (fits9 (by first | decide | omega) (by decide)) rfl rfl hl.1 (Nat.le_of_ble_eq_true rfl) dX7_read_63 ⟨Nat.zero_le _, Nat.zero_le _⟩) (fun H locs hP hS => ?_)
          cases hf
          exact rtI X hr hlk hP hS dX7_read_66
      · rw [if_pos c7] at hf
        refine lv_aload_n hx hb dX7_read_37 rfl (lv_at hl 0 rfl) ?_
        refine lv_iconst (v := (1 : Int32)) hx hb dX7_read_38 (by decide) ?_
        obtain ⟨q25, e26, hf⟩ := bind_some hf
        refine aftI hS (cV (rest := []) X hP hS [.int (1 : Int32)] (m_X7_refuse  e26) cw_X7_refuse tw_126 tw_406 tw_754 (by decide) (cf_LP ) rfl (fits9 (by first | decide | omega) (by decide)) rfl rfl hl.1 (Nat.le_of_ble_eq_true rfl) dX7_read_39 ⟨Nat.zero_le _, Nat.zero_le _⟩) (fun H locs hP hS => ?_)
        cases hf
        exact rtI X hr hlk hP hS dX7_read_42
    · rw [if_pos c4] at hf
      refine lv_bipush (v := (-4 : Int32)) hx hb dX7_read_23 (by decide) ?_
      cases hf
      exact rtI X hr hlk hP hS dX7_read_25
  · rw [if_pos c3] at hf
    refine lv_iconst (v := (-1 : Int32)) hx hb dX7_read_11 (by decide) ?_
    cases hf
    exact rtI X hr hlk hP hS dX7_read_12
/-! X8_askedRow -/
section
variable {p : Program} {l : Launch} {e : Env} {s : State} {m : MethodId} {args : Array Value} {below : List Frame} {meth : Method} {c : Code}
variable {D : va_G} {cI cP cB cA : ClassId} {ad : Nat → Nat} {tL tC : Nat}
end
set_option maxHeartbeats 4000000 in
set_option maxRecDepth 100000 in
theorem m_X8_askedRow {l : Launch} {D : va_G} {cI cP cB cA : ClassId} {ad : Nat → Nat} {tL tC : Nat} {x1 : Int32} {S : Stt} {res : Int32 × Stt} (hf : f_X8_askedRow x1 S = some res) : Ct l D cI cP cB cA 19 ad tL tC yX8_askedRow cX8_askedRow 2 (some .int) 3 [.ref (ad 0), .int x1] (cfM ad cI S) (QI D 19 ad res.1 (cfM ad cI res.2)) := by
  refine ctOf (by decide) (Nat.le_of_ble_eq_true rfl) ?_
  intro p e s m args below meth c ls X hr hlk hP hl
  have hS : va_S (Ar 19 ad) s.heap s.heap [] := va_S.rf
  have hx := X.1.1
  have hb := X.1.2.1
  have hl : lv_has ls 2 [(0, .ref (ad 0)), (1, .int x1)] := hl
  unfold f_X8_askedRow at hf
  refine lv_iload_n hx hb dX8_askedRow_0 rfl (lv_at hl 1 rfl) ?_
  obtain ⟨q1, e2, hf⟩ := bind_some hf
  refine aftI hS (cS (rest := []) X hP hS [.int x1] (m_X8_isRow  e2) cw_X8_isRow tw_287 tw_545 (fits9 (by first | decide | omega) (by decide)) rfl rfl hl.1 (Nat.le_of_ble_eq_true rfl) dX8_askedRow_1 ⟨Nat.zero_le _, Nat.zero_le _⟩) (fun H locs hP hS => ?_)
  refine lv_if_ne (tgt := 11) hx hb dX8_askedRow_4 (by decide) (fun c3 => ?_) (fun c3 => ?_)
  · rw [if_neg c3] at hf
    refine lv_aload_n hx hb dX8_askedRow_11 rfl (lv_at hl 0 rfl) ?_
    refine g_M_sizes X hP  tw_81 dX8_askedRow_12 ?_
    refine lv_iload_n hx hb dX8_askedRow_15 rfl (lv_at hl 1 rfl) ?_
    obtain ⟨g4, hf⟩ := grd_some hf
    refine r_m_sizes X hP  g4 dX8_askedRow_16 ?_
    refine lv_if_ge (tgt := 28) hx hb dX8_askedRow_17 (by decide) (fun c5 => ?_) (fun c5 => ?_)
    · rw [if_pos c5] at hf
      refine lv_iconst (v := (0 : Int32)) hx hb dX8_askedRow_28 (by decide) ?_
      cases hf
      exact rtI X hr hlk hP hS dX8_askedRow_29
    · rw [if_neg c5] at hf
      refine lv_aload_n hx hb dX8_askedRow_20 rfl (lv_at hl 0 rfl) ?_
      refine lv_iconst (v := (1 : Int32)) hx hb dX8_askedRow_21 (by decide) ?_
      obtain ⟨q6, e7, hf⟩ := bind_some hf
      refine aftI hS (cV (rest := []) X hP hS [.int (1 : Int32)] (m_X8_meet  e7) cw_X8_meet tw_289 tw_547 tw_762 (by decide) (cf_M ) rfl (fits9 (by first | decide | omega) (by decide)) rfl rfl hl.1 (Nat.le_of_ble_eq_true rfl) dX8_askedRow_22 ⟨Nat.zero_le _, Nat.zero_le _⟩) (fun H locs hP hS => ?_)
      refine lv_goto (tgt := 29) hx hb dX8_askedRow_25 (by decide) ?_
      cases hf
      exact rtI X hr hlk hP hS dX8_askedRow_29
  · rw [if_pos c3] at hf
    refine lv_iconst (v := (-1 : Int32)) hx hb dX8_askedRow_7 (by decide) ?_
    refine lv_goto (tgt := 29) hx hb dX8_askedRow_8 (by decide) ?_
    cases hf
    exact rtI X hr hlk hP hS dX8_askedRow_29
/-! X8_askedText -/
section
variable {p : Program} {l : Launch} {e : Env} {s : State} {m : MethodId} {args : Array Value} {below : List Frame} {meth : Method} {c : Code}
variable {D : va_G} {cI cP cB cA : ClassId} {ad : Nat → Nat} {tL tC : Nat}
end
set_option maxHeartbeats 4000000 in
set_option maxRecDepth 100000 in
theorem m_X8_askedText {l : Launch} {D : va_G} {cI cP cB cA : ClassId} {ad : Nat → Nat} {tL tC : Nat} {x1 : Int32} {S : Stt} {res : Int32 × Stt} (hf : f_X8_askedText x1 S = some res) : Ct l D cI cP cB cA 19 ad tL tC yX8_askedText cX8_askedText 2 (some .int) 3 [.ref (ad 0), .int x1] (cfM ad cI S) (QI D 19 ad res.1 (cfM ad cI res.2)) := by
  refine ctOf (by decide) (Nat.le_of_ble_eq_true rfl) ?_
  intro p e s m args below meth c ls X hr hlk hP hl
  have hS : va_S (Ar 19 ad) s.heap s.heap [] := va_S.rf
  have hx := X.1.1
  have hb := X.1.2.1
  have hl : lv_has ls 2 [(0, .ref (ad 0)), (1, .int x1)] := hl
  unfold f_X8_askedText at hf
  refine lv_iload_n hx hb dX8_askedText_0 rfl (lv_at hl 1 rfl) ?_
  obtain ⟨q1, e2, hf⟩ := bind_some hf
  refine aftI hS (cS (rest := []) X hP hS [.int x1] (m_X8_isText  e2) cw_X8_isText tw_301 tw_558 (fits9 (by first | decide | omega) (by decide)) rfl rfl hl.1 (Nat.le_of_ble_eq_true rfl) dX8_askedText_1 ⟨Nat.zero_le _, Nat.zero_le _⟩) (fun H locs hP hS => ?_)
  refine lv_if_ne (tgt := 11) hx hb dX8_askedText_4 (by decide) (fun c3 => ?_) (fun c3 => ?_)
  · rw [if_neg c3] at hf
    refine lv_aload_n hx hb dX8_askedText_11 rfl (lv_at hl 0 rfl) ?_
    refine g_M_lengths X hP  tw_84 dX8_askedText_12 ?_
    refine lv_iload_n hx hb dX8_askedText_15 rfl (lv_at hl 1 rfl) ?_
    obtain ⟨g4, hf⟩ := grd_some hf
    refine r_m_lengths X hP  g4 dX8_askedText_16 ?_
    refine lv_if_ge (tgt := 28) hx hb dX8_askedText_17 (by decide) (fun c5 => ?_) (fun c5 => ?_)
    · rw [if_pos c5] at hf
      refine lv_iconst (v := (0 : Int32)) hx hb dX8_askedText_28 (by decide) ?_
      cases hf
      exact rtI X hr hlk hP hS dX8_askedText_29
    · rw [if_neg c5] at hf
      refine lv_aload_n hx hb dX8_askedText_20 rfl (lv_at hl 0 rfl) ?_
      refine lv_iconst (v := (1 : Int32)) hx hb dX8_askedText_21 (by decide) ?_
      obtain ⟨q6, e7, hf⟩ := bind_some hf
      refine aftI hS (cV (rest := []) X hP hS [.int (1 : Int32)] (m_X8_meet  e7) cw_X8_meet tw_289 tw_547 tw_762 (by decide) (cf_M ) rfl (fits9 (by first | decide | omega) (by decide)) rfl rfl hl.1 (Nat.le_of_ble_eq_true rfl) dX8_askedText_22 ⟨Nat.zero_le _, Nat.zero_le _⟩) (fun H locs hP hS => ?_)
      refine lv_goto (tgt := 29) hx hb dX8_askedText_25 (by decide) ?_
      cases hf
      exact rtI X hr hlk hP hS dX8_askedText_29
  · rw [if_pos c3] at hf
    refine lv_iconst (v := (-1 : Int32)) hx hb dX8_askedText_7 (by decide) ?_
    refine lv_goto (tgt := 29) hx hb dX8_askedText_8 (by decide) ?_
    cases hf
    exact rtI X hr hlk hP hS dX8_askedText_29
/-! X8_copy -/
section
variable {p : Program} {l : Launch} {e : Env} {s : State} {m : MethodId} {args : Array Value} {below : List Frame} {meth : Method} {c : Code}
variable {D : va_G} {cI cP cB cA : ClassId} {ad : Nat → Nat} {tL tC : Nat}
set_option maxHeartbeats 4000000 in
set_option maxRecDepth 100000 in
theorem vb_X8_copy_104 (X : Cx D cI cP cB cA 19 ad tL tC p s m c cX8_copy 7 args RX8) (hr : meth.sig.returnType = (some .int)) (hlk : meth.locks = false) {res : Int32 × Stt} (kb : Int32 → Int32 → Int32 → Int32 → Int32 → Int32 → Stt → Option (Int32 × Stt)) (ke : Int32 → Int32 → Int32 → Stt → Option (Int32 × Stt)) (hkb : ∀ (x1 : Int32) (x2 : Int32) (x3 : Int32) (x4 : Int32) (x5 : Int32) (x6 : Int32) (S : Stt) (H : Heap) (locs : List Loc) (ls : Array Slot), kb x1 x2 x3 x4 x5 x6 S = some res → va_P D vwCl (wl 19 ad (cfM ad cI S)) H → va_S (Ar 19 ad) s.heap H locs → lv_has ls 7 [(0, .ref (ad 0)), (1, .int x1), (2, .int x2), (3, .int x3), (4, .int x4), (5, .int x5), (6, .int x6)] → W p l e (rmD 3) s m args below meth c H locs 0 0 (MQ below (QI D 19 ad res.1 (cfM ad cI res.2)) args s 0 0 (Ar 19 ad)) (F0 m 104 ls [])) (hke : ∀ (x3 : Int32) (x4 : Int32) (x5 : Int32) (S : Stt) (H : Heap) (locs : List Loc) (ls : Array Slot), ke x3 x4 x5 S = some res → va_P D vwCl (wl 19 ad (cfM ad cI S)) H → va_S (Ar 19 ad) s.heap H locs → lv_has ls 7 [(0, .ref (ad 0)), (3, .int x3), (4, .int x4), (5, .int x5)] → W p l e (rmD 3) s m args below meth c H locs 0 0 (MQ below (QI D 19 ad res.1 (cfM ad cI res.2)) args s 0 0 (Ar 19 ad)) (F0 m 133 ls [])) : ∀ (x1 : Int32) (x2 : Int32) (x3 : Int32) (x4 : Int32) (x5 : Int32) (x6 : Int32) (S : Stt) (H : Heap) (locs : List Loc) (ls : Array Slot), fb_X8_copy_104 kb ke x1 x2 x3 x4 x5 x6 S = some res → va_P D vwCl (wl 19 ad (cfM ad cI S)) H → va_S (Ar 19 ad) s.heap H locs → lv_has ls 7 [(0, .ref (ad 0)), (1, .int x1), (2, .int x2), (3, .int x3), (4, .int x4), (5, .int x5), (6, .int x6)] → W p l e (rmD 3) s m args below meth c H locs 0 0 (MQ below (QI D 19 ad res.1 (cfM ad cI res.2)) args s 0 0 (Ar 19 ad)) (F0 m 104 ls []) := by
  intro x1 x2 x3 x4 x5 x6 S H locs ls hf hP hS hl
  have hx := X.1.1
  have hb := X.1.2.1
  unfold fb_X8_copy_104 at hf
  refine lv_iload hx hb dX8_copy_104 (lv_at hl 6 rfl) ?_
  refine lv_iload hx hb dX8_copy_106 (lv_at hl 5 rfl) ?_
  refine lv_icmp_ge (tgt := 133) hx hb dX8_copy_108 (by decide) (fun c26 => ?_) (fun c26 => ?_)
  · rw [if_pos c26] at hf
    exact hke _ _ _ _ _ _ ls hf  hP hS (lv_sub hl [0, 3, 4, 5] rfl)
  · rw [if_neg c26] at hf
    refine lv_aload_n hx hb dX8_copy_111 rfl (lv_at hl 0 rfl) ?_
    refine g_M_moving X hP  tw_83 dX8_copy_112 ?_
    refine lv_iload hx hb dX8_copy_115 (lv_at hl 6 rfl) ?_
    refine lv_aload_n hx hb dX8_copy_117 rfl (lv_at hl 0 rfl) ?_
    refine lv_iload_n hx hb dX8_copy_118 rfl (lv_at hl 1 rfl) ?_
    refine lv_iload_n hx hb dX8_copy_119 rfl (lv_at hl 2 rfl) ?_
    refine lv_iload hx hb dX8_copy_120 (lv_at hl 6 rfl) ?_
    refine lv_iadd hx hb dX8_copy_122 ?_
    obtain ⟨q27, e28, hf⟩ := bind_some hf
    refine aftI hS (cV (rest := [.int x6, .ref (ad 4)]) X hP hS [.int x1, .int (x2 + x6)] (m_X8_rowAt  e28) cw_X8_rowAt tw_293 tw_551 tw_766 (by decide) (cf_M ) rfl (fits9 (by first | decide | omega) (by decide)) rfl rfl hl.1 (Nat.le_of_ble_eq_true rfl) dX8_copy_123 ⟨Nat.zero_le _, Nat.zero_le _⟩) (fun H locs hP hS => ?_)
    obtain ⟨g29, hf⟩ := grd_some hf
    refine w_m_moving X hP hS  g29 dX8_copy_126 (fun H locs hP hS => ?_)
    refine lv_iinc (v := (x6 + (1 : Int32))) (lv' := [(6, .int (x6 + (1 : Int32))), (0, .ref (ad 0)), (1, .int x1), (2, .int x2), (3, .int x3), (4, .int x4), (5, .int x5)]) hx hb dX8_copy_127 hl (k := 6) rfl rfl (by decide) rfl (fun ls hl => ?_)
    refine lv_goto (tgt := 104) hx hb dX8_copy_130 (by decide) ?_
    exact hkb _ _ _ _ _ _ _ _ _ ls hf  hP hS (lv_sub hl [1, 2, 3, 4, 5, 6, 0] rfl)
set_option maxHeartbeats 4000000 in
set_option maxRecDepth 100000 in
theorem vl_X8_copy_104 (X : Cx D cI cP cB cA 19 ad tL tC p s m c cX8_copy 7 args RX8) (hr : meth.sig.returnType = (some .int)) (hlk : meth.locks = false) {res : Int32 × Stt} (ke : Int32 → Int32 → Int32 → Stt → Option (Int32 × Stt)) (hke : ∀ (x3 : Int32) (x4 : Int32) (x5 : Int32) (S : Stt) (H : Heap) (locs : List Loc) (ls : Array Slot), ke x3 x4 x5 S = some res → va_P D vwCl (wl 19 ad (cfM ad cI S)) H → va_S (Ar 19 ad) s.heap H locs → lv_has ls 7 [(0, .ref (ad 0)), (3, .int x3), (4, .int x4), (5, .int x5)] → W p l e (rmD 3) s m args below meth c H locs 0 0 (MQ below (QI D 19 ad res.1 (cfM ad cI res.2)) args s 0 0 (Ar 19 ad)) (F0 m 133 ls [])) : ∀ (n : Nat), ∀ (x1 : Int32) (x2 : Int32) (x3 : Int32) (x4 : Int32) (x5 : Int32) (x6 : Int32) (S : Stt) (H : Heap) (locs : List Loc) (ls : Array Slot), fl_X8_copy_104 ke n x1 x2 x3 x4 x5 x6 S = some res → va_P D vwCl (wl 19 ad (cfM ad cI S)) H → va_S (Ar 19 ad) s.heap H locs → lv_has ls 7 [(0, .ref (ad 0)), (1, .int x1), (2, .int x2), (3, .int x3), (4, .int x4), (5, .int x5), (6, .int x6)] → W p l e (rmD 3) s m args below meth c H locs 0 0 (MQ below (QI D 19 ad res.1 (cfM ad cI res.2)) args s 0 0 (Ar 19 ad)) (F0 m 104 ls []) := by
  intro n
  induction n with
  | zero =>
    intro x1 x2 x3 x4 x5 x6 S H locs ls hf hP hS hl
    cases hf
  | succ n ih =>
    intro x1 x2 x3 x4 x5 x6 S H locs ls hf hP hS hl
    exact vb_X8_copy_104 X hr hlk _ ke ih hke x1 x2 x3 x4 x5 x6 S H locs ls hf  hP hS hl
set_option maxHeartbeats 4000000 in
set_option maxRecDepth 100000 in
theorem vb_X8_copy_136 (X : Cx D cI cP cB cA 19 ad tL tC p s m c cX8_copy 7 args RX8) (hr : meth.sig.returnType = (some .int)) (hlk : meth.locks = false) {res : Int32 × Stt} (kb : Int32 → Int32 → Int32 → Int32 → Stt → Option (Int32 × Stt)) (ke : Stt → Option (Int32 × Stt)) (hkb : ∀ (x3 : Int32) (x4 : Int32) (x5 : Int32) (x6 : Int32) (S : Stt) (H : Heap) (locs : List Loc) (ls : Array Slot), kb x3 x4 x5 x6 S = some res → va_P D vwCl (wl 19 ad (cfM ad cI S)) H → va_S (Ar 19 ad) s.heap H locs → lv_has ls 7 [(0, .ref (ad 0)), (3, .int x3), (4, .int x4), (5, .int x5), (6, .int x6)] → W p l e (rmD 3) s m args below meth c H locs 0 0 (MQ below (QI D 19 ad res.1 (cfM ad cI res.2)) args s 0 0 (Ar 19 ad)) (F0 m 136 ls [])) (hke : ∀ (S : Stt) (H : Heap) (locs : List Loc) (ls : Array Slot), ke S = some res → va_P D vwCl (wl 19 ad (cfM ad cI S)) H → va_S (Ar 19 ad) s.heap H locs → lv_has ls 7 [] → W p l e (rmD 3) s m args below meth c H locs 0 0 (MQ below (QI D 19 ad res.1 (cfM ad cI res.2)) args s 0 0 (Ar 19 ad)) (F0 m 166 ls [])) : ∀ (x3 : Int32) (x4 : Int32) (x5 : Int32) (x6 : Int32) (S : Stt) (H : Heap) (locs : List Loc) (ls : Array Slot), fb_X8_copy_136 kb ke x3 x4 x5 x6 S = some res → va_P D vwCl (wl 19 ad (cfM ad cI S)) H → va_S (Ar 19 ad) s.heap H locs → lv_has ls 7 [(0, .ref (ad 0)), (3, .int x3), (4, .int x4), (5, .int x5), (6, .int x6)] → W p l e (rmD 3) s m args below meth c H locs 0 0 (MQ below (QI D 19 ad res.1 (cfM ad cI res.2)) args s 0 0 (Ar 19 ad)) (F0 m 136 ls []) := by
  intro x3 x4 x5 x6 S H locs ls hf hP hS hl
  have hx := X.1.1
  have hb := X.1.2.1
  unfold fb_X8_copy_136 at hf
  refine lv_iload hx hb dX8_copy_136 (lv_at hl 4 rfl) ?_
  refine lv_iload hx hb dX8_copy_138 (lv_at hl 3 rfl) ?_
  refine lv_icmp_ge (tgt := 166) hx hb dX8_copy_140 (by decide) (fun c30 => ?_) (fun c30 => ?_)
  · rw [if_pos c30] at hf
    exact hke  _ _ _ ls hf  hP hS (lv_sub hl [] rfl)
  · rw [if_neg c30] at hf
    refine lv_aload_n hx hb dX8_copy_143 rfl (lv_at hl 0 rfl) ?_
    refine lv_iload_n hx hb dX8_copy_144 rfl (lv_at hl 1 rfl) ?_
    refine lv_iload hx hb dX8_copy_145 (lv_at hl 2 rfl) ?_
    refine lv_iload hx hb dX8_copy_147 (lv_at hl 4 rfl) ?_
    refine lv_iadd hx hb dX8_copy_149 ?_
    refine lv_aload_n hx hb dX8_copy_150 rfl (lv_at hl 0 rfl) ?_
    refine g_M_moving X hP  tw_83 dX8_copy_151 ?_
    refine lv_iload hx hb dX8_copy_154 (lv_at hl 4 rfl) ?_
    obtain ⟨g31, hf⟩ := grd_some hf
    refine r_m_moving X hP  g31 dX8_copy_156 ?_
    obtain ⟨q32, e33, hf⟩ := bind_some hf
    refine aftV hS (cV (rest := []) X hP hS [.int x3, .int (x4 + x6), .int (S.1 4 0 x6.toNatClampNeg)] (m_X8_setRow  e33) cw_X8_setRow tw_290 tw_548 tw_767 (by decide) (cf_M ) rfl (fits9 (by first | decide | omega) (by decide)) rfl rfl hl.1 (Nat.le_of_ble_eq_true rfl) dX8_copy_157 ⟨Nat.zero_le _, Nat.zero_le _⟩) (fun H locs hP hS => ?_)
    refine lv_iinc (v := (x6 + (1 : Int32))) (lv' := [(6, .int (x6 + (1 : Int32))), (0, .ref (ad 0)), (3, .int x3), (4, .int x4), (5, .int x5)]) hx hb dX8_copy_160 hl (k := 4) rfl rfl (by decide) rfl (fun ls hl => ?_)
    refine lv_goto (tgt := 136) hx hb dX8_copy_163 (by decide) ?_
    exact hkb _ _ _ _ _ _ _ ls hf  hP hS (lv_sub hl [1, 2, 3, 4, 0] rfl)
set_option maxHeartbeats 4000000 in
set_option maxRecDepth 100000 in
theorem vl_X8_copy_136 (X : Cx D cI cP cB cA 19 ad tL tC p s m c cX8_copy 7 args RX8) (hr : meth.sig.returnType = (some .int)) (hlk : meth.locks = false) {res : Int32 × Stt} (ke : Stt → Option (Int32 × Stt)) (hke : ∀ (S : Stt) (H : Heap) (locs : List Loc) (ls : Array Slot), ke S = some res → va_P D vwCl (wl 19 ad (cfM ad cI S)) H → va_S (Ar 19 ad) s.heap H locs → lv_has ls 7 [] → W p l e (rmD 3) s m args below meth c H locs 0 0 (MQ below (QI D 19 ad res.1 (cfM ad cI res.2)) args s 0 0 (Ar 19 ad)) (F0 m 166 ls [])) : ∀ (n : Nat), ∀ (x3 : Int32) (x4 : Int32) (x5 : Int32) (x6 : Int32) (S : Stt) (H : Heap) (locs : List Loc) (ls : Array Slot), fl_X8_copy_136 ke n x3 x4 x5 x6 S = some res → va_P D vwCl (wl 19 ad (cfM ad cI S)) H → va_S (Ar 19 ad) s.heap H locs → lv_has ls 7 [(0, .ref (ad 0)), (3, .int x3), (4, .int x4), (5, .int x5), (6, .int x6)] → W p l e (rmD 3) s m args below meth c H locs 0 0 (MQ below (QI D 19 ad res.1 (cfM ad cI res.2)) args s 0 0 (Ar 19 ad)) (F0 m 136 ls []) := by
  intro n
  induction n with
  | zero =>
    intro x3 x4 x5 x6 S H locs ls hf hP hS hl
    cases hf
  | succ n ih =>
    intro x3 x4 x5 x6 S H locs ls hf hP hS hl
    exact vb_X8_copy_136 X hr hlk _ ke ih hke x3 x4 x5 x6 S H locs ls hf  hP hS hl
end
set_option maxHeartbeats 4000000 in
set_option maxRecDepth 100000 in
theorem m_X8_copy {l : Launch} {D : va_G} {cI cP cB cA : ClassId} {ad : Nat → Nat} {tL tC : Nat} {x1 : Int32} {x2 : Int32} {x3 : Int32} {x4 : Int32} {x5 : Int32} {S : Stt} {res : Int32 × Stt} (hf : f_X8_copy x1 x2 x3 x4 x5 S = some res) : Ct l D cI cP cB cA 19 ad tL tC yX8_copy cX8_copy 7 (some .int) 3 [.ref (ad 0), .int x1, .int x2, .int x3, .int x4, .int x5] (cfM ad cI S) (QI D 19 ad res.1 (cfM ad cI res.2)) := by
  refine ctOf (by decide) (Nat.le_of_ble_eq_true rfl) ?_
  intro p e s m args below meth c ls X hr hlk hP hl
  have hS : va_S (Ar 19 ad) s.heap s.heap [] := va_S.rf
  have hx := X.1.1
  have hb := X.1.2.1
  have hl : lv_has ls 7 [(0, .ref (ad 0)), (1, .int x1), (2, .int x2), (3, .int x3), (4, .int x4), (5, .int x5)] := hl
  unfold f_X8_copy at hf
  refine lv_iload_n hx hb dX8_copy_0 rfl (lv_at hl 1 rfl) ?_
  obtain ⟨q1, e2, hf⟩ := bind_some hf
  refine aftI hS (cS (rest := []) X hP hS [.int x1] (m_X8_isRow  e2) cw_X8_isRow tw_287 tw_545 (fits9 (by first | decide | omega) (by decide)) rfl rfl hl.1 (Nat.le_of_ble_eq_true rfl) dX8_copy_1 ⟨Nat.zero_le _, Nat.zero_le _⟩) (fun H locs hP hS => ?_)
  refine lv_if_eq (tgt := 14) hx hb dX8_copy_4 (by decide) (fun c3 => ?_) (fun c3 => ?_)
  · rw [if_pos c3] at hf
    refine lv_iconst (v := (-1 : Int32)) hx hb dX8_copy_14 (by decide) ?_
    cases hf
    exact rtI X hr hlk hP hS dX8_copy_15
  · rw [if_neg c3] at hf
    refine lv_iload_n hx hb dX8_copy_7 rfl (lv_at hl 3 rfl) ?_
    obtain ⟨q4, e5, hf⟩ := bind_some hf
    refine aftI hS (cS (rest := []) X hP hS [.int x3] (m_X8_isRow  e5) cw_X8_isRow tw_287 tw_545 (fits9 (by first | decide | omega) (by decide)) rfl rfl hl.1 (Nat.le_of_ble_eq_true rfl) dX8_copy_8 ⟨Nat.zero_le _, Nat.zero_le _⟩) (fun H locs hP hS => ?_)
    refine lv_if_ne (tgt := 16) hx hb dX8_copy_11 (by decide) (fun c6 => ?_) (fun c6 => ?_)
    · rw [if_neg c6] at hf
      refine lv_iload hx hb dX8_copy_16 (lv_at hl 5 rfl) ?_
      refine lv_if_ge (tgt := 27) hx hb dX8_copy_18 (by decide) (fun c7 => ?_) (fun c7 => ?_)
      · rw [if_pos c7] at hf
        refine lv_aload_n hx hb dX8_copy_27 rfl (lv_at hl 0 rfl) ?_
        refine g_M_sizes X hP  tw_81 dX8_copy_28 ?_
        refine lv_iload_n hx hb dX8_copy_31 rfl (lv_at hl 1 rfl) ?_
        obtain ⟨g8, hf⟩ := grd_some hf
        refine r_m_sizes X hP  g8 dX8_copy_32 ?_
        refine lv_if_lt (tgt := 45) hx hb dX8_copy_33 (by decide) (fun c9 => ?_) (fun c9 => ?_)
        · rw [if_pos c9] at hf
          refine lv_aload_n hx hb dX8_copy_45 rfl (lv_at hl 0 rfl) ?_
          refine lv_iconst (v := (1 : Int32)) hx hb dX8_copy_46 (by decide) ?_
          obtain ⟨q10, e11, hf⟩ := bind_some hf
          refine aftI hS (cV (rest := []) X hP hS [.int (1 : Int32)] (m_X8_meet  e11) cw_X8_meet tw_289 tw_547 tw_762 (by decide) (cf_M ) rfl (fits9 (by first | decide | omega) (by decide)) rfl rfl hl.1 (Nat.le_of_ble_eq_true rfl) dX8_copy_47 ⟨Nat.zero_le _, Nat.zero_le _⟩) (fun H locs hP hS => ?_)
          cases hf
          exact rtI X hr hlk hP hS dX8_copy_50
        · rw [if_neg c9] at hf
          refine lv_aload_n hx hb dX8_copy_36 rfl (lv_at hl 0 rfl) ?_
          refine g_M_sizes X hP  tw_81 dX8_copy_37 ?_
          refine lv_iload_n hx hb dX8_copy_40 rfl (lv_at hl 3 rfl) ?_
          obtain ⟨g12, hf⟩ := grd_some hf
          refine r_m_sizes X hP  g12 dX8_copy_41 ?_
          refine lv_if_ge (tgt := 51) hx hb dX8_copy_42 (by decide) (fun c13 => ?_) (fun c13 => ?_)
          · rw [if_pos c13] at hf
            refine lv_iload_n hx hb dX8_copy_51 rfl (lv_at hl 2 rfl) ?_
            refine lv_if_lt (tgt := 95) hx hb dX8_copy_52 (by decide) (fun c14 => ?_) (fun c14 => ?_)
            · rw [if_pos c14] at hf
              refine lv_aload_n hx hb dX8_copy_95 rfl (lv_at hl 0 rfl) ?_
              refine lv_iconst (v := (2 : Int32)) hx hb dX8_copy_96 (by decide) ?_
              obtain ⟨q15, e16, hf⟩ := bind_some hf
              refine aftI hS (cV (rest := []) X hP hS [.int (2 : Int32)] (m_X8_meet  e16) cw_X8_meet tw_289 tw_547 tw_762 (by decide) (cf_M ) rfl (fits9 (by first | decide | omega) (by decide)) rfl rfl hl.1 (Nat.le_of_ble_eq_true rfl) dX8_copy_97 ⟨Nat.zero_le _, Nat.zero_le _⟩) (fun H locs hP hS => ?_)
              cases hf
              exact rtI X hr hlk hP hS dX8_copy_100
            · rw [if_neg c14] at hf
              refine lv_iload hx hb dX8_copy_55 (lv_at hl 4 rfl) ?_
              refine lv_if_lt (tgt := 95) hx hb dX8_copy_57 (by decide) (fun c17 => ?_) (fun c17 => ?_)
              · rw [if_pos c17] at hf
                refine lv_aload_n hx hb dX8_copy_95 rfl (lv_at hl 0 rfl) ?_
                refine lv_iconst (v := (2 : Int32)) hx hb dX8_copy_96 (by decide) ?_
                obtain ⟨q18, e19, hf⟩ := bind_some hf
                refine aftI hS (cV (rest := []) X hP hS [.int (2 : Int32)] (m_X8_meet  e19) cw_X8_meet tw_289 tw_547 tw_762 (by decide) (cf_M ) rfl (fits9 (by first | decide | omega) (by decide)) rfl rfl hl.1 (Nat.le_of_ble_eq_true rfl) dX8_copy_97 ⟨Nat.zero_le _, Nat.zero_le _⟩) (fun H locs hP hS => ?_)
                cases hf
                exact rtI X hr hlk hP hS dX8_copy_100
              · rw [if_neg c17] at hf
                refine lv_iload_n hx hb dX8_copy_60 rfl (lv_at hl 2 rfl) ?_
                refine lv_i2l hx hb dX8_copy_61 rfl ?_
                refine lv_iload hx hb dX8_copy_62 (lv_at hl 5 rfl) ?_
                refine lv_i2l hx hb dX8_copy_64 rfl ?_
                refine lv_ladd hx hb dX8_copy_65 ?_
                refine lv_aload_n hx hb dX8_copy_66 rfl (lv_at hl 0 rfl) ?_
                refine g_M_sizes X hP  tw_81 dX8_copy_67 ?_
                refine lv_iload_n hx hb dX8_copy_70 rfl (lv_at hl 1 rfl) ?_
                obtain ⟨g20, hf⟩ := grd_some hf
                refine r_m_sizes X hP  g20 dX8_copy_71 ?_
                refine lv_i2l hx hb dX8_copy_72 rfl ?_
                refine W.lcmp hx hb dX8_copy_73 ?_
                refine lv_if_gt (tgt := 95) hx hb dX8_copy_74 (by decide) (fun c21 => ?_) (fun c21 => ?_)
                · rw [if_pos c21] at hf
                  refine lv_aload_n hx hb dX8_copy_95 rfl (lv_at hl 0 rfl) ?_
                  refine lv_iconst (v := (2 : Int32)) hx hb dX8_copy_96 (by decide) ?_
                  obtain ⟨q22, e23, hf⟩ := bind_some hf
                  refine aftI hS (cV (rest := []) X hP hS [.int (2 : Int32)] (m_X8_meet  e23) cw_X8_meet tw_289 tw_547 tw_762 (by decide) (cf_M ) rfl (fits9 (by first | decide | omega) (by decide)) rfl rfl hl.1 (Nat.le_of_ble_eq_true rfl) dX8_copy_97 ⟨Nat.zero_le _, Nat.zero_le _⟩) (fun H locs hP hS => ?_)
                  cases hf
                  exact rtI X hr hlk hP hS dX8_copy_100
                · rw [if_neg c21] at hf
                  refine lv_iload hx hb dX8_copy_77 (lv_at hl 4 rfl) ?_
                  refine lv_i2l hx hb dX8_copy_79 rfl ?_
                  refine lv_iload hx hb dX8_copy_80 (lv_at hl 5 rfl) ?_
                  refine lv_i2l hx hb dX8_copy_82 rfl ?_
                  refine lv_ladd hx hb dX8_copy_83 ?_
                  refine lv_aload_n hx hb dX8_copy_84 rfl (lv_at hl 0 rfl) ?_
                  refine g_M_sizes X hP  tw_81 dX8_copy_85 ?_
                  refine lv_iload_n hx hb dX8_copy_88 rfl (lv_at hl 3 rfl) ?_
                  obtain ⟨g24, hf⟩ := grd_some hf
                  refine r_m_sizes X hP  g24 dX8_copy_89 ?_
                  refine lv_i2l hx hb dX8_copy_90 rfl ?_
                  refine W.lcmp hx hb dX8_copy_91 ?_
                  refine lv_if_le (tgt := 101) hx hb dX8_copy_92 (by decide) (fun c25 => ?_) (fun c25 => ?_)
                  · rw [if_pos c25] at hf
                    refine lv_iconst (v := (0 : Int32)) hx hb dX8_copy_101 (by decide) ?_
                    refine lv_istore (lv' := [(6, .int (0 : Int32)), (0, .ref (ad 0)), (1, .int x1), (2, .int x2), (3, .int x3), (4, .int x4), (5, .int x5)]) hx hb dX8_copy_102 hl (by decide) rfl (fun ls hl => ?_)
                    refine vl_X8_copy_104 X hr hlk _ ?_ 300 _ _ _ _ _ _ _ _ _ ls hf  hP hS (lv_sub hl [1, 2, 3, 4, 5, 6, 0] rfl)
                    intro x3 x4 x5 S H locs ls hf hP hS hl
                    refine lv_iconst (v := (0 : Int32)) hx hb dX8_copy_133 (by decide) ?_
                    refine lv_istore (lv' := [(6, .int (0 : Int32)), (0, .ref (ad 0)), (3, .int x3), (4, .int x4), (5, .int x5)]) hx hb dX8_copy_134 hl (by decide) rfl (fun ls hl => ?_)
                    refine vl_X8_copy_136 X hr hlk _ ?_ 300 _ _ _ _ _ _ _ ls hf  hP hS (lv_sub hl [1, 2, 3, 4, 0] rfl)
                    intro S H locs ls hf hP hS hl
                    refine lv_iconst (v := (1 : Int32)) hx hb dX8_copy_166 (by decide) ?_
                    cases hf
                    exact rtI X hr hlk hP hS dX8_copy_167
                  · rw [if_neg c25] at hf
                    refine lv_aload_n hx hb dX8_copy_95 rfl (lv_at hl 0 rfl) ?_
                    refine lv_iconst (v := (2 : Int32)) hx hb dX8_copy_96 (by decide) ?_
                    obtain ⟨q34, e35, hf⟩ := bind_some hf
                    refine aftI hS (cV (rest := []) X hP hS [.int (2 : Int32)] (m_X8_meet  e35) cw_X8_meet tw_289 tw_547 tw_762 (by decide) (cf_M ) rfl (fits9 (by first | decide | omega) (by decide)) rfl rfl hl.1 (Nat.le_of_ble_eq_true rfl) dX8_copy_97 ⟨Nat.zero_le _, Nat.zero_le _⟩) (fun H locs hP hS => ?_)
                    cases hf
                    exact rtI X hr hlk hP hS dX8_copy_100
          · rw [if_neg c13] at hf
            refine lv_aload_n hx hb dX8_copy_45 rfl (lv_at hl 0 rfl) ?_
            refine lv_iconst (v := (1 : Int32)) hx hb dX8_copy_46 (by decide) ?_
            obtain ⟨q36, e37, hf⟩ := bind_some hf
            refine aftI hS (cV (rest := []) X hP hS [.int (1 : Int32)] (m_X8_meet  e37) cw_X8_meet tw_289 tw_547 tw_762 (by decide) (cf_M ) rfl (fits9 (by first | decide | omega) (by decide)) rfl rfl hl.1 (Nat.le_of_ble_eq_true rfl) dX8_copy_47 ⟨Nat.zero_le _, Nat.zero_le _⟩) (fun H locs hP hS => ?_)
            cases hf
            exact rtI X hr hlk hP hS dX8_copy_50
      · rw [if_neg c7] at hf
        refine lv_aload_n hx hb dX8_copy_21 rfl (lv_at hl 0 rfl) ?_
        refine lv_iconst (v := (5 : Int32)) hx hb dX8_copy_22 (by decide) ?_
        obtain ⟨q38, e39, hf⟩ := bind_some hf
        refine aftI hS (cV (rest := []) X hP hS [.int (5 : Int32)] (m_X8_meet  e39) cw_X8_meet tw_289 tw_547 tw_762 (by decide) (cf_M ) rfl (fits9 (by first | decide | omega) (by decide)) rfl rfl hl.1 (Nat.le_of_ble_eq_true rfl) dX8_copy_23 ⟨Nat.zero_le _, Nat.zero_le _⟩) (fun H locs hP hS => ?_)
        cases hf
        exact rtI X hr hlk hP hS dX8_copy_26
    · rw [if_pos c6] at hf
      refine lv_iconst (v := (-1 : Int32)) hx hb dX8_copy_14 (by decide) ?_
      cases hf
      exact rtI X hr hlk hP hS dX8_copy_15
/-! X8_count -/
section
variable {p : Program} {l : Launch} {e : Env} {s : State} {m : MethodId} {args : Array Value} {below : List Frame} {meth : Method} {c : Code}
variable {D : va_G} {cI cP cB cA : ClassId} {ad : Nat → Nat} {tL tC : Nat}
end
set_option maxHeartbeats 4000000 in
set_option maxRecDepth 100000 in
theorem m_X8_count {l : Launch} {D : va_G} {cI cP cB cA : ClassId} {ad : Nat → Nat} {tL tC : Nat} {x1 : Int32} {S : Stt} {res : Int32 × Stt} (hf : f_X8_count x1 S = some res) : Ct l D cI cP cB cA 19 ad tL tC yX8_count cX8_count 2 (some .int) 3 [.ref (ad 0), .int x1] (cfM ad cI S) (QI D 19 ad res.1 (cfM ad cI res.2)) := by
  refine ctOf (by decide) (Nat.le_of_ble_eq_true rfl) ?_
  intro p e s m args below meth c ls X hr hlk hP hl
  have hS : va_S (Ar 19 ad) s.heap s.heap [] := va_S.rf
  have hx := X.1.1
  have hb := X.1.2.1
  have hl : lv_has ls 2 [(0, .ref (ad 0)), (1, .int x1)] := hl
  unfold f_X8_count at hf
  refine lv_iload_n hx hb dX8_count_0 rfl (lv_at hl 1 rfl) ?_
  refine lv_iconst (v := (0 : Int32)) hx hb dX8_count_1 (by decide) ?_
  refine lv_bipush (v := (6 : Int32)) hx hb dX8_count_2 (by decide) ?_
  obtain ⟨q1, e2, hf⟩ := bind_some hf
  refine aftI hS (cS (rest := []) X hP hS [.int x1, .int (0 : Int32), .int (6 : Int32)] (m_X8_in  e2) cw_X8_in tw_288 tw_546 (fits9 (by first | decide | omega) (by decide)) rfl rfl hl.1 (Nat.le_of_ble_eq_true rfl) dX8_count_4 ⟨Nat.zero_le _, Nat.zero_le _⟩) (fun H locs hP hS => ?_)
  refine lv_if_eq (tgt := 18) hx hb dX8_count_7 (by decide) (fun c3 => ?_) (fun c3 => ?_)
  · rw [if_pos c3] at hf
    refine lv_iconst (v := (-1 : Int32)) hx hb dX8_count_18 (by decide) ?_
    cases hf
    exact rtI X hr hlk hP hS dX8_count_19
  · rw [if_neg c3] at hf
    refine lv_aload_n hx hb dX8_count_10 rfl (lv_at hl 0 rfl) ?_
    refine lv_iload_n hx hb dX8_count_11 rfl (lv_at hl 1 rfl) ?_
    obtain ⟨q4, e5, hf⟩ := bind_some hf
    refine aftI hS (cV (rest := []) X hP hS [.int x1] (m_X8_tells  e5) cw_X8_tells tw_375 tw_637 tw_838 (by decide) (cf_M ) rfl (fits9 (by first | decide | omega) (by decide)) rfl rfl hl.1 (Nat.le_of_ble_eq_true rfl) dX8_count_12 ⟨Nat.zero_le _, Nat.zero_le _⟩) (fun H locs hP hS => ?_)
    refine lv_goto (tgt := 19) hx hb dX8_count_15 (by decide) ?_
    cases hf
    exact rtI X hr hlk hP hS dX8_count_19
/-! X8_digest -/
section
variable {p : Program} {l : Launch} {e : Env} {s : State} {m : MethodId} {args : Array Value} {below : List Frame} {meth : Method} {c : Code}
variable {D : va_G} {cI cP cB cA : ClassId} {ad : Nat → Nat} {tL tC : Nat}
set_option maxHeartbeats 4000000 in
set_option maxRecDepth 100000 in
theorem vb_X8_digest_9 (X : Cx D cI cP cB cA 19 ad tL tC p s m c cX8_digest 3 args RX8) (hr : meth.sig.returnType = (some .long)) (hlk : meth.locks = false) {res : Int64 × Stt} (kb : Int32 → Stt → Option (Int64 × Stt)) (ke : Stt → Option (Int64 × Stt)) (hkb : ∀ (x1 : Int32) (S : Stt) (H : Heap) (locs : List Loc) (ls : Array Slot), kb x1 S = some res → va_P D vwCl (wl 19 ad (cfM ad cI S)) H → va_S (Ar 19 ad) s.heap H locs → lv_has ls 3 [(0, .ref (ad 0)), (1, .int x1)] → W p l e (rmD 3) s m args below meth c H locs 0 0 (MQ below (QL D 19 ad res.1 (cfM ad cI res.2)) args s 0 0 (Ar 19 ad)) (F0 m 9 ls [])) (hke : ∀ (S : Stt) (H : Heap) (locs : List Loc) (ls : Array Slot), ke S = some res → va_P D vwCl (wl 19 ad (cfM ad cI S)) H → va_S (Ar 19 ad) s.heap H locs → lv_has ls 3 [(0, .ref (ad 0))] → W p l e (rmD 3) s m args below meth c H locs 0 0 (MQ below (QL D 19 ad res.1 (cfM ad cI res.2)) args s 0 0 (Ar 19 ad)) (F0 m 30 ls [])) : ∀ (x1 : Int32) (S : Stt) (H : Heap) (locs : List Loc) (ls : Array Slot), fb_X8_digest_9 kb ke x1 S = some res → va_P D vwCl (wl 19 ad (cfM ad cI S)) H → va_S (Ar 19 ad) s.heap H locs → lv_has ls 3 [(0, .ref (ad 0)), (1, .int x1)] → W p l e (rmD 3) s m args below meth c H locs 0 0 (MQ below (QL D 19 ad res.1 (cfM ad cI res.2)) args s 0 0 (Ar 19 ad)) (F0 m 9 ls []) := by
  intro x1 S H locs ls hf hP hS hl
  have hx := X.1.1
  have hb := X.1.2.1
  unfold fb_X8_digest_9 at hf
  refine lv_iload_n hx hb dX8_digest_9 rfl (lv_at hl 1 rfl) ?_
  refine lv_bipush (v := (6 : Int32)) hx hb dX8_digest_10 (by decide) ?_
  refine lv_icmp_gt (tgt := 30) hx hb dX8_digest_12 (by decide) (fun c1 => ?_) (fun c1 => ?_)
  · rw [if_pos c1] at hf
    exact hke  _ _ _ ls hf  hP hS (lv_sub hl [0] rfl)
  · rw [if_neg c1] at hf
    refine lv_aload_n hx hb dX8_digest_15 rfl (lv_at hl 0 rfl) ?_
    refine lv_aload_n hx hb dX8_digest_16 rfl (lv_at hl 0 rfl) ?_
    refine lv_iload_n hx hb dX8_digest_17 rfl (lv_at hl 1 rfl) ?_
    obtain ⟨q2, e3, hf⟩ := bind_some hf
    refine aftI hS (cV (rest := [.ref (ad 0)]) X hP hS [.int x1] (m_X8_tells  e3) cw_X8_tells tw_375 tw_637 tw_838 (by decide) (cf_M ) rfl (fits9 (by first | decide | omega) (by decide)) rfl rfl hl.1 (Nat.le_of_ble_eq_true rfl) dX8_digest_18 ⟨Nat.zero_le _, Nat.zero_le _⟩) (fun H locs hP hS => ?_)
    obtain ⟨q4, e5, hf⟩ := bind_some hf
    refine aftV hS (cV (rest := []) X hP hS [.int q2.1] (m_X8_mix  e5) cw_X8_mix tw_379 tw_642 tw_842 (by decide) (cf_M ) rfl (fits9 (by first | decide | omega) (by decide)) rfl rfl hl.1 (Nat.le_of_ble_eq_true rfl) dX8_digest_21 ⟨Nat.zero_le _, Nat.zero_le _⟩) (fun H locs hP hS => ?_)
    refine lv_iinc (v := (x1 + (1 : Int32))) (lv' := [(1, .int (x1 + (1 : Int32))), (0, .ref (ad 0))]) hx hb dX8_digest_24 hl (k := 1) rfl rfl (by decide) rfl (fun ls hl => ?_)
    refine lv_goto (tgt := 9) hx hb dX8_digest_27 (by decide) ?_
    exact hkb _ _ _ _ ls hf  hP hS (lv_sub hl [1, 0] rfl)
set_option maxHeartbeats 4000000 in
set_option maxRecDepth 100000 in
theorem vl_X8_digest_9 (X : Cx D cI cP cB cA 19 ad tL tC p s m c cX8_digest 3 args RX8) (hr : meth.sig.returnType = (some .long)) (hlk : meth.locks = false) {res : Int64 × Stt} (ke : Stt → Option (Int64 × Stt)) (hke : ∀ (S : Stt) (H : Heap) (locs : List Loc) (ls : Array Slot), ke S = some res → va_P D vwCl (wl 19 ad (cfM ad cI S)) H → va_S (Ar 19 ad) s.heap H locs → lv_has ls 3 [(0, .ref (ad 0))] → W p l e (rmD 3) s m args below meth c H locs 0 0 (MQ below (QL D 19 ad res.1 (cfM ad cI res.2)) args s 0 0 (Ar 19 ad)) (F0 m 30 ls [])) : ∀ (n : Nat), ∀ (x1 : Int32) (S : Stt) (H : Heap) (locs : List Loc) (ls : Array Slot), fl_X8_digest_9 ke n x1 S = some res → va_P D vwCl (wl 19 ad (cfM ad cI S)) H → va_S (Ar 19 ad) s.heap H locs → lv_has ls 3 [(0, .ref (ad 0)), (1, .int x1)] → W p l e (rmD 3) s m args below meth c H locs 0 0 (MQ below (QL D 19 ad res.1 (cfM ad cI res.2)) args s 0 0 (Ar 19 ad)) (F0 m 9 ls []) := by
  intro n
  induction n with
  | zero =>
    intro x1 S H locs ls hf hP hS hl
    cases hf
  | succ n ih =>
    intro x1 S H locs ls hf hP hS hl
    exact vb_X8_digest_9 X hr hlk _ ke ih hke x1 S H locs ls hf  hP hS hl
set_option maxHeartbeats 4000000 in
set_option maxRecDepth 100000 in
theorem vb_X8_digest_42 (X : Cx D cI cP cB cA 19 ad tL tC p s m c cX8_digest 3 args RX8) (hr : meth.sig.returnType = (some .long)) (hlk : meth.locks = false) {res : Int64 × Stt} (kb : Int32 → Int32 → Stt → Option (Int64 × Stt)) (ke : Int32 → Stt → Option (Int64 × Stt)) (hkb : ∀ (x1 : Int32) (x2 : Int32) (S : Stt) (H : Heap) (locs : List Loc) (ls : Array Slot), kb x1 x2 S = some res → va_P D vwCl (wl 19 ad (cfM ad cI S)) H → va_S (Ar 19 ad) s.heap H locs → lv_has ls 3 [(0, .ref (ad 0)), (1, .int x1), (2, .int x2)] → W p l e (rmD 3) s m args below meth c H locs 0 0 (MQ below (QL D 19 ad res.1 (cfM ad cI res.2)) args s 0 0 (Ar 19 ad)) (F0 m 42 ls [])) (hke : ∀ (x1 : Int32) (S : Stt) (H : Heap) (locs : List Loc) (ls : Array Slot), ke x1 S = some res → va_P D vwCl (wl 19 ad (cfM ad cI S)) H → va_S (Ar 19 ad) s.heap H locs → lv_has ls 3 [(0, .ref (ad 0)), (1, .int x1)] → W p l e (rmD 3) s m args below meth c H locs 0 0 (MQ below (QL D 19 ad res.1 (cfM ad cI res.2)) args s 0 0 (Ar 19 ad)) (F0 m 63 ls [])) : ∀ (x1 : Int32) (x2 : Int32) (S : Stt) (H : Heap) (locs : List Loc) (ls : Array Slot), fb_X8_digest_42 kb ke x1 x2 S = some res → va_P D vwCl (wl 19 ad (cfM ad cI S)) H → va_S (Ar 19 ad) s.heap H locs → lv_has ls 3 [(0, .ref (ad 0)), (1, .int x1), (2, .int x2)] → W p l e (rmD 3) s m args below meth c H locs 0 0 (MQ below (QL D 19 ad res.1 (cfM ad cI res.2)) args s 0 0 (Ar 19 ad)) (F0 m 42 ls []) := by
  intro x1 x2 S H locs ls hf hP hS hl
  have hx := X.1.1
  have hb := X.1.2.1
  unfold fb_X8_digest_42 at hf
  refine lv_iload_n hx hb dX8_digest_42 rfl (lv_at hl 2 rfl) ?_
  refine lv_iconst (v := (5 : Int32)) hx hb dX8_digest_43 (by decide) ?_
  refine lv_icmp_gt (tgt := 63) hx hb dX8_digest_44 (by decide) (fun c7 => ?_) (fun c7 => ?_)
  · rw [if_pos c7] at hf
    exact hke _ _ _ _ ls hf  hP hS (lv_sub hl [0, 1] rfl)
  · rw [if_neg c7] at hf
    refine lv_aload_n hx hb dX8_digest_47 rfl (lv_at hl 0 rfl) ?_
    refine lv_aload_n hx hb dX8_digest_48 rfl (lv_at hl 0 rfl) ?_
    refine lv_iload_n hx hb dX8_digest_49 rfl (lv_at hl 1 rfl) ?_
    refine lv_iload_n hx hb dX8_digest_50 rfl (lv_at hl 2 rfl) ?_
    obtain ⟨q8, e9, hf⟩ := bind_some hf
    refine aftI hS (cV (rest := [.ref (ad 0)]) X hP hS [.int x1, .int x2] (m_X8_pageOf  e9) cw_X8_pageOf tw_315 tw_572 tw_785 (by decide) (cf_M ) rfl (fits9 (by first | decide | omega) (by decide)) rfl rfl hl.1 (Nat.le_of_ble_eq_true rfl) dX8_digest_51 ⟨Nat.zero_le _, Nat.zero_le _⟩) (fun H locs hP hS => ?_)
    obtain ⟨q10, e11, hf⟩ := bind_some hf
    refine aftV hS (cV (rest := []) X hP hS [.int q8.1] (m_X8_mix  e11) cw_X8_mix tw_379 tw_642 tw_842 (by decide) (cf_M ) rfl (fits9 (by first | decide | omega) (by decide)) rfl rfl hl.1 (Nat.le_of_ble_eq_true rfl) dX8_digest_54 ⟨Nat.zero_le _, Nat.zero_le _⟩) (fun H locs hP hS => ?_)
    refine lv_iinc (v := (x2 + (1 : Int32))) (lv' := [(2, .int (x2 + (1 : Int32))), (0, .ref (ad 0)), (1, .int x1)]) hx hb dX8_digest_57 hl (k := 2) rfl rfl (by decide) rfl (fun ls hl => ?_)
    refine lv_goto (tgt := 42) hx hb dX8_digest_60 (by decide) ?_
    exact hkb _ _ _ _ _ ls hf  hP hS (lv_sub hl [1, 2, 0] rfl)
set_option maxHeartbeats 4000000 in
set_option maxRecDepth 100000 in
theorem vl_X8_digest_42 (X : Cx D cI cP cB cA 19 ad tL tC p s m c cX8_digest 3 args RX8) (hr : meth.sig.returnType = (some .long)) (hlk : meth.locks = false) {res : Int64 × Stt} (ke : Int32 → Stt → Option (Int64 × Stt)) (hke : ∀ (x1 : Int32) (S : Stt) (H : Heap) (locs : List Loc) (ls : Array Slot), ke x1 S = some res → va_P D vwCl (wl 19 ad (cfM ad cI S)) H → va_S (Ar 19 ad) s.heap H locs → lv_has ls 3 [(0, .ref (ad 0)), (1, .int x1)] → W p l e (rmD 3) s m args below meth c H locs 0 0 (MQ below (QL D 19 ad res.1 (cfM ad cI res.2)) args s 0 0 (Ar 19 ad)) (F0 m 63 ls [])) : ∀ (n : Nat), ∀ (x1 : Int32) (x2 : Int32) (S : Stt) (H : Heap) (locs : List Loc) (ls : Array Slot), fl_X8_digest_42 ke n x1 x2 S = some res → va_P D vwCl (wl 19 ad (cfM ad cI S)) H → va_S (Ar 19 ad) s.heap H locs → lv_has ls 3 [(0, .ref (ad 0)), (1, .int x1), (2, .int x2)] → W p l e (rmD 3) s m args below meth c H locs 0 0 (MQ below (QL D 19 ad res.1 (cfM ad cI res.2)) args s 0 0 (Ar 19 ad)) (F0 m 42 ls []) := by
  intro n
  induction n with
  | zero =>
    intro x1 x2 S H locs ls hf hP hS hl
    cases hf
  | succ n ih =>
    intro x1 x2 S H locs ls hf hP hS hl
    exact vb_X8_digest_42 X hr hlk _ ke ih hke x1 x2 S H locs ls hf  hP hS hl
set_option maxHeartbeats 4000000 in
set_option maxRecDepth 100000 in
theorem vb_X8_digest_32 (X : Cx D cI cP cB cA 19 ad tL tC p s m c cX8_digest 3 args RX8) (hr : meth.sig.returnType = (some .long)) (hlk : meth.locks = false) {res : Int64 × Stt} (kb : Int32 → Stt → Option (Int64 × Stt)) (ke : Stt → Option (Int64 × Stt)) (hkb : ∀ (x1 : Int32) (S : Stt) (H : Heap) (locs : List Loc) (ls : Array Slot), kb x1 S = some res → va_P D vwCl (wl 19 ad (cfM ad cI S)) H → va_S (Ar 19 ad) s.heap H locs → lv_has ls 3 [(0, .ref (ad 0)), (1, .int x1)] → W p l e (rmD 3) s m args below meth c H locs 0 0 (MQ below (QL D 19 ad res.1 (cfM ad cI res.2)) args s 0 0 (Ar 19 ad)) (F0 m 32 ls [])) (hke : ∀ (S : Stt) (H : Heap) (locs : List Loc) (ls : Array Slot), ke S = some res → va_P D vwCl (wl 19 ad (cfM ad cI S)) H → va_S (Ar 19 ad) s.heap H locs → lv_has ls 3 [(0, .ref (ad 0))] → W p l e (rmD 3) s m args below meth c H locs 0 0 (MQ below (QL D 19 ad res.1 (cfM ad cI res.2)) args s 0 0 (Ar 19 ad)) (F0 m 69 ls [])) : ∀ (x1 : Int32) (S : Stt) (H : Heap) (locs : List Loc) (ls : Array Slot), fb_X8_digest_32 kb ke x1 S = some res → va_P D vwCl (wl 19 ad (cfM ad cI S)) H → va_S (Ar 19 ad) s.heap H locs → lv_has ls 3 [(0, .ref (ad 0)), (1, .int x1)] → W p l e (rmD 3) s m args below meth c H locs 0 0 (MQ below (QL D 19 ad res.1 (cfM ad cI res.2)) args s 0 0 (Ar 19 ad)) (F0 m 32 ls []) := by
  intro x1 S H locs ls hf hP hS hl
  have hx := X.1.1
  have hb := X.1.2.1
  unfold fb_X8_digest_32 at hf
  refine lv_iload_n hx hb dX8_digest_32 rfl (lv_at hl 1 rfl) ?_
  refine lv_aload_n hx hb dX8_digest_33 rfl (lv_at hl 0 rfl) ?_
  refine g_M_many X hP  tw_86 dX8_digest_34 ?_
  refine lv_icmp_ge (tgt := 69) hx hb dX8_digest_37 (by decide) (fun c6 => ?_) (fun c6 => ?_)
  · rw [if_pos c6] at hf
    exact hke  _ _ _ ls hf  hP hS (lv_sub hl [0] rfl)
  · rw [if_neg c6] at hf
    refine lv_iconst (v := (0 : Int32)) hx hb dX8_digest_40 (by decide) ?_
    refine lv_istore_n (lv' := [(2, .int (0 : Int32)), (0, .ref (ad 0)), (1, .int x1)]) hx hb dX8_digest_41 rfl hl (by decide) rfl (fun ls hl => ?_)
    refine vl_X8_digest_42 X hr hlk _ ?_ 300 _ _ _ _ _ ls hf  hP hS (lv_sub hl [1, 2, 0] rfl)
    intro x1 S H locs ls hf hP hS hl
    refine lv_iinc (v := (x1 + (1 : Int32))) (lv' := [(1, .int (x1 + (1 : Int32))), (0, .ref (ad 0))]) hx hb dX8_digest_63 hl (k := 1) rfl rfl (by decide) rfl (fun ls hl => ?_)
    refine lv_goto (tgt := 32) hx hb dX8_digest_66 (by decide) ?_
    exact hkb _ _ _ _ ls hf  hP hS (lv_sub hl [1, 0] rfl)
set_option maxHeartbeats 4000000 in
set_option maxRecDepth 100000 in
theorem vl_X8_digest_32 (X : Cx D cI cP cB cA 19 ad tL tC p s m c cX8_digest 3 args RX8) (hr : meth.sig.returnType = (some .long)) (hlk : meth.locks = false) {res : Int64 × Stt} (ke : Stt → Option (Int64 × Stt)) (hke : ∀ (S : Stt) (H : Heap) (locs : List Loc) (ls : Array Slot), ke S = some res → va_P D vwCl (wl 19 ad (cfM ad cI S)) H → va_S (Ar 19 ad) s.heap H locs → lv_has ls 3 [(0, .ref (ad 0))] → W p l e (rmD 3) s m args below meth c H locs 0 0 (MQ below (QL D 19 ad res.1 (cfM ad cI res.2)) args s 0 0 (Ar 19 ad)) (F0 m 69 ls [])) : ∀ (n : Nat), ∀ (x1 : Int32) (S : Stt) (H : Heap) (locs : List Loc) (ls : Array Slot), fl_X8_digest_32 ke n x1 S = some res → va_P D vwCl (wl 19 ad (cfM ad cI S)) H → va_S (Ar 19 ad) s.heap H locs → lv_has ls 3 [(0, .ref (ad 0)), (1, .int x1)] → W p l e (rmD 3) s m args below meth c H locs 0 0 (MQ below (QL D 19 ad res.1 (cfM ad cI res.2)) args s 0 0 (Ar 19 ad)) (F0 m 32 ls []) := by
  intro n
  induction n with
  | zero =>
    intro x1 S H locs ls hf hP hS hl
    cases hf
  | succ n ih =>
    intro x1 S H locs ls hf hP hS hl
    exact vb_X8_digest_32 X hr hlk _ ke ih hke x1 S H locs ls hf  hP hS hl
set_option maxHeartbeats 4000000 in
set_option maxRecDepth 100000 in
theorem vb_X8_digest_71 (X : Cx D cI cP cB cA 19 ad tL tC p s m c cX8_digest 3 args RX8) (hr : meth.sig.returnType = (some .long)) (hlk : meth.locks = false) {res : Int64 × Stt} (kb : Int32 → Stt → Option (Int64 × Stt)) (ke : Stt → Option (Int64 × Stt)) (hkb : ∀ (x1 : Int32) (S : Stt) (H : Heap) (locs : List Loc) (ls : Array Slot), kb x1 S = some res → va_P D vwCl (wl 19 ad (cfM ad cI S)) H → va_S (Ar 19 ad) s.heap H locs → lv_has ls 3 [(0, .ref (ad 0)), (1, .int x1)] → W p l e (rmD 3) s m args below meth c H locs 0 0 (MQ below (QL D 19 ad res.1 (cfM ad cI res.2)) args s 0 0 (Ar 19 ad)) (F0 m 71 ls [])) (hke : ∀ (S : Stt) (H : Heap) (locs : List Loc) (ls : Array Slot), ke S = some res → va_P D vwCl (wl 19 ad (cfM ad cI S)) H → va_S (Ar 19 ad) s.heap H locs → lv_has ls 3 [(0, .ref (ad 0))] → W p l e (rmD 3) s m args below meth c H locs 0 0 (MQ below (QL D 19 ad res.1 (cfM ad cI res.2)) args s 0 0 (Ar 19 ad)) (F0 m 113 ls [])) : ∀ (x1 : Int32) (S : Stt) (H : Heap) (locs : List Loc) (ls : Array Slot), fb_X8_digest_71 kb ke x1 S = some res → va_P D vwCl (wl 19 ad (cfM ad cI S)) H → va_S (Ar 19 ad) s.heap H locs → lv_has ls 3 [(0, .ref (ad 0)), (1, .int x1)] → W p l e (rmD 3) s m args below meth c H locs 0 0 (MQ below (QL D 19 ad res.1 (cfM ad cI res.2)) args s 0 0 (Ar 19 ad)) (F0 m 71 ls []) := by
  intro x1 S H locs ls hf hP hS hl
  have hx := X.1.1
  have hb := X.1.2.1
  unfold fb_X8_digest_71 at hf
  refine lv_iload_n hx hb dX8_digest_71 rfl (lv_at hl 1 rfl) ?_
  refine lv_iconst (v := (3 : Int32)) hx hb dX8_digest_72 (by decide) ?_
  refine lv_icmp_ge (tgt := 113) hx hb dX8_digest_73 (by decide) (fun c12 => ?_) (fun c12 => ?_)
  · rw [if_pos c12] at hf
    exact hke  _ _ _ ls hf  hP hS (lv_sub hl [0] rfl)
  · rw [if_neg c12] at hf
    refine lv_aload_n hx hb dX8_digest_76 rfl (lv_at hl 0 rfl) ?_
    refine lv_aload_n hx hb dX8_digest_77 rfl (lv_at hl 0 rfl) ?_
    refine g_M_kept X hP  tw_97 dX8_digest_78 ?_
    refine lv_bipush (v := (38 : Int32)) hx hb dX8_digest_81 (by decide) ?_
    refine lv_iload_n hx hb dX8_digest_83 rfl (lv_at hl 1 rfl) ?_
    refine lv_imul hx hb dX8_digest_84 ?_
    obtain ⟨g13, hf⟩ := grd_some hf
    refine r_m_kept X hP  g13 dX8_digest_85 ?_
    refine lv_bipush (v := (-9 : Int32)) hx hb dX8_digest_86 (by decide) ?_
    refine lv_icmp_ne (tgt := 95) hx hb dX8_digest_88 (by decide) (fun c14 => ?_) (fun c14 => ?_)
    · rw [if_neg c14] at hf
      refine lv_aload_n hx hb dX8_digest_95 rfl (lv_at hl 0 rfl) ?_
      refine g_M_kept X hP  tw_97 dX8_digest_96 ?_
      refine lv_bipush (v := (38 : Int32)) hx hb dX8_digest_99 (by decide) ?_
      refine lv_iload_n hx hb dX8_digest_101 rfl (lv_at hl 1 rfl) ?_
      refine lv_imul hx hb dX8_digest_102 ?_
      obtain ⟨g15, hf⟩ := grd_some hf
      refine r_m_kept X hP  g15 dX8_digest_103 ?_
      obtain ⟨q16, e17, hf⟩ := bind_some hf
      refine aftV hS (cV (rest := []) X hP hS [.int (S.1 14 0 ((38 : Int32) * x1).toNatClampNeg)] (m_X8_mix  e17) cw_X8_mix tw_379 tw_642 tw_842 (by decide) (cf_M ) rfl (fits9 (by first | decide | omega) (by decide)) rfl rfl hl.1 (Nat.le_of_ble_eq_true rfl) dX8_digest_104 ⟨Nat.zero_le _, Nat.zero_le _⟩) (fun H locs hP hS => ?_)
      refine lv_iinc (v := (x1 + (1 : Int32))) (lv' := [(1, .int (x1 + (1 : Int32))), (0, .ref (ad 0))]) hx hb dX8_digest_107 hl (k := 1) rfl rfl (by decide) rfl (fun ls hl => ?_)
      refine lv_goto (tgt := 71) hx hb dX8_digest_110 (by decide) ?_
      exact hkb _ _ _ _ ls hf  hP hS (lv_sub hl [1, 0] rfl)
    · rw [if_pos c14] at hf
      refine lv_iconst (v := (-1 : Int32)) hx hb dX8_digest_91 (by decide) ?_
      refine lv_goto (tgt := 104) hx hb dX8_digest_92 (by decide) ?_
      obtain ⟨q18, e19, hf⟩ := bind_some hf
      refine aftV hS (cV (rest := []) X hP hS [.int (-1 : Int32)] (m_X8_mix  e19) cw_X8_mix tw_379 tw_642 tw_842 (by decide) (cf_M ) rfl (fits9 (by first | decide | omega) (by decide)) rfl rfl hl.1 (Nat.le_of_ble_eq_true rfl) dX8_digest_104 ⟨Nat.zero_le _, Nat.zero_le _⟩) (fun H locs hP hS => ?_)
      refine lv_iinc (v := (x1 + (1 : Int32))) (lv' := [(1, .int (x1 + (1 : Int32))), (0, .ref (ad 0))]) hx hb dX8_digest_107 hl (k := 1) rfl rfl (by decide) rfl (fun ls hl => ?_)
      refine lv_goto (tgt := 71) hx hb dX8_digest_110 (by decide) ?_
      exact hkb _ _ _ _ ls hf  hP hS (lv_sub hl [1, 0] rfl)
set_option maxHeartbeats 4000000 in
set_option maxRecDepth 100000 in
theorem vl_X8_digest_71 (X : Cx D cI cP cB cA 19 ad tL tC p s m c cX8_digest 3 args RX8) (hr : meth.sig.returnType = (some .long)) (hlk : meth.locks = false) {res : Int64 × Stt} (ke : Stt → Option (Int64 × Stt)) (hke : ∀ (S : Stt) (H : Heap) (locs : List Loc) (ls : Array Slot), ke S = some res → va_P D vwCl (wl 19 ad (cfM ad cI S)) H → va_S (Ar 19 ad) s.heap H locs → lv_has ls 3 [(0, .ref (ad 0))] → W p l e (rmD 3) s m args below meth c H locs 0 0 (MQ below (QL D 19 ad res.1 (cfM ad cI res.2)) args s 0 0 (Ar 19 ad)) (F0 m 113 ls [])) : ∀ (n : Nat), ∀ (x1 : Int32) (S : Stt) (H : Heap) (locs : List Loc) (ls : Array Slot), fl_X8_digest_71 ke n x1 S = some res → va_P D vwCl (wl 19 ad (cfM ad cI S)) H → va_S (Ar 19 ad) s.heap H locs → lv_has ls 3 [(0, .ref (ad 0)), (1, .int x1)] → W p l e (rmD 3) s m args below meth c H locs 0 0 (MQ below (QL D 19 ad res.1 (cfM ad cI res.2)) args s 0 0 (Ar 19 ad)) (F0 m 71 ls []) := by
  intro n
  induction n with
  | zero =>
    intro x1 S H locs ls hf hP hS hl
    cases hf
  | succ n ih =>
    intro x1 S H locs ls hf hP hS hl
    exact vb_X8_digest_71 X hr hlk _ ke ih hke x1 S H locs ls hf  hP hS hl
set_option maxHeartbeats 4000000 in
set_option maxRecDepth 100000 in
theorem vb_X8_digest_146 (X : Cx D cI cP cB cA 19 ad tL tC p s m c cX8_digest 3 args RX8) (hr : meth.sig.returnType = (some .long)) (hlk : meth.locks = false) {res : Int64 × Stt} (kb : Int32 → Int32 → Stt → Option (Int64 × Stt)) (ke : Int32 → Stt → Option (Int64 × Stt)) (hkb : ∀ (x1 : Int32) (x2 : Int32) (S : Stt) (H : Heap) (locs : List Loc) (ls : Array Slot), kb x1 x2 S = some res → va_P D vwCl (wl 19 ad (cfM ad cI S)) H → va_S (Ar 19 ad) s.heap H locs → lv_has ls 3 [(0, .ref (ad 0)), (1, .int x1), (2, .int x2)] → W p l e (rmD 3) s m args below meth c H locs 0 0 (MQ below (QL D 19 ad res.1 (cfM ad cI res.2)) args s 0 0 (Ar 19 ad)) (F0 m 146 ls [])) (hke : ∀ (x1 : Int32) (S : Stt) (H : Heap) (locs : List Loc) (ls : Array Slot), ke x1 S = some res → va_P D vwCl (wl 19 ad (cfM ad cI S)) H → va_S (Ar 19 ad) s.heap H locs → lv_has ls 3 [(0, .ref (ad 0)), (1, .int x1)] → W p l e (rmD 3) s m args below meth c H locs 0 0 (MQ below (QL D 19 ad res.1 (cfM ad cI res.2)) args s 0 0 (Ar 19 ad)) (F0 m 172 ls [])) : ∀ (x1 : Int32) (x2 : Int32) (S : Stt) (H : Heap) (locs : List Loc) (ls : Array Slot), fb_X8_digest_146 kb ke x1 x2 S = some res → va_P D vwCl (wl 19 ad (cfM ad cI S)) H → va_S (Ar 19 ad) s.heap H locs → lv_has ls 3 [(0, .ref (ad 0)), (1, .int x1), (2, .int x2)] → W p l e (rmD 3) s m args below meth c H locs 0 0 (MQ below (QL D 19 ad res.1 (cfM ad cI res.2)) args s 0 0 (Ar 19 ad)) (F0 m 146 ls []) := by
  intro x1 x2 S H locs ls hf hP hS hl
  have hx := X.1.1
  have hb := X.1.2.1
  unfold fb_X8_digest_146 at hf
  refine lv_iload_n hx hb dX8_digest_146 rfl (lv_at hl 2 rfl) ?_
  refine lv_aload_n hx hb dX8_digest_147 rfl (lv_at hl 0 rfl) ?_
  refine g_M_sizes X hP  tw_81 dX8_digest_148 ?_
  refine lv_iload_n hx hb dX8_digest_151 rfl (lv_at hl 1 rfl) ?_
  obtain ⟨g26, hf⟩ := grd_some hf
  refine r_m_sizes X hP  g26 dX8_digest_152 ?_
  refine lv_icmp_ge (tgt := 172) hx hb dX8_digest_153 (by decide) (fun c27 => ?_) (fun c27 => ?_)
  · rw [if_pos c27] at hf
    exact hke _ _ _ _ ls hf  hP hS (lv_sub hl [0, 1] rfl)
  · rw [if_neg c27] at hf
    refine lv_aload_n hx hb dX8_digest_156 rfl (lv_at hl 0 rfl) ?_
    refine lv_aload_n hx hb dX8_digest_157 rfl (lv_at hl 0 rfl) ?_
    refine lv_iload_n hx hb dX8_digest_158 rfl (lv_at hl 1 rfl) ?_
    refine lv_iload_n hx hb dX8_digest_159 rfl (lv_at hl 2 rfl) ?_
    obtain ⟨q28, e29, hf⟩ := bind_some hf
    refine aftI hS (cV (rest := [.ref (ad 0)]) X hP hS [.int x1, .int x2] (m_X8_rowAt  e29) cw_X8_rowAt tw_293 tw_551 tw_766 (by decide) (cf_M ) rfl (fits9 (by first | decide | omega) (by decide)) rfl rfl hl.1 (Nat.le_of_ble_eq_true rfl) dX8_digest_160 ⟨Nat.zero_le _, Nat.zero_le _⟩) (fun H locs hP hS => ?_)
    obtain ⟨q30, e31, hf⟩ := bind_some hf
    refine aftV hS (cV (rest := []) X hP hS [.int q28.1] (m_X8_mix  e31) cw_X8_mix tw_379 tw_642 tw_842 (by decide) (cf_M ) rfl (fits9 (by first | decide | omega) (by decide)) rfl rfl hl.1 (Nat.le_of_ble_eq_true rfl) dX8_digest_163 ⟨Nat.zero_le _, Nat.zero_le _⟩) (fun H locs hP hS => ?_)
    refine lv_iinc (v := (x2 + (1 : Int32))) (lv' := [(2, .int (x2 + (1 : Int32))), (0, .ref (ad 0)), (1, .int x1)]) hx hb dX8_digest_166 hl (k := 2) rfl rfl (by decide) rfl (fun ls hl => ?_)
    refine lv_goto (tgt := 146) hx hb dX8_digest_169 (by decide) ?_
    exact hkb _ _ _ _ _ ls hf  hP hS (lv_sub hl [1, 2, 0] rfl)
set_option maxHeartbeats 4000000 in
set_option maxRecDepth 100000 in
theorem vl_X8_digest_146 (X : Cx D cI cP cB cA 19 ad tL tC p s m c cX8_digest 3 args RX8) (hr : meth.sig.returnType = (some .long)) (hlk : meth.locks = false) {res : Int64 × Stt} (ke : Int32 → Stt → Option (Int64 × Stt)) (hke : ∀ (x1 : Int32) (S : Stt) (H : Heap) (locs : List Loc) (ls : Array Slot), ke x1 S = some res → va_P D vwCl (wl 19 ad (cfM ad cI S)) H → va_S (Ar 19 ad) s.heap H locs → lv_has ls 3 [(0, .ref (ad 0)), (1, .int x1)] → W p l e (rmD 3) s m args below meth c H locs 0 0 (MQ below (QL D 19 ad res.1 (cfM ad cI res.2)) args s 0 0 (Ar 19 ad)) (F0 m 172 ls [])) : ∀ (n : Nat), ∀ (x1 : Int32) (x2 : Int32) (S : Stt) (H : Heap) (locs : List Loc) (ls : Array Slot), fl_X8_digest_146 ke n x1 x2 S = some res → va_P D vwCl (wl 19 ad (cfM ad cI S)) H → va_S (Ar 19 ad) s.heap H locs → lv_has ls 3 [(0, .ref (ad 0)), (1, .int x1), (2, .int x2)] → W p l e (rmD 3) s m args below meth c H locs 0 0 (MQ below (QL D 19 ad res.1 (cfM ad cI res.2)) args s 0 0 (Ar 19 ad)) (F0 m 146 ls []) := by
  intro n
  induction n with
  | zero =>
    intro x1 x2 S H locs ls hf hP hS hl
    cases hf
  | succ n ih =>
    intro x1 x2 S H locs ls hf hP hS hl
    exact vb_X8_digest_146 X hr hlk _ ke ih hke x1 x2 S H locs ls hf  hP hS hl
set_option maxHeartbeats 4000000 in
set_option maxRecDepth 100000 in
theorem vb_X8_digest_115 (X : Cx D cI cP cB cA 19 ad tL tC p s m c cX8_digest 3 args RX8) (hr : meth.sig.returnType = (some .long)) (hlk : meth.locks = false) {res : Int64 × Stt} (kb : Int32 → Stt → Option (Int64 × Stt)) (ke : Stt → Option (Int64 × Stt)) (hkb : ∀ (x1 : Int32) (S : Stt) (H : Heap) (locs : List Loc) (ls : Array Slot), kb x1 S = some res → va_P D vwCl (wl 19 ad (cfM ad cI S)) H → va_S (Ar 19 ad) s.heap H locs → lv_has ls 3 [(0, .ref (ad 0)), (1, .int x1)] → W p l e (rmD 3) s m args below meth c H locs 0 0 (MQ below (QL D 19 ad res.1 (cfM ad cI res.2)) args s 0 0 (Ar 19 ad)) (F0 m 115 ls [])) (hke : ∀ (S : Stt) (H : Heap) (locs : List Loc) (ls : Array Slot), ke S = some res → va_P D vwCl (wl 19 ad (cfM ad cI S)) H → va_S (Ar 19 ad) s.heap H locs → lv_has ls 3 [(0, .ref (ad 0))] → W p l e (rmD 3) s m args below meth c H locs 0 0 (MQ below (QL D 19 ad res.1 (cfM ad cI res.2)) args s 0 0 (Ar 19 ad)) (F0 m 178 ls [])) : ∀ (x1 : Int32) (S : Stt) (H : Heap) (locs : List Loc) (ls : Array Slot), fb_X8_digest_115 kb ke x1 S = some res → va_P D vwCl (wl 19 ad (cfM ad cI S)) H → va_S (Ar 19 ad) s.heap H locs → lv_has ls 3 [(0, .ref (ad 0)), (1, .int x1)] → W p l e (rmD 3) s m args below meth c H locs 0 0 (MQ below (QL D 19 ad res.1 (cfM ad cI res.2)) args s 0 0 (Ar 19 ad)) (F0 m 115 ls []) := by
  intro x1 S H locs ls hf hP hS hl
  have hx := X.1.1
  have hb := X.1.2.1
  unfold fb_X8_digest_115 at hf
  refine lv_iload_n hx hb dX8_digest_115 rfl (lv_at hl 1 rfl) ?_
  refine lv_bipush (v := (6 : Int32)) hx hb dX8_digest_116 (by decide) ?_
  refine lv_icmp_ge (tgt := 178) hx hb dX8_digest_118 (by decide) (fun c20 => ?_) (fun c20 => ?_)
  · rw [if_pos c20] at hf
    exact hke  _ _ _ ls hf  hP hS (lv_sub hl [0] rfl)
  · rw [if_neg c20] at hf
    refine lv_aload_n hx hb dX8_digest_121 rfl (lv_at hl 0 rfl) ?_
    refine lv_aload_n hx hb dX8_digest_122 rfl (lv_at hl 0 rfl) ?_
    refine g_M_sizes X hP  tw_81 dX8_digest_123 ?_
    refine lv_iload_n hx hb dX8_digest_126 rfl (lv_at hl 1 rfl) ?_
    obtain ⟨g21, hf⟩ := grd_some hf
    refine r_m_sizes X hP  g21 dX8_digest_127 ?_
    refine lv_if_ge (tgt := 135) hx hb dX8_digest_128 (by decide) (fun c22 => ?_) (fun c22 => ?_)
    · rw [if_pos c22] at hf
      refine lv_aload_n hx hb dX8_digest_135 rfl (lv_at hl 0 rfl) ?_
      refine g_M_sizes X hP  tw_81 dX8_digest_136 ?_
      refine lv_iload_n hx hb dX8_digest_139 rfl (lv_at hl 1 rfl) ?_
      obtain ⟨g23, hf⟩ := grd_some hf
      refine r_m_sizes X hP  g23 dX8_digest_140 ?_
      obtain ⟨q24, e25, hf⟩ := bind_some hf
      refine aftV hS (cV (rest := []) X hP hS [.int (S.1 2 0 x1.toNatClampNeg)] (m_X8_mix  e25) cw_X8_mix tw_379 tw_642 tw_842 (by decide) (cf_M ) rfl (fits9 (by first | decide | omega) (by decide)) rfl rfl hl.1 (Nat.le_of_ble_eq_true rfl) dX8_digest_141 ⟨Nat.zero_le _, Nat.zero_le _⟩) (fun H locs hP hS => ?_)
      refine lv_iconst (v := (0 : Int32)) hx hb dX8_digest_144 (by decide) ?_
      refine lv_istore_n (lv' := [(2, .int (0 : Int32)), (0, .ref (ad 0)), (1, .int x1)]) hx hb dX8_digest_145 rfl hl (by decide) rfl (fun ls hl => ?_)
      refine vl_X8_digest_146 X hr hlk _ ?_ 300 _ _ _ _ _ ls hf  hP hS (lv_sub hl [1, 2, 0] rfl)
      intro x1 S H locs ls hf hP hS hl
      refine lv_iinc (v := (x1 + (1 : Int32))) (lv' := [(1, .int (x1 + (1 : Int32))), (0, .ref (ad 0))]) hx hb dX8_digest_172 hl (k := 1) rfl rfl (by decide) rfl (fun ls hl => ?_)
      refine lv_goto (tgt := 115) hx hb dX8_digest_175 (by decide) ?_
      exact hkb _ _ _ _ ls hf  hP hS (lv_sub hl [1, 0] rfl)
    · rw [if_neg c22] at hf
      refine lv_iconst (v := (-1 : Int32)) hx hb dX8_digest_131 (by decide) ?_
      refine lv_goto (tgt := 141) hx hb dX8_digest_132 (by decide) ?_
      obtain ⟨q32, e33, hf⟩ := bind_some hf
      refine aftV hS (cV (rest := []) X hP hS [.int (-1 : Int32)] (m_X8_mix  e33) cw_X8_mix tw_379 tw_642 tw_842 (by decide) (cf_M ) rfl (fits9 (by first | decide | omega) (by decide)) rfl rfl hl.1 (Nat.le_of_ble_eq_true rfl) dX8_digest_141 ⟨Nat.zero_le _, Nat.zero_le _⟩) (fun H locs hP hS => ?_)
      refine lv_iconst (v := (0 : Int32)) hx hb dX8_digest_144 (by decide) ?_
      refine lv_istore_n (lv' := [(2, .int (0 : Int32)), (0, .ref (ad 0)), (1, .int x1)]) hx hb dX8_digest_145 rfl hl (by decide) rfl (fun ls hl => ?_)
      refine vl_X8_digest_146 X hr hlk _ ?_ 300 _ _ _ _ _ ls hf  hP hS (lv_sub hl [1, 2, 0] rfl)
      intro x1 S H locs ls hf hP hS hl
      refine lv_iinc (v := (x1 + (1 : Int32))) (lv' := [(1, .int (x1 + (1 : Int32))), (0, .ref (ad 0))]) hx hb dX8_digest_172 hl (k := 1) rfl rfl (by decide) rfl (fun ls hl => ?_)
      refine lv_goto (tgt := 115) hx hb dX8_digest_175 (by decide) ?_
      exact hkb _ _ _ _ ls hf  hP hS (lv_sub hl [1, 0] rfl)
set_option maxHeartbeats 4000000 in
set_option maxRecDepth 100000 in
theorem vl_X8_digest_115 (X : Cx D cI cP cB cA 19 ad tL tC p s m c cX8_digest 3 args RX8) (hr : meth.sig.returnType = (some .long)) (hlk : meth.locks = false) {res : Int64 × Stt} (ke : Stt → Option (Int64 × Stt)) (hke : ∀ (S : Stt) (H : Heap) (locs : List Loc) (ls : Array Slot), ke S = some res → va_P D vwCl (wl 19 ad (cfM ad cI S)) H → va_S (Ar 19 ad) s.heap H locs → lv_has ls 3 [(0, .ref (ad 0))] → W p l e (rmD 3) s m args below meth c H locs 0 0 (MQ below (QL D 19 ad res.1 (cfM ad cI res.2)) args s 0 0 (Ar 19 ad)) (F0 m 178 ls [])) : ∀ (n : Nat), ∀ (x1 : Int32) (S : Stt) (H : Heap) (locs : List Loc) (ls : Array Slot), fl_X8_digest_115 ke n x1 S = some res → va_P D vwCl (wl 19 ad (cfM ad cI S)) H → va_S (Ar 19 ad) s.heap H locs → lv_has ls 3 [(0, .ref (ad 0)), (1, .int x1)] → W p l e (rmD 3) s m args below meth c H locs 0 0 (MQ below (QL D 19 ad res.1 (cfM ad cI res.2)) args s 0 0 (Ar 19 ad)) (F0 m 115 ls []) := by
  intro n
  induction n with
  | zero =>
    intro x1 S H locs ls hf hP hS hl
    cases hf
  | succ n ih =>
    intro x1 S H locs ls hf hP hS hl
    exact vb_X8_digest_115 X hr hlk _ ke ih hke x1 S H locs ls hf  hP hS hl
set_option maxHeartbeats 4000000 in
set_option maxRecDepth 100000 in
theorem vb_X8_digest_210 (X : Cx D cI cP cB cA 19 ad tL tC p s m c cX8_digest 3 args RX8) (hr : meth.sig.returnType = (some .long)) (hlk : meth.locks = false) {res : Int64 × Stt} (kb : Int32 → Int32 → Stt → Option (Int64 × Stt)) (ke : Int32 → Stt → Option (Int64 × Stt)) (hkb : ∀ (x1 : Int32) (x2 : Int32) (S : Stt) (H : Heap) (locs : List Loc) (ls : Array Slot), kb x1 x2 S = some res → va_P D vwCl (wl 19 ad (cfM ad cI S)) H → va_S (Ar 19 ad) s.heap H locs → lv_has ls 3 [(0, .ref (ad 0)), (1, .int x1), (2, .int x2)] → W p l e (rmD 3) s m args below meth c H locs 0 0 (MQ below (QL D 19 ad res.1 (cfM ad cI res.2)) args s 0 0 (Ar 19 ad)) (F0 m 210 ls [])) (hke : ∀ (x1 : Int32) (S : Stt) (H : Heap) (locs : List Loc) (ls : Array Slot), ke x1 S = some res → va_P D vwCl (wl 19 ad (cfM ad cI S)) H → va_S (Ar 19 ad) s.heap H locs → lv_has ls 3 [(0, .ref (ad 0)), (1, .int x1)] → W p l e (rmD 3) s m args below meth c H locs 0 0 (MQ below (QL D 19 ad res.1 (cfM ad cI res.2)) args s 0 0 (Ar 19 ad)) (F0 m 241 ls [])) : ∀ (x1 : Int32) (x2 : Int32) (S : Stt) (H : Heap) (locs : List Loc) (ls : Array Slot), fb_X8_digest_210 kb ke x1 x2 S = some res → va_P D vwCl (wl 19 ad (cfM ad cI S)) H → va_S (Ar 19 ad) s.heap H locs → lv_has ls 3 [(0, .ref (ad 0)), (1, .int x1), (2, .int x2)] → W p l e (rmD 3) s m args below meth c H locs 0 0 (MQ below (QL D 19 ad res.1 (cfM ad cI res.2)) args s 0 0 (Ar 19 ad)) (F0 m 210 ls []) := by
  intro x1 x2 S H locs ls hf hP hS hl
  have hx := X.1.1
  have hb := X.1.2.1
  unfold fb_X8_digest_210 at hf
  refine lv_iload_n hx hb dX8_digest_210 rfl (lv_at hl 2 rfl) ?_
  refine lv_aload_n hx hb dX8_digest_211 rfl (lv_at hl 0 rfl) ?_
  refine g_M_lengths X hP  tw_84 dX8_digest_212 ?_
  refine lv_iload_n hx hb dX8_digest_215 rfl (lv_at hl 1 rfl) ?_
  obtain ⟨g40, hf⟩ := grd_some hf
  refine r_m_lengths X hP  g40 dX8_digest_216 ?_
  refine lv_icmp_ge (tgt := 241) hx hb dX8_digest_217 (by decide) (fun c41 => ?_) (fun c41 => ?_)
  · rw [if_pos c41] at hf
    exact hke _ _ _ _ ls hf  hP hS (lv_sub hl [0, 1] rfl)
  · rw [if_neg c41] at hf
    refine lv_aload_n hx hb dX8_digest_220 rfl (lv_at hl 0 rfl) ?_
    refine lv_aload_n hx hb dX8_digest_221 rfl (lv_at hl 0 rfl) ?_
    refine g_M_texts X hP  tw_85 dX8_digest_222 ?_
    refine lv_bipush (v := (80 : Int32)) hx hb dX8_digest_225 (by decide) ?_
    refine lv_iload_n hx hb dX8_digest_227 rfl (lv_at hl 1 rfl) ?_
    refine lv_imul hx hb dX8_digest_228 ?_
    refine lv_iload_n hx hb dX8_digest_229 rfl (lv_at hl 2 rfl) ?_
    refine lv_iadd hx hb dX8_digest_230 ?_
    obtain ⟨g42, hf⟩ := grd_some hf
    refine r_m_texts X hP  g42 dX8_digest_231 ?_
    obtain ⟨q43, e44, hf⟩ := bind_some hf
    refine aftV hS (cV (rest := []) X hP hS [.int (S.1 6 0 (((80 : Int32) * x1) + x2).toNatClampNeg)] (m_X8_mix  e44) cw_X8_mix tw_379 tw_642 tw_842 (by decide) (cf_M ) rfl (fits9 (by first | decide | omega) (by decide)) rfl rfl hl.1 (Nat.le_of_ble_eq_true rfl) dX8_digest_232 ⟨Nat.zero_le _, Nat.zero_le _⟩) (fun H locs hP hS => ?_)
    refine lv_iinc (v := (x2 + (1 : Int32))) (lv' := [(2, .int (x2 + (1 : Int32))), (0, .ref (ad 0)), (1, .int x1)]) hx hb dX8_digest_235 hl (k := 2) rfl rfl (by decide) rfl (fun ls hl => ?_)
    refine lv_goto (tgt := 210) hx hb dX8_digest_238 (by decide) ?_
    exact hkb _ _ _ _ _ ls hf  hP hS (lv_sub hl [1, 2, 0] rfl)
set_option maxHeartbeats 4000000 in
set_option maxRecDepth 100000 in
theorem vl_X8_digest_210 (X : Cx D cI cP cB cA 19 ad tL tC p s m c cX8_digest 3 args RX8) (hr : meth.sig.returnType = (some .long)) (hlk : meth.locks = false) {res : Int64 × Stt} (ke : Int32 → Stt → Option (Int64 × Stt)) (hke : ∀ (x1 : Int32) (S : Stt) (H : Heap) (locs : List Loc) (ls : Array Slot), ke x1 S = some res → va_P D vwCl (wl 19 ad (cfM ad cI S)) H → va_S (Ar 19 ad) s.heap H locs → lv_has ls 3 [(0, .ref (ad 0)), (1, .int x1)] → W p l e (rmD 3) s m args below meth c H locs 0 0 (MQ below (QL D 19 ad res.1 (cfM ad cI res.2)) args s 0 0 (Ar 19 ad)) (F0 m 241 ls [])) : ∀ (n : Nat), ∀ (x1 : Int32) (x2 : Int32) (S : Stt) (H : Heap) (locs : List Loc) (ls : Array Slot), fl_X8_digest_210 ke n x1 x2 S = some res → va_P D vwCl (wl 19 ad (cfM ad cI S)) H → va_S (Ar 19 ad) s.heap H locs → lv_has ls 3 [(0, .ref (ad 0)), (1, .int x1), (2, .int x2)] → W p l e (rmD 3) s m args below meth c H locs 0 0 (MQ below (QL D 19 ad res.1 (cfM ad cI res.2)) args s 0 0 (Ar 19 ad)) (F0 m 210 ls []) := by
  intro n
  induction n with
  | zero =>
    intro x1 x2 S H locs ls hf hP hS hl
    cases hf
  | succ n ih =>
    intro x1 x2 S H locs ls hf hP hS hl
    exact vb_X8_digest_210 X hr hlk _ ke ih hke x1 x2 S H locs ls hf  hP hS hl
set_option maxHeartbeats 4000000 in
set_option maxRecDepth 100000 in
theorem vb_X8_digest_180 (X : Cx D cI cP cB cA 19 ad tL tC p s m c cX8_digest 3 args RX8) (hr : meth.sig.returnType = (some .long)) (hlk : meth.locks = false) {res : Int64 × Stt} (kb : Int32 → Stt → Option (Int64 × Stt)) (ke : Stt → Option (Int64 × Stt)) (hkb : ∀ (x1 : Int32) (S : Stt) (H : Heap) (locs : List Loc) (ls : Array Slot), kb x1 S = some res → va_P D vwCl (wl 19 ad (cfM ad cI S)) H → va_S (Ar 19 ad) s.heap H locs → lv_has ls 3 [(0, .ref (ad 0)), (1, .int x1)] → W p l e (rmD 3) s m args below meth c H locs 0 0 (MQ below (QL D 19 ad res.1 (cfM ad cI res.2)) args s 0 0 (Ar 19 ad)) (F0 m 180 ls [])) (hke : ∀ (S : Stt) (H : Heap) (locs : List Loc) (ls : Array Slot), ke S = some res → va_P D vwCl (wl 19 ad (cfM ad cI S)) H → va_S (Ar 19 ad) s.heap H locs → lv_has ls 3 [(0, .ref (ad 0))] → W p l e (rmD 3) s m args below meth c H locs 0 0 (MQ below (QL D 19 ad res.1 (cfM ad cI res.2)) args s 0 0 (Ar 19 ad)) (F0 m 247 ls [])) : ∀ (x1 : Int32) (S : Stt) (H : Heap) (locs : List Loc) (ls : Array Slot), fb_X8_digest_180 kb ke x1 S = some res → va_P D vwCl (wl 19 ad (cfM ad cI S)) H → va_S (Ar 19 ad) s.heap H locs → lv_has ls 3 [(0, .ref (ad 0)), (1, .int x1)] → W p l e (rmD 3) s m args below meth c H locs 0 0 (MQ below (QL D 19 ad res.1 (cfM ad cI res.2)) args s 0 0 (Ar 19 ad)) (F0 m 180 ls []) := by
  intro x1 S H locs ls hf hP hS hl
  have hx := X.1.1
  have hb := X.1.2.1
  unfold fb_X8_digest_180 at hf
  refine lv_iload_n hx hb dX8_digest_180 rfl (lv_at hl 1 rfl) ?_
  refine lv_iconst (v := (4 : Int32)) hx hb dX8_digest_181 (by decide) ?_
  refine lv_icmp_ge (tgt := 247) hx hb dX8_digest_182 (by decide) (fun c34 => ?_) (fun c34 => ?_)
  · rw [if_pos c34] at hf
    exact hke  _ _ _ ls hf  hP hS (lv_sub hl [0] rfl)
  · rw [if_neg c34] at hf
    refine lv_aload_n hx hb dX8_digest_185 rfl (lv_at hl 0 rfl) ?_
    refine lv_aload_n hx hb dX8_digest_186 rfl (lv_at hl 0 rfl) ?_
    refine g_M_lengths X hP  tw_84 dX8_digest_187 ?_
    refine lv_iload_n hx hb dX8_digest_190 rfl (lv_at hl 1 rfl) ?_
    obtain ⟨g35, hf⟩ := grd_some hf
    refine r_m_lengths X hP  g35 dX8_digest_191 ?_
    refine lv_if_ge (tgt := 199) hx hb dX8_digest_192 (by decide) (fun c36 => ?_) (fun c36 => ?_)
    · rw [if_pos c36] at hf
      refine lv_aload_n hx hb dX8_digest_199 rfl (lv_at hl 0 rfl) ?_
      refine g_M_lengths X hP  tw_84 dX8_digest_200 ?_
      refine lv_iload_n hx hb dX8_digest_203 rfl (lv_at hl 1 rfl) ?_
      obtain ⟨g37, hf⟩ := grd_some hf
      refine r_m_lengths X hP  g37 dX8_digest_204 ?_
      obtain ⟨q38, e39, hf⟩ := bind_some hf
      refine aftV hS (cV (rest := []) X hP hS [.int (S.1 5 0 x1.toNatClampNeg)] (m_X8_mix  e39) cw_X8_mix tw_379 tw_642 tw_842 (by decide) (cf_M ) rfl (fits9 (by first | decide | omega) (by decide)) rfl rfl hl.1 (Nat.le_of_ble_eq_true rfl) dX8_digest_205 ⟨Nat.zero_le _, Nat.zero_le _⟩) (fun H locs hP hS => ?_)
      refine lv_iconst (v := (0 : Int32)) hx hb dX8_digest_208 (by decide) ?_
      refine lv_istore_n (lv' := [(2, .int (0 : Int32)), (0, .ref (ad 0)), (1, .int x1)]) hx hb dX8_digest_209 rfl hl (by decide) rfl (fun ls hl => ?_)
      refine vl_X8_digest_210 X hr hlk _ ?_ 300 _ _ _ _ _ ls hf  hP hS (lv_sub hl [1, 2, 0] rfl)
      intro x1 S H locs ls hf hP hS hl
      refine lv_iinc (v := (x1 + (1 : Int32))) (lv' := [(1, .int (x1 + (1 : Int32))), (0, .ref (ad 0))]) hx hb dX8_digest_241 hl (k := 1) rfl rfl (by decide) rfl (fun ls hl => ?_)
      refine lv_goto (tgt := 180) hx hb dX8_digest_244 (by decide) ?_
      exact hkb _ _ _ _ ls hf  hP hS (lv_sub hl [1, 0] rfl)
    · rw [if_neg c36] at hf
      refine lv_iconst (v := (-1 : Int32)) hx hb dX8_digest_195 (by decide) ?_
      refine lv_goto (tgt := 205) hx hb dX8_digest_196 (by decide) ?_
      obtain ⟨q45, e46, hf⟩ := bind_some hf
      refine aftV hS (cV (rest := []) X hP hS [.int (-1 : Int32)] (m_X8_mix  e46) cw_X8_mix tw_379 tw_642 tw_842 (by decide) (cf_M ) rfl (fits9 (by first | decide | omega) (by decide)) rfl rfl hl.1 (Nat.le_of_ble_eq_true rfl) dX8_digest_205 ⟨Nat.zero_le _, Nat.zero_le _⟩) (fun H locs hP hS => ?_)
      refine lv_iconst (v := (0 : Int32)) hx hb dX8_digest_208 (by decide) ?_
      refine lv_istore_n (lv' := [(2, .int (0 : Int32)), (0, .ref (ad 0)), (1, .int x1)]) hx hb dX8_digest_209 rfl hl (by decide) rfl (fun ls hl => ?_)
      refine vl_X8_digest_210 X hr hlk _ ?_ 300 _ _ _ _ _ ls hf  hP hS (lv_sub hl [1, 2, 0] rfl)
      intro x1 S H locs ls hf hP hS hl
      refine lv_iinc (v := (x1 + (1 : Int32))) (lv' := [(1, .int (x1 + (1 : Int32))), (0, .ref (ad 0))]) hx hb dX8_digest_241 hl (k := 1) rfl rfl (by decide) rfl (fun ls hl => ?_)
      refine lv_goto (tgt := 180) hx hb dX8_digest_244 (by decide) ?_
      exact hkb _ _ _ _ ls hf  hP hS (lv_sub hl [1, 0] rfl)
set_option maxHeartbeats 4000000 in
set_option maxRecDepth 100000 in
theorem vl_X8_digest_180 (X : Cx D cI cP cB cA 19 ad tL tC p s m c cX8_digest 3 args RX8) (hr : meth.sig.returnType = (some .long)) (hlk : meth.locks = false) {res : Int64 × Stt} (ke : Stt → Option (Int64 × Stt)) (hke : ∀ (S : Stt) (H : Heap) (locs : List Loc) (ls : Array Slot), ke S = some res → va_P D vwCl (wl 19 ad (cfM ad cI S)) H → va_S (Ar 19 ad) s.heap H locs → lv_has ls 3 [(0, .ref (ad 0))] → W p l e (rmD 3) s m args below meth c H locs 0 0 (MQ below (QL D 19 ad res.1 (cfM ad cI res.2)) args s 0 0 (Ar 19 ad)) (F0 m 247 ls [])) : ∀ (n : Nat), ∀ (x1 : Int32) (S : Stt) (H : Heap) (locs : List Loc) (ls : Array Slot), fl_X8_digest_180 ke n x1 S = some res → va_P D vwCl (wl 19 ad (cfM ad cI S)) H → va_S (Ar 19 ad) s.heap H locs → lv_has ls 3 [(0, .ref (ad 0)), (1, .int x1)] → W p l e (rmD 3) s m args below meth c H locs 0 0 (MQ below (QL D 19 ad res.1 (cfM ad cI res.2)) args s 0 0 (Ar 19 ad)) (F0 m 180 ls []) := by
  intro n
  induction n with
  | zero =>
    intro x1 S H locs ls hf hP hS hl
    cases hf
  | succ n ih =>
    intro x1 S H locs ls hf hP hS hl
    exact vb_X8_digest_180 X hr hlk _ ke ih hke x1 S H locs ls hf  hP hS hl
end
set_option maxHeartbeats 4000000 in
set_option maxRecDepth 100000 in
theorem m_X8_digest {l : Launch} {D : va_G} {cI cP cB cA : ClassId} {ad : Nat → Nat} {tL tC : Nat} {S : Stt} {res : Int64 × Stt} (hf : f_X8_digest  S = some res) : Ct l D cI cP cB cA 19 ad tL tC yX8_digest cX8_digest 3 (some .long) 3 [.ref (ad 0)] (cfM ad cI S) (QL D 19 ad res.1 (cfM ad cI res.2)) := by
  refine ctOf (by decide) (Nat.le_of_ble_eq_true rfl) ?_
  intro p e s m args below meth c ls X hr hlk hP hl
  have hS : va_S (Ar 19 ad) s.heap s.heap [] := va_S.rf
  have hx := X.1.1
  have hb := X.1.2.1
  have hl : lv_has ls 3 [(0, .ref (ad 0))] := hl
  unfold f_X8_digest at hf
  refine lv_aload_n hx hb dX8_digest_0 rfl (lv_at hl 0 rfl) ?_
  refine lv_ldc2 (v := (17 : Int64)) hx hb X.1.2.2.2.1 (X.1.2.2.2.2 _ tw_641) dX8_digest_1 ?_
  refine p_M_h0 X hP hS  tw_106 dX8_digest_4 (fun H locs hP hS => ?_)
  refine lv_iconst (v := (0 : Int32)) hx hb dX8_digest_7 (by decide) ?_
  refine lv_istore_n (lv' := [(1, .int (0 : Int32)), (0, .ref (ad 0))]) hx hb dX8_digest_8 rfl hl (by decide) rfl (fun ls hl => ?_)
  refine vl_X8_digest_9 X hr hlk _ ?_ 300 _ _ _ _ ls hf  hP hS (lv_sub hl [1, 0] rfl)
  intro S H locs ls hf hP hS hl
  refine lv_iconst (v := (0 : Int32)) hx hb dX8_digest_30 (by decide) ?_
  refine lv_istore_n (lv' := [(1, .int (0 : Int32)), (0, .ref (ad 0))]) hx hb dX8_digest_31 rfl hl (by decide) rfl (fun ls hl => ?_)
  refine vl_X8_digest_32 X hr hlk _ ?_ 300 _ _ _ _ ls hf  hP hS (lv_sub hl [1, 0] rfl)
  intro S H locs ls hf hP hS hl
  refine lv_iconst (v := (0 : Int32)) hx hb dX8_digest_69 (by decide) ?_
  refine lv_istore_n (lv' := [(1, .int (0 : Int32)), (0, .ref (ad 0))]) hx hb dX8_digest_70 rfl hl (by decide) rfl (fun ls hl => ?_)
  refine vl_X8_digest_71 X hr hlk _ ?_ 300 _ _ _ _ ls hf  hP hS (lv_sub hl [1, 0] rfl)
  intro S H locs ls hf hP hS hl
  refine lv_iconst (v := (0 : Int32)) hx hb dX8_digest_113 (by decide) ?_
  refine lv_istore_n (lv' := [(1, .int (0 : Int32)), (0, .ref (ad 0))]) hx hb dX8_digest_114 rfl hl (by decide) rfl (fun ls hl => ?_)
  refine vl_X8_digest_115 X hr hlk _ ?_ 300 _ _ _ _ ls hf  hP hS (lv_sub hl [1, 0] rfl)
  intro S H locs ls hf hP hS hl
  refine lv_iconst (v := (0 : Int32)) hx hb dX8_digest_178 (by decide) ?_
  refine lv_istore_n (lv' := [(1, .int (0 : Int32)), (0, .ref (ad 0))]) hx hb dX8_digest_179 rfl hl (by decide) rfl (fun ls hl => ?_)
  refine vl_X8_digest_180 X hr hlk _ ?_ 300 _ _ _ _ ls hf  hP hS (lv_sub hl [1, 0] rfl)
  intro S H locs ls hf hP hS hl
  refine lv_aload_n hx hb dX8_digest_247 rfl (lv_at hl 0 rfl) ?_
  refine g_M_h0 X hP  tw_106 dX8_digest_248 ?_
  cases hf
  exact rtL X hr hlk hP hS dX8_digest_251
/-! X8_doesBind -/
section
variable {p : Program} {l : Launch} {e : Env} {s : State} {m : MethodId} {args : Array Value} {below : List Frame} {meth : Method} {c : Code}
variable {D : va_G} {cI cP cB cA : ClassId} {ad : Nat → Nat} {tL tC : Nat}
set_option maxHeartbeats 4000000 in
set_option maxRecDepth 100000 in
theorem vj_X8_doesBind_74_5 (X : Cx D cI cP cB cA 19 ad tL tC p s m c cX8_doesBind 5 args RX8) (hr : meth.sig.returnType = (some .boolean)) (hlk : meth.locks = false) {res : Int32 × Stt} (kb : Int32 → Int32 → Int32 → Stt → Option (Int32 × Stt)) (ke : Stt → Option (Int32 × Stt)) (hkb : ∀ (x2 : Int32) (x3 : Int32) (x4 : Int32) (S : Stt) (H : Heap) (locs : List Loc) (ls : Array Slot), kb x2 x3 x4 S = some res → va_P D vwCl (wl 19 ad (cfM ad cI S)) H → va_S (Ar 19 ad) s.heap H locs → lv_has ls 5 [(0, .ref (ad 0)), (2, .int x2), (3, .int x3), (4, .int x4)] → W p l e (rmD 3) s m args below meth c H locs 0 0 (MQ below (QI D 19 ad res.1 (cfM ad cI res.2)) args s 0 0 (Ar 19 ad)) (F0 m 5 ls [])) (hke : ∀ (S : Stt) (H : Heap) (locs : List Loc) (ls : Array Slot), ke S = some res → va_P D vwCl (wl 19 ad (cfM ad cI S)) H → va_S (Ar 19 ad) s.heap H locs → lv_has ls 5 [] → W p l e (rmD 3) s m args below meth c H locs 0 0 (MQ below (QI D 19 ad res.1 (cfM ad cI res.2)) args s 0 0 (Ar 19 ad)) (F0 m 101 ls [])) : ∀ (x2 : Int32) (x3 : Int32) (x4 : Int32) (S : Stt) (H : Heap) (locs : List Loc) (ls : Array Slot), fj_X8_doesBind_74_5 kb ke x2 x3 x4 S = some res → va_P D vwCl (wl 19 ad (cfM ad cI S)) H → va_S (Ar 19 ad) s.heap H locs → lv_has ls 5 [(0, .ref (ad 0)), (2, .int x2), (3, .int x3), (4, .int x4)] → W p l e (rmD 3) s m args below meth c H locs 0 0 (MQ below (QI D 19 ad res.1 (cfM ad cI res.2)) args s 0 0 (Ar 19 ad)) (F0 m 74 ls []) := by
  intro x2 x3 x4 S H locs ls hf hP hS hl
  have hx := X.1.1
  have hb := X.1.2.1
  unfold fj_X8_doesBind_74_5 at hf
  refine lv_aload_n hx hb dX8_doesBind_74 rfl (lv_at hl 0 rfl) ?_
  refine g_M_kinds X hP  tw_87 dX8_doesBind_75 ?_
  refine lv_iload_n hx hb dX8_doesBind_78 rfl (lv_at hl 2 rfl) ?_
  obtain ⟨g10, hf⟩ := grd_some hf
  refine r_m_kinds X hP  g10 dX8_doesBind_79 ?_
  obtain ⟨q11, e12, hf⟩ := bind_some hf
  refine aftI hS (cS (rest := []) X hP hS [.int (S.1 7 0 x3.toNatClampNeg)] (m_X8_doesPoint  e12) cw_X8_doesPoint tw_309 tw_566 (fits9 (by first | decide | omega) (by decide)) rfl rfl hl.1 (Nat.le_of_ble_eq_true rfl) dX8_doesBind_80 ⟨Nat.zero_le _, Nat.zero_le _⟩) (fun H locs hP hS => ?_)
  refine lv_if_ne (tgt := 88) hx hb dX8_doesBind_83 (by decide) (fun c13 => ?_) (fun c13 => ?_)
  · rw [if_neg c13] at hf
    refine lv_aload_n hx hb dX8_doesBind_88 rfl (lv_at hl 0 rfl) ?_
    refine g_M_points X hP  tw_90 dX8_doesBind_89 ?_
    refine lv_iload_n hx hb dX8_doesBind_92 rfl (lv_at hl 2 rfl) ?_
    obtain ⟨g14, hf⟩ := grd_some hf
    refine r_m_points X hP  g14 dX8_doesBind_93 ?_
    refine lv_istore_n (lv' := [(3, .int (q11.2.1 10 0 x3.toNatClampNeg)), (0, .ref (ad 0)), (2, .int x2), (4, .int x4)]) hx hb dX8_doesBind_94 rfl hl (by decide) rfl (fun ls hl => ?_)
    refine lv_iinc (v := (x4 + (1 : Int32))) (lv' := [(4, .int (x4 + (1 : Int32))), (3, .int (q11.2.1 10 0 x3.toNatClampNeg)), (0, .ref (ad 0)), (2, .int x2)]) hx hb dX8_doesBind_95 hl (k := 3) rfl rfl (by decide) rfl (fun ls hl => ?_)
    refine lv_goto (tgt := 5) hx hb dX8_doesBind_98 (by decide) ?_
    exact hkb _ _ _ _ _ _ ls hf  hP hS (lv_sub hl [2, 3, 1, 0] rfl)
  · rw [if_pos c13] at hf
    refine lv_iconst (v := (1 : Int32)) hx hb dX8_doesBind_86 (by decide) ?_
    cases hf
    exact rtZ X hr hlk hP hS (Or.inr rfl) dX8_doesBind_87
set_option maxHeartbeats 4000000 in
set_option maxRecDepth 100000 in
theorem vj_X8_doesBind_50_5 (X : Cx D cI cP cB cA 19 ad tL tC p s m c cX8_doesBind 5 args RX8) (hr : meth.sig.returnType = (some .boolean)) (hlk : meth.locks = false) {res : Int32 × Stt} (kb : Int32 → Int32 → Int32 → Stt → Option (Int32 × Stt)) (ke : Stt → Option (Int32 × Stt)) (hkb : ∀ (x2 : Int32) (x3 : Int32) (x4 : Int32) (S : Stt) (H : Heap) (locs : List Loc) (ls : Array Slot), kb x2 x3 x4 S = some res → va_P D vwCl (wl 19 ad (cfM ad cI S)) H → va_S (Ar 19 ad) s.heap H locs → lv_has ls 5 [(0, .ref (ad 0)), (2, .int x2), (3, .int x3), (4, .int x4)] → W p l e (rmD 3) s m args below meth c H locs 0 0 (MQ below (QI D 19 ad res.1 (cfM ad cI res.2)) args s 0 0 (Ar 19 ad)) (F0 m 5 ls [])) (hke : ∀ (S : Stt) (H : Heap) (locs : List Loc) (ls : Array Slot), ke S = some res → va_P D vwCl (wl 19 ad (cfM ad cI S)) H → va_S (Ar 19 ad) s.heap H locs → lv_has ls 5 [] → W p l e (rmD 3) s m args below meth c H locs 0 0 (MQ below (QI D 19 ad res.1 (cfM ad cI res.2)) args s 0 0 (Ar 19 ad)) (F0 m 101 ls [])) : ∀ (x2 : Int32) (x3 : Int32) (x4 : Int32) (S : Stt) (H : Heap) (locs : List Loc) (ls : Array Slot), fj_X8_doesBind_50_5 kb ke x2 x3 x4 S = some res → va_P D vwCl (wl 19 ad (cfM ad cI S)) H → va_S (Ar 19 ad) s.heap H locs → lv_has ls 5 [(0, .ref (ad 0)), (2, .int x2), (3, .int x3), (4, .int x4)] → W p l e (rmD 3) s m args below meth c H locs 0 0 (MQ below (QI D 19 ad res.1 (cfM ad cI res.2)) args s 0 0 (Ar 19 ad)) (F0 m 50 ls []) := by
  intro x2 x3 x4 S H locs ls hf hP hS hl
  have hx := X.1.1
  have hb := X.1.2.1
  unfold fj_X8_doesBind_50_5 at hf
  refine lv_aload_n hx hb dX8_doesBind_50 rfl (lv_at hl 0 rfl) ?_
  refine g_M_kinds X hP  tw_87 dX8_doesBind_51 ?_
  refine lv_iload_n hx hb dX8_doesBind_54 rfl (lv_at hl 2 rfl) ?_
  obtain ⟨g8, hf⟩ := grd_some hf
  refine r_m_kinds X hP  g8 dX8_doesBind_55 ?_
  refine lv_iconst (v := (4 : Int32)) hx hb dX8_doesBind_56 (by decide) ?_
  refine lv_icmp_ne (tgt := 74) hx hb dX8_doesBind_57 (by decide) (fun c9 => ?_) (fun c9 => ?_)
  · rw [if_neg c9] at hf
    exact vj_X8_doesBind_74_5 X hr hlk _ _ hkb hke _ _ _ _ _ _ ls hf  hP hS (lv_sub hl [0, 1, 2, 3] rfl)
  · rw [if_pos c9] at hf
    refine lv_iload_n hx hb dX8_doesBind_60 rfl (lv_at hl 1 rfl) ?_
    refine lv_aload_n hx hb dX8_doesBind_61 rfl (lv_at hl 0 rfl) ?_
    refine g_M_days X hP  tw_92 dX8_doesBind_62 ?_
    refine lv_iload_n hx hb dX8_doesBind_65 rfl (lv_at hl 2 rfl) ?_
    obtain ⟨g15, hf⟩ := grd_some hf
    refine r_m_days X hP  g15 dX8_doesBind_66 ?_
    refine lv_iconst (v := (2 : Int32)) hx hb dX8_doesBind_67 (by decide) ?_
    refine lv_iadd hx hb dX8_doesBind_68 ?_
    refine lv_icmp_le (tgt := 74) hx hb dX8_doesBind_69 (by decide) (fun c16 => ?_) (fun c16 => ?_)
    · rw [if_pos c16] at hf
      exact vj_X8_doesBind_74_5 X hr hlk _ _ hkb hke _ _ _ _ _ _ ls hf  hP hS (lv_sub hl [0, 1, 2, 3] rfl)
    · rw [if_neg c16] at hf
      refine lv_iconst (v := (0 : Int32)) hx hb dX8_doesBind_72 (by decide) ?_
      cases hf
      exact rtZ X hr hlk hP hS (Or.inl rfl) dX8_doesBind_73
set_option maxHeartbeats 4000000 in
set_option maxRecDepth 100000 in
theorem vb_X8_doesBind_5 (X : Cx D cI cP cB cA 19 ad tL tC p s m c cX8_doesBind 5 args RX8) (hr : meth.sig.returnType = (some .boolean)) (hlk : meth.locks = false) {res : Int32 × Stt} (kb : Int32 → Int32 → Int32 → Stt → Option (Int32 × Stt)) (ke : Stt → Option (Int32 × Stt)) (hkb : ∀ (x2 : Int32) (x3 : Int32) (x4 : Int32) (S : Stt) (H : Heap) (locs : List Loc) (ls : Array Slot), kb x2 x3 x4 S = some res → va_P D vwCl (wl 19 ad (cfM ad cI S)) H → va_S (Ar 19 ad) s.heap H locs → lv_has ls 5 [(0, .ref (ad 0)), (2, .int x2), (3, .int x3), (4, .int x4)] → W p l e (rmD 3) s m args below meth c H locs 0 0 (MQ below (QI D 19 ad res.1 (cfM ad cI res.2)) args s 0 0 (Ar 19 ad)) (F0 m 5 ls [])) (hke : ∀ (S : Stt) (H : Heap) (locs : List Loc) (ls : Array Slot), ke S = some res → va_P D vwCl (wl 19 ad (cfM ad cI S)) H → va_S (Ar 19 ad) s.heap H locs → lv_has ls 5 [] → W p l e (rmD 3) s m args below meth c H locs 0 0 (MQ below (QI D 19 ad res.1 (cfM ad cI res.2)) args s 0 0 (Ar 19 ad)) (F0 m 101 ls [])) : ∀ (x2 : Int32) (x3 : Int32) (x4 : Int32) (S : Stt) (H : Heap) (locs : List Loc) (ls : Array Slot), fb_X8_doesBind_5 kb ke x2 x3 x4 S = some res → va_P D vwCl (wl 19 ad (cfM ad cI S)) H → va_S (Ar 19 ad) s.heap H locs → lv_has ls 5 [(0, .ref (ad 0)), (2, .int x2), (3, .int x3), (4, .int x4)] → W p l e (rmD 3) s m args below meth c H locs 0 0 (MQ below (QI D 19 ad res.1 (cfM ad cI res.2)) args s 0 0 (Ar 19 ad)) (F0 m 5 ls []) := by
  intro x2 x3 x4 S H locs ls hf hP hS hl
  have hx := X.1.1
  have hb := X.1.2.1
  unfold fb_X8_doesBind_5 at hf
  refine lv_iload hx hb dX8_doesBind_5 (lv_at hl 3 rfl) ?_
  refine lv_aload_n hx hb dX8_doesBind_7 rfl (lv_at hl 0 rfl) ?_
  refine g_M_many X hP  tw_86 dX8_doesBind_8 ?_
  refine lv_icmp_gt (tgt := 101) hx hb dX8_doesBind_11 (by decide) (fun c1 => ?_) (fun c1 => ?_)
  · rw [if_pos c1] at hf
    exact hke  _ _ _ ls hf  hP hS (lv_sub hl [] rfl)
  · rw [if_neg c1] at hf
    refine lv_aload_n hx hb dX8_doesBind_14 rfl (lv_at hl 0 rfl) ?_
    refine lv_iload_n hx hb dX8_doesBind_15 rfl (lv_at hl 2 rfl) ?_
    obtain ⟨q2, e3, hf⟩ := bind_some hf
    refine aftI hS (cV (rest := []) X hP hS [.int x3] (m_X8_isPage  e3) cw_X8_isPage tw_314 tw_571 tw_783 (by decide) (cf_M ) rfl (fits9 (by first | decide | omega) (by decide)) rfl rfl hl.1 (Nat.le_of_ble_eq_true rfl) dX8_doesBind_16 ⟨Nat.zero_le _, Nat.zero_le _⟩) (fun H locs hP hS => ?_)
    refine lv_if_eq (tgt := 72) hx hb dX8_doesBind_19 (by decide) (fun c4 => ?_) (fun c4 => ?_)
    · rw [if_pos c4] at hf
      refine lv_iconst (v := (0 : Int32)) hx hb dX8_doesBind_72 (by decide) ?_
      cases hf
      exact rtZ X hr hlk hP hS (Or.inl rfl) dX8_doesBind_73
    · rw [if_neg c4] at hf
      refine lv_iload_n hx hb dX8_doesBind_22 rfl (lv_at hl 2 rfl) ?_
      refine lv_aload_n hx hb dX8_doesBind_23 rfl (lv_at hl 0 rfl) ?_
      refine g_M_leftOut X hP  tw_96 dX8_doesBind_24 ?_
      refine lv_icmp_eq (tgt := 72) hx hb dX8_doesBind_27 (by decide) (fun c5 => ?_) (fun c5 => ?_)
      · rw [if_pos c5] at hf
        refine lv_iconst (v := (0 : Int32)) hx hb dX8_doesBind_72 (by decide) ?_
        cases hf
        exact rtZ X hr hlk hP hS (Or.inl rfl) dX8_doesBind_73
      · rw [if_neg c5] at hf
        refine lv_aload_n hx hb dX8_doesBind_30 rfl (lv_at hl 0 rfl) ?_
        refine g_M_kinds X hP  tw_87 dX8_doesBind_31 ?_
        refine lv_iload_n hx hb dX8_doesBind_34 rfl (lv_at hl 2 rfl) ?_
        obtain ⟨g6, hf⟩ := grd_some hf
        refine r_m_kinds X hP  g6 dX8_doesBind_35 ?_
        refine lv_iconst (v := (5 : Int32)) hx hb dX8_doesBind_36 (by decide) ?_
        refine lv_icmp_eq (tgt := 50) hx hb dX8_doesBind_37 (by decide) (fun c7 => ?_) (fun c7 => ?_)
        · rw [if_pos c7] at hf
          exact vj_X8_doesBind_50_5 X hr hlk _ _ hkb hke _ _ _ _ _ _ ls hf  hP hS (lv_sub hl [0, 1, 2, 3] rfl)
        · rw [if_neg c7] at hf
          refine lv_iload_n hx hb dX8_doesBind_40 rfl (lv_at hl 1 rfl) ?_
          refine lv_aload_n hx hb dX8_doesBind_41 rfl (lv_at hl 0 rfl) ?_
          refine g_M_days X hP  tw_92 dX8_doesBind_42 ?_
          refine lv_iload_n hx hb dX8_doesBind_45 rfl (lv_at hl 2 rfl) ?_
          obtain ⟨g17, hf⟩ := grd_some hf
          refine r_m_days X hP  g17 dX8_doesBind_46 ?_
          refine lv_icmp_lt (tgt := 72) hx hb dX8_doesBind_47 (by decide) (fun c18 => ?_) (fun c18 => ?_)
          · rw [if_pos c18] at hf
            refine lv_iconst (v := (0 : Int32)) hx hb dX8_doesBind_72 (by decide) ?_
            cases hf
            exact rtZ X hr hlk hP hS (Or.inl rfl) dX8_doesBind_73
          · rw [if_neg c18] at hf
            exact vj_X8_doesBind_50_5 X hr hlk _ _ hkb hke _ _ _ _ _ _ ls hf  hP hS (lv_sub hl [0, 1, 2, 3] rfl)
set_option maxHeartbeats 4000000 in
set_option maxRecDepth 100000 in
theorem vl_X8_doesBind_5 (X : Cx D cI cP cB cA 19 ad tL tC p s m c cX8_doesBind 5 args RX8) (hr : meth.sig.returnType = (some .boolean)) (hlk : meth.locks = false) {res : Int32 × Stt} (ke : Stt → Option (Int32 × Stt)) (hke : ∀ (S : Stt) (H : Heap) (locs : List Loc) (ls : Array Slot), ke S = some res → va_P D vwCl (wl 19 ad (cfM ad cI S)) H → va_S (Ar 19 ad) s.heap H locs → lv_has ls 5 [] → W p l e (rmD 3) s m args below meth c H locs 0 0 (MQ below (QI D 19 ad res.1 (cfM ad cI res.2)) args s 0 0 (Ar 19 ad)) (F0 m 101 ls [])) : ∀ (n : Nat), ∀ (x2 : Int32) (x3 : Int32) (x4 : Int32) (S : Stt) (H : Heap) (locs : List Loc) (ls : Array Slot), fl_X8_doesBind_5 ke n x2 x3 x4 S = some res → va_P D vwCl (wl 19 ad (cfM ad cI S)) H → va_S (Ar 19 ad) s.heap H locs → lv_has ls 5 [(0, .ref (ad 0)), (2, .int x2), (3, .int x3), (4, .int x4)] → W p l e (rmD 3) s m args below meth c H locs 0 0 (MQ below (QI D 19 ad res.1 (cfM ad cI res.2)) args s 0 0 (Ar 19 ad)) (F0 m 5 ls []) := by
  intro n
  induction n with
  | zero =>
    intro x2 x3 x4 S H locs ls hf hP hS hl
    cases hf
  | succ n ih =>
    intro x2 x3 x4 S H locs ls hf hP hS hl
    exact vb_X8_doesBind_5 X hr hlk _ ke ih hke x2 x3 x4 S H locs ls hf  hP hS hl
end
set_option maxHeartbeats 4000000 in
set_option maxRecDepth 100000 in
theorem m_X8_doesBind {l : Launch} {D : va_G} {cI cP cB cA : ClassId} {ad : Nat → Nat} {tL tC : Nat} {x1 : Int32} {x2 : Int32} {S : Stt} {res : Int32 × Stt} (hf : f_X8_doesBind x1 x2 S = some res) : Ct l D cI cP cB cA 19 ad tL tC yX8_doesBind cX8_doesBind 5 (some .boolean) 3 [.ref (ad 0), .int x1, .int x2] (cfM ad cI S) (QI D 19 ad res.1 (cfM ad cI res.2)) := by
  refine ctOf (by decide) (Nat.le_of_ble_eq_true rfl) ?_
  intro p e s m args below meth c ls X hr hlk hP hl
  have hS : va_S (Ar 19 ad) s.heap s.heap [] := va_S.rf
  have hx := X.1.1
  have hb := X.1.2.1
  have hl : lv_has ls 5 [(0, .ref (ad 0)), (1, .int x1), (2, .int x2)] := hl
  unfold f_X8_doesBind at hf
  refine lv_iload_n hx hb dX8_doesBind_0 rfl (lv_at hl 1 rfl) ?_
  refine lv_istore_n (lv' := [(3, .int x1), (0, .ref (ad 0)), (1, .int x1), (2, .int x2)]) hx hb dX8_doesBind_1 rfl hl (by decide) rfl (fun ls hl => ?_)
  refine lv_iconst (v := (0 : Int32)) hx hb dX8_doesBind_2 (by decide) ?_
  refine lv_istore (lv' := [(4, .int (0 : Int32)), (3, .int x1), (0, .ref (ad 0)), (1, .int x1), (2, .int x2)]) hx hb dX8_doesBind_3 hl (by decide) rfl (fun ls hl => ?_)
  refine vl_X8_doesBind_5 X hr hlk _ ?_ 300 _ _ _ _ _ _ ls hf  hP hS (lv_sub hl [2, 4, 1, 0] rfl)
  intro S H locs ls hf hP hS hl
  refine lv_iconst (v := (0 : Int32)) hx hb dX8_doesBind_101 (by decide) ?_
  cases hf
  exact rtZ X hr hlk hP hS (Or.inl rfl) dX8_doesBind_102
/-! X8_isInRing -/
section
variable {p : Program} {l : Launch} {e : Env} {s : State} {m : MethodId} {args : Array Value} {below : List Frame} {meth : Method} {c : Code}
variable {D : va_G} {cI cP cB cA : ClassId} {ad : Nat → Nat} {tL tC : Nat}
set_option maxHeartbeats 4000000 in
set_option maxRecDepth 100000 in
theorem vb_X8_isInRing_4 (X : Cx D cI cP cB cA 19 ad tL tC p s m c cX8_isInRing 4 args RX8) (hr : meth.sig.returnType = (some .boolean)) (hlk : meth.locks = false) {res : Int32 × Stt} (kb : Int32 → Int32 → Int32 → Stt → Option (Int32 × Stt)) (ke : Stt → Option (Int32 × Stt)) (hkb : ∀ (x1 : Int32) (x2 : Int32) (x3 : Int32) (S : Stt) (H : Heap) (locs : List Loc) (ls : Array Slot), kb x1 x2 x3 S = some res → va_P D vwCl (wl 19 ad (cfM ad cI S)) H → va_S (Ar 19 ad) s.heap H locs → lv_has ls 4 [(0, .ref (ad 0)), (1, .int x1), (2, .int x2), (3, .int x3)] → W p l e (rmD 3) s m args below meth c H locs 0 0 (MQ below (QI D 19 ad res.1 (cfM ad cI res.2)) args s 0 0 (Ar 19 ad)) (F0 m 4 ls [])) (hke : ∀ (S : Stt) (H : Heap) (locs : List Loc) (ls : Array Slot), ke S = some res → va_P D vwCl (wl 19 ad (cfM ad cI S)) H → va_S (Ar 19 ad) s.heap H locs → lv_has ls 4 [] → W p l e (rmD 3) s m args below meth c H locs 0 0 (MQ below (QI D 19 ad res.1 (cfM ad cI res.2)) args s 0 0 (Ar 19 ad)) (F0 m 52 ls [])) : ∀ (x1 : Int32) (x2 : Int32) (x3 : Int32) (S : Stt) (H : Heap) (locs : List Loc) (ls : Array Slot), fb_X8_isInRing_4 kb ke x1 x2 x3 S = some res → va_P D vwCl (wl 19 ad (cfM ad cI S)) H → va_S (Ar 19 ad) s.heap H locs → lv_has ls 4 [(0, .ref (ad 0)), (1, .int x1), (2, .int x2), (3, .int x3)] → W p l e (rmD 3) s m args below meth c H locs 0 0 (MQ below (QI D 19 ad res.1 (cfM ad cI res.2)) args s 0 0 (Ar 19 ad)) (F0 m 4 ls []) := by
  intro x1 x2 x3 S H locs ls hf hP hS hl
  have hx := X.1.1
  have hb := X.1.2.1
  unfold fb_X8_isInRing_4 at hf
  refine lv_iload_n hx hb dX8_isInRing_4 rfl (lv_at hl 3 rfl) ?_
  refine lv_bipush (v := (6 : Int32)) hx hb dX8_isInRing_5 (by decide) ?_
  refine lv_icmp_ge (tgt := 52) hx hb dX8_isInRing_7 (by decide) (fun c1 => ?_) (fun c1 => ?_)
  · rw [if_pos c1] at hf
    exact hke  _ _ _ ls hf  hP hS (lv_sub hl [] rfl)
  · rw [if_neg c1] at hf
    refine lv_aload_n hx hb dX8_isInRing_10 rfl (lv_at hl 0 rfl) ?_
    refine lv_iload_n hx hb dX8_isInRing_11 rfl (lv_at hl 2 rfl) ?_
    obtain ⟨q2, e3, hf⟩ := bind_some hf
    refine aftI hS (cV (rest := []) X hP hS [.int x2] (m_X8_isPage  e3) cw_X8_isPage tw_314 tw_571 tw_783 (by decide) (cf_M ) rfl (fits9 (by first | decide | omega) (by decide)) rfl rfl hl.1 (Nat.le_of_ble_eq_true rfl) dX8_isInRing_12 ⟨Nat.zero_le _, Nat.zero_le _⟩) (fun H locs hP hS => ?_)
    refine lv_if_eq (tgt := 30) hx hb dX8_isInRing_15 (by decide) (fun c4 => ?_) (fun c4 => ?_)
    · rw [if_pos c4] at hf
      refine lv_iconst (v := (0 : Int32)) hx hb dX8_isInRing_30 (by decide) ?_
      cases hf
      exact rtZ X hr hlk hP hS (Or.inl rfl) dX8_isInRing_31
    · rw [if_neg c4] at hf
      refine lv_aload_n hx hb dX8_isInRing_18 rfl (lv_at hl 0 rfl) ?_
      refine g_M_kinds X hP  tw_87 dX8_isInRing_19 ?_
      refine lv_iload_n hx hb dX8_isInRing_22 rfl (lv_at hl 2 rfl) ?_
      obtain ⟨g5, hf⟩ := grd_some hf
      refine r_m_kinds X hP  g5 dX8_isInRing_23 ?_
      obtain ⟨q6, e7, hf⟩ := bind_some hf
      refine aftI hS (cS (rest := []) X hP hS [.int (q2.2.1 7 0 x2.toNatClampNeg)] (m_X8_doesPoint  e7) cw_X8_doesPoint tw_309 tw_566 (fits9 (by first | decide | omega) (by decide)) rfl rfl hl.1 (Nat.le_of_ble_eq_true rfl) dX8_isInRing_24 ⟨Nat.zero_le _, Nat.zero_le _⟩) (fun H locs hP hS => ?_)
      refine lv_if_ne (tgt := 32) hx hb dX8_isInRing_27 (by decide) (fun c8 => ?_) (fun c8 => ?_)
      · rw [if_neg c8] at hf
        refine lv_aload_n hx hb dX8_isInRing_32 rfl (lv_at hl 0 rfl) ?_
        refine g_M_points X hP  tw_90 dX8_isInRing_33 ?_
        refine lv_iload_n hx hb dX8_isInRing_36 rfl (lv_at hl 2 rfl) ?_
        obtain ⟨g9, hf⟩ := grd_some hf
        refine r_m_points X hP  g9 dX8_isInRing_37 ?_
        refine lv_istore_n (lv' := [(2, .int (q6.2.1 10 0 x2.toNatClampNeg)), (0, .ref (ad 0)), (1, .int x1), (3, .int x3)]) hx hb dX8_isInRing_38 rfl hl (by decide) rfl (fun ls hl => ?_)
        refine lv_iload_n hx hb dX8_isInRing_39 rfl (lv_at hl 0 rfl) ?_
        refine lv_iload_n hx hb dX8_isInRing_40 rfl (lv_at hl 2 rfl) ?_
        refine lv_icmp_ne (tgt := 46) hx hb dX8_isInRing_41 (by decide) (fun c10 => ?_) (fun c10 => ?_)
        · rw [if_neg c10] at hf
          refine lv_iinc (v := (x3 + (1 : Int32))) (lv' := [(3, .int (x3 + (1 : Int32))), (2, .int (q6.2.1 10 0 x2.toNatClampNeg)), (0, .ref (ad 0)), (1, .int x1)]) hx hb dX8_isInRing_46 hl (k := 3) rfl rfl (by decide) rfl (fun ls hl => ?_)
          refine lv_goto (tgt := 4) hx hb dX8_isInRing_49 (by decide) ?_
          exact hkb _ _ _ _ _ _ ls hf  hP hS (lv_sub hl [2, 3, 1, 0] rfl)
        · rw [if_pos c10] at hf
          refine lv_iconst (v := (1 : Int32)) hx hb dX8_isInRing_44 (by decide) ?_
          cases hf
          exact rtZ X hr hlk hP hS (Or.inr rfl) dX8_isInRing_45
      · rw [if_pos c8] at hf
        refine lv_iconst (v := (0 : Int32)) hx hb dX8_isInRing_30 (by decide) ?_
        cases hf
        exact rtZ X hr hlk hP hS (Or.inl rfl) dX8_isInRing_31
set_option maxHeartbeats 4000000 in
set_option maxRecDepth 100000 in
theorem vl_X8_isInRing_4 (X : Cx D cI cP cB cA 19 ad tL tC p s m c cX8_isInRing 4 args RX8) (hr : meth.sig.returnType = (some .boolean)) (hlk : meth.locks = false) {res : Int32 × Stt} (ke : Stt → Option (Int32 × Stt)) (hke : ∀ (S : Stt) (H : Heap) (locs : List Loc) (ls : Array Slot), ke S = some res → va_P D vwCl (wl 19 ad (cfM ad cI S)) H → va_S (Ar 19 ad) s.heap H locs → lv_has ls 4 [] → W p l e (rmD 3) s m args below meth c H locs 0 0 (MQ below (QI D 19 ad res.1 (cfM ad cI res.2)) args s 0 0 (Ar 19 ad)) (F0 m 52 ls [])) : ∀ (n : Nat), ∀ (x1 : Int32) (x2 : Int32) (x3 : Int32) (S : Stt) (H : Heap) (locs : List Loc) (ls : Array Slot), fl_X8_isInRing_4 ke n x1 x2 x3 S = some res → va_P D vwCl (wl 19 ad (cfM ad cI S)) H → va_S (Ar 19 ad) s.heap H locs → lv_has ls 4 [(0, .ref (ad 0)), (1, .int x1), (2, .int x2), (3, .int x3)] → W p l e (rmD 3) s m args below meth c H locs 0 0 (MQ below (QI D 19 ad res.1 (cfM ad cI res.2)) args s 0 0 (Ar 19 ad)) (F0 m 4 ls []) := by
  intro n
  induction n with
  | zero =>
    intro x1 x2 x3 S H locs ls hf hP hS hl
    cases hf
  | succ n ih =>
    intro x1 x2 x3 S H locs ls hf hP hS hl
    exact vb_X8_isInRing_4 X hr hlk _ ke ih hke x1 x2 x3 S H locs ls hf  hP hS hl
end
set_option maxHeartbeats 4000000 in
set_option maxRecDepth 100000 in
theorem m_X8_isInRing {l : Launch} {D : va_G} {cI cP cB cA : ClassId} {ad : Nat → Nat} {tL tC : Nat} {x1 : Int32} {S : Stt} {res : Int32 × Stt} (hf : f_X8_isInRing x1 S = some res) : Ct l D cI cP cB cA 19 ad tL tC yX8_isInRing cX8_isInRing 4 (some .boolean) 3 [.ref (ad 0), .int x1] (cfM ad cI S) (QI D 19 ad res.1 (cfM ad cI res.2)) := by
  refine ctOf (by decide) (Nat.le_of_ble_eq_true rfl) ?_
  intro p e s m args below meth c ls X hr hlk hP hl
  have hS : va_S (Ar 19 ad) s.heap s.heap [] := va_S.rf
  have hx := X.1.1
  have hb := X.1.2.1
  have hl : lv_has ls 4 [(0, .ref (ad 0)), (1, .int x1)] := hl
  unfold f_X8_isInRing at hf
  refine lv_iload_n hx hb dX8_isInRing_0 rfl (lv_at hl 1 rfl) ?_
  refine lv_istore_n (lv' := [(2, .int x1), (0, .ref (ad 0)), (1, .int x1)]) hx hb dX8_isInRing_1 rfl hl (by decide) rfl (fun ls hl => ?_)
  refine lv_iconst (v := (0 : Int32)) hx hb dX8_isInRing_2 (by decide) ?_
  refine lv_istore_n (lv' := [(3, .int (0 : Int32)), (2, .int x1), (0, .ref (ad 0)), (1, .int x1)]) hx hb dX8_isInRing_3 rfl hl (by decide) rfl (fun ls hl => ?_)
  refine vl_X8_isInRing_4 X hr hlk _ ?_ 300 _ _ _ _ _ _ ls hf  hP hS (lv_sub hl [2, 3, 1, 0] rfl)
  intro S H locs ls hf hP hS hl
  refine lv_iconst (v := (0 : Int32)) hx hb dX8_isInRing_52 (by decide) ?_
  cases hf
  exact rtZ X hr hlk hP hS (Or.inl rfl) dX8_isInRing_53
/-! X8_judgeBy -/
section
variable {p : Program} {l : Launch} {e : Env} {s : State} {m : MethodId} {args : Array Value} {below : List Frame} {meth : Method} {c : Code}
variable {D : va_G} {cI cP cB cA : ClassId} {ad : Nat → Nat} {tL tC : Nat}
set_option maxHeartbeats 4000000 in
set_option maxRecDepth 100000 in
theorem vj_X8_judgeBy_54_6 (X : Cx D cI cP cB cA 19 ad tL tC p s m c cX8_judgeBy 6 args RX8) (hr : meth.sig.returnType = (some .int)) (hlk : meth.locks = false) {res : Int32 × Stt} (kb : Int32 → Int32 → Int32 → Int32 → Stt → Option (Int32 × Stt)) (ke : Int32 → Stt → Option (Int32 × Stt)) (hkb : ∀ (x1 : Int32) (x2 : Int32) (x3 : Int32) (x4 : Int32) (S : Stt) (H : Heap) (locs : List Loc) (ls : Array Slot), kb x1 x2 x3 x4 S = some res → va_P D vwCl (wl 19 ad (cfM ad cI S)) H → va_S (Ar 19 ad) s.heap H locs → lv_has ls 6 [(0, .ref (ad 0)), (1, .int x1), (2, .int x2), (3, .int x3), (4, .int x4)] → W p l e (rmD 3) s m args below meth c H locs 0 0 (MQ below (QI D 19 ad res.1 (cfM ad cI res.2)) args s 0 0 (Ar 19 ad)) (F0 m 6 ls [])) (hke : ∀ (x3 : Int32) (S : Stt) (H : Heap) (locs : List Loc) (ls : Array Slot), ke x3 S = some res → va_P D vwCl (wl 19 ad (cfM ad cI S)) H → va_S (Ar 19 ad) s.heap H locs → lv_has ls 6 [(3, .int x3)] → W p l e (rmD 3) s m args below meth c H locs 0 0 (MQ below (QI D 19 ad res.1 (cfM ad cI res.2)) args s 0 0 (Ar 19 ad)) (F0 m 94 ls [])) : ∀ (x1 : Int32) (x2 : Int32) (x3 : Int32) (x4 : Int32) (xt0 : Int32) (S : Stt) (H : Heap) (locs : List Loc) (ls : Array Slot), fj_X8_judgeBy_54_6 kb ke x1 x2 x3 x4 xt0 S = some res → va_P D vwCl (wl 19 ad (cfM ad cI S)) H → va_S (Ar 19 ad) s.heap H locs → lv_has ls 6 [(0, .ref (ad 0)), (1, .int x1), (2, .int x2), (3, .int x3), (4, .int x4)] → W p l e (rmD 3) s m args below meth c H locs 0 0 (MQ below (QI D 19 ad res.1 (cfM ad cI res.2)) args s 0 0 (Ar 19 ad)) (F0 m 54 ls [.int xt0]) := by
  intro x1 x2 x3 x4 xt0 S H locs ls hf hP hS hl
  have hx := X.1.1
  have hb := X.1.2.1
  unfold fj_X8_judgeBy_54_6 at hf
  refine lv_istore (lv' := [(5, .int xt0), (0, .ref (ad 0)), (1, .int x1), (2, .int x2), (3, .int x3), (4, .int x4)]) hx hb dX8_judgeBy_54 hl (by decide) rfl (fun ls hl => ?_)
  refine lv_iload hx hb dX8_judgeBy_56 (lv_at hl 0 rfl) ?_
  refine lv_if_eq (tgt := 86) hx hb dX8_judgeBy_58 (by decide) (fun c5 => ?_) (fun c5 => ?_)
  · rw [if_pos c5] at hf
    refine lv_iload_n hx hb dX8_judgeBy_86 rfl (lv_at hl 4 rfl) ?_
    refine lv_istore_n (lv' := [(3, .int x3), (5, .int xt0), (0, .ref (ad 0)), (1, .int x1), (2, .int x2), (4, .int x4)]) hx hb dX8_judgeBy_87 rfl hl (by decide) rfl (fun ls hl => ?_)
    refine lv_iinc (v := (x4 + (1 : Int32))) (lv' := [(4, .int (x4 + (1 : Int32))), (3, .int x3), (5, .int xt0), (0, .ref (ad 0)), (1, .int x1), (2, .int x2)]) hx hb dX8_judgeBy_88 hl (k := 5) rfl rfl (by decide) rfl (fun ls hl => ?_)
    refine lv_goto (tgt := 6) hx hb dX8_judgeBy_91 (by decide) ?_
    exact hkb _ _ _ _ _ _ _ ls hf  hP hS (lv_sub hl [3, 4, 5, 1, 0] rfl)
  · rw [if_neg c5] at hf
    refine lv_iload_n hx hb dX8_judgeBy_61 rfl (lv_at hl 4 rfl) ?_
    refine lv_bipush (v := (-9 : Int32)) hx hb dX8_judgeBy_62 (by decide) ?_
    refine lv_icmp_eq (tgt := 81) hx hb dX8_judgeBy_64 (by decide) (fun c6 => ?_) (fun c6 => ?_)
    · rw [if_pos c6] at hf
      refine lv_iload hx hb dX8_judgeBy_81 (lv_at hl 5 rfl) ?_
      refine lv_goto (tgt := 87) hx hb dX8_judgeBy_83 (by decide) ?_
      refine lv_istore_n (lv' := [(3, .int x4), (5, .int xt0), (0, .ref (ad 0)), (1, .int x1), (2, .int x2), (4, .int x4)]) hx hb dX8_judgeBy_87 rfl hl (by decide) rfl (fun ls hl => ?_)
      refine lv_iinc (v := (x4 + (1 : Int32))) (lv' := [(4, .int (x4 + (1 : Int32))), (3, .int x4), (5, .int xt0), (0, .ref (ad 0)), (1, .int x1), (2, .int x2)]) hx hb dX8_judgeBy_88 hl (k := 5) rfl rfl (by decide) rfl (fun ls hl => ?_)
      refine lv_goto (tgt := 6) hx hb dX8_judgeBy_91 (by decide) ?_
      exact hkb _ _ _ _ _ _ _ ls hf  hP hS (lv_sub hl [3, 4, 5, 1, 0] rfl)
    · rw [if_neg c6] at hf
      refine lv_aload_n hx hb dX8_judgeBy_67 rfl (lv_at hl 1 rfl) ?_
      refine lv_iload hx hb dX8_judgeBy_68 (lv_at hl 5 rfl) ?_
      obtain ⟨q7, e8, hf⟩ := bind_some hf
      refine aftI hS (cV (rest := []) X hP hS [.int x4] (m_X8_weightOf  e8) cw_X8_weightOf tw_322 tw_579 tw_790 (by decide) (cf_M ) rfl (fits9 (by first | decide | omega) (by decide)) rfl rfl hl.1 (Nat.le_of_ble_eq_true rfl) dX8_judgeBy_70 ⟨Nat.zero_le _, Nat.zero_le _⟩) (fun H locs hP hS => ?_)
      refine lv_aload_n hx hb dX8_judgeBy_73 rfl (lv_at hl 1 rfl) ?_
      refine lv_iload_n hx hb dX8_judgeBy_74 rfl (lv_at hl 4 rfl) ?_
      obtain ⟨q9, e10, hf⟩ := bind_some hf
      refine aftI hS (cV (rest := [.int q7.1]) X hP hS [.int x3] (m_X8_weightOf  e10) cw_X8_weightOf tw_322 tw_579 tw_790 (by decide) (cf_M ) rfl (fits9 (by first | decide | omega) (by decide)) rfl rfl hl.1 (Nat.le_of_ble_eq_true rfl) dX8_judgeBy_75 ⟨Nat.zero_le _, Nat.zero_le _⟩) (fun H locs hP hS => ?_)
      refine lv_icmp_le (tgt := 86) hx hb dX8_judgeBy_78 (by decide) (fun c11 => ?_) (fun c11 => ?_)
      · rw [if_pos c11] at hf
        refine lv_iload_n hx hb dX8_judgeBy_86 rfl (lv_at hl 4 rfl) ?_
        refine lv_istore_n (lv' := [(3, .int x3), (5, .int xt0), (0, .ref (ad 0)), (1, .int x1), (2, .int x2), (4, .int x4)]) hx hb dX8_judgeBy_87 rfl hl (by decide) rfl (fun ls hl => ?_)
        refine lv_iinc (v := (x4 + (1 : Int32))) (lv' := [(4, .int (x4 + (1 : Int32))), (3, .int x3), (5, .int xt0), (0, .ref (ad 0)), (1, .int x1), (2, .int x2)]) hx hb dX8_judgeBy_88 hl (k := 5) rfl rfl (by decide) rfl (fun ls hl => ?_)
        refine lv_goto (tgt := 6) hx hb dX8_judgeBy_91 (by decide) ?_
        exact hkb _ _ _ _ _ _ _ ls hf  hP hS (lv_sub hl [3, 4, 5, 1, 0] rfl)
      · rw [if_neg c11] at hf
        refine lv_iload hx hb dX8_judgeBy_81 (lv_at hl 5 rfl) ?_
        refine lv_goto (tgt := 87) hx hb dX8_judgeBy_83 (by decide) ?_
        refine lv_istore_n (lv' := [(3, .int x4), (5, .int xt0), (0, .ref (ad 0)), (1, .int x1), (2, .int x2), (4, .int x4)]) hx hb dX8_judgeBy_87 rfl hl (by decide) rfl (fun ls hl => ?_)
        refine lv_iinc (v := (x4 + (1 : Int32))) (lv' := [(4, .int (x4 + (1 : Int32))), (3, .int x4), (5, .int xt0), (0, .ref (ad 0)), (1, .int x1), (2, .int x2)]) hx hb dX8_judgeBy_88 hl (k := 5) rfl rfl (by decide) rfl (fun ls hl => ?_)
        refine lv_goto (tgt := 6) hx hb dX8_judgeBy_91 (by decide) ?_
        exact hkb _ _ _ _ _ _ _ ls hf  hP hS (lv_sub hl [3, 4, 5, 1, 0] rfl)
set_option maxHeartbeats 4000000 in
set_option maxRecDepth 100000 in
theorem vj_X8_judgeBy_53_6 (X : Cx D cI cP cB cA 19 ad tL tC p s m c cX8_judgeBy 6 args RX8) (hr : meth.sig.returnType = (some .int)) (hlk : meth.locks = false) {res : Int32 × Stt} (kb : Int32 → Int32 → Int32 → Int32 → Stt → Option (Int32 × Stt)) (ke : Int32 → Stt → Option (Int32 × Stt)) (hkb : ∀ (x1 : Int32) (x2 : Int32) (x3 : Int32) (x4 : Int32) (S : Stt) (H : Heap) (locs : List Loc) (ls : Array Slot), kb x1 x2 x3 x4 S = some res → va_P D vwCl (wl 19 ad (cfM ad cI S)) H → va_S (Ar 19 ad) s.heap H locs → lv_has ls 6 [(0, .ref (ad 0)), (1, .int x1), (2, .int x2), (3, .int x3), (4, .int x4)] → W p l e (rmD 3) s m args below meth c H locs 0 0 (MQ below (QI D 19 ad res.1 (cfM ad cI res.2)) args s 0 0 (Ar 19 ad)) (F0 m 6 ls [])) (hke : ∀ (x3 : Int32) (S : Stt) (H : Heap) (locs : List Loc) (ls : Array Slot), ke x3 S = some res → va_P D vwCl (wl 19 ad (cfM ad cI S)) H → va_S (Ar 19 ad) s.heap H locs → lv_has ls 6 [(3, .int x3)] → W p l e (rmD 3) s m args below meth c H locs 0 0 (MQ below (QI D 19 ad res.1 (cfM ad cI res.2)) args s 0 0 (Ar 19 ad)) (F0 m 94 ls [])) : ∀ (x1 : Int32) (x2 : Int32) (x3 : Int32) (x4 : Int32) (S : Stt) (H : Heap) (locs : List Loc) (ls : Array Slot), fj_X8_judgeBy_53_6 kb ke x1 x2 x3 x4 S = some res → va_P D vwCl (wl 19 ad (cfM ad cI S)) H → va_S (Ar 19 ad) s.heap H locs → lv_has ls 6 [(0, .ref (ad 0)), (1, .int x1), (2, .int x2), (3, .int x3), (4, .int x4)] → W p l e (rmD 3) s m args below meth c H locs 0 0 (MQ below (QI D 19 ad res.1 (cfM ad cI res.2)) args s 0 0 (Ar 19 ad)) (F0 m 53 ls []) := by
  intro x1 x2 x3 x4 S H locs ls hf hP hS hl
  have hx := X.1.1
  have hb := X.1.2.1
  unfold fj_X8_judgeBy_53_6 at hf
  refine lv_iconst (v := (0 : Int32)) hx hb dX8_judgeBy_53 (by decide) ?_
  exact vj_X8_judgeBy_54_6 X hr hlk _ _ hkb hke _ _ _ _ _ _ _ _ ls hf  hP hS (lv_sub hl [0, 1, 2, 3, 4] rfl)
set_option maxHeartbeats 4000000 in
set_option maxRecDepth 100000 in
theorem vb_X8_judgeBy_6 (X : Cx D cI cP cB cA 19 ad tL tC p s m c cX8_judgeBy 6 args RX8) (hr : meth.sig.returnType = (some .int)) (hlk : meth.locks = false) {res : Int32 × Stt} (kb : Int32 → Int32 → Int32 → Int32 → Stt → Option (Int32 × Stt)) (ke : Int32 → Stt → Option (Int32 × Stt)) (hkb : ∀ (x1 : Int32) (x2 : Int32) (x3 : Int32) (x4 : Int32) (S : Stt) (H : Heap) (locs : List Loc) (ls : Array Slot), kb x1 x2 x3 x4 S = some res → va_P D vwCl (wl 19 ad (cfM ad cI S)) H → va_S (Ar 19 ad) s.heap H locs → lv_has ls 6 [(0, .ref (ad 0)), (1, .int x1), (2, .int x2), (3, .int x3), (4, .int x4)] → W p l e (rmD 3) s m args below meth c H locs 0 0 (MQ below (QI D 19 ad res.1 (cfM ad cI res.2)) args s 0 0 (Ar 19 ad)) (F0 m 6 ls [])) (hke : ∀ (x3 : Int32) (S : Stt) (H : Heap) (locs : List Loc) (ls : Array Slot), ke x3 S = some res → va_P D vwCl (wl 19 ad (cfM ad cI S)) H → va_S (Ar 19 ad) s.heap H locs → lv_has ls 6 [(3, .int x3)] → W p l e (rmD 3) s m args below meth c H locs 0 0 (MQ below (QI D 19 ad res.1 (cfM ad cI res.2)) args s 0 0 (Ar 19 ad)) (F0 m 94 ls [])) : ∀ (x1 : Int32) (x2 : Int32) (x3 : Int32) (x4 : Int32) (S : Stt) (H : Heap) (locs : List Loc) (ls : Array Slot), fb_X8_judgeBy_6 kb ke x1 x2 x3 x4 S = some res → va_P D vwCl (wl 19 ad (cfM ad cI S)) H → va_S (Ar 19 ad) s.heap H locs → lv_has ls 6 [(0, .ref (ad 0)), (1, .int x1), (2, .int x2), (3, .int x3), (4, .int x4)] → W p l e (rmD 3) s m args below meth c H locs 0 0 (MQ below (QI D 19 ad res.1 (cfM ad cI res.2)) args s 0 0 (Ar 19 ad)) (F0 m 6 ls []) := by
  intro x1 x2 x3 x4 S H locs ls hf hP hS hl
  have hx := X.1.1
  have hb := X.1.2.1
  unfold fb_X8_judgeBy_6 at hf
  refine lv_iload hx hb dX8_judgeBy_6 (lv_at hl 4 rfl) ?_
  refine lv_aload_n hx hb dX8_judgeBy_8 rfl (lv_at hl 0 rfl) ?_
  refine g_M_many X hP  tw_86 dX8_judgeBy_9 ?_
  refine lv_icmp_ge (tgt := 94) hx hb dX8_judgeBy_12 (by decide) (fun c1 => ?_) (fun c1 => ?_)
  · rw [if_pos c1] at hf
    exact hke _ _ _ _ ls hf  hP hS (lv_sub hl [3] rfl)
  · rw [if_neg c1] at hf
    refine lv_iload_n hx hb dX8_judgeBy_15 rfl (lv_at hl 2 rfl) ?_
    refine lv_iload hx hb dX8_judgeBy_16 (lv_at hl 4 rfl) ?_
    obtain ⟨q2, e3, hf⟩ := bind_some hf
    refine aftI hS (cS (rest := []) X hP hS [.int x2, .int x4] (m_X8_has  e3) cw_X8_has tw_333 tw_590 (fits9 (by first | decide | omega) (by decide)) rfl rfl hl.1 (Nat.le_of_ble_eq_true rfl) dX8_judgeBy_18 ⟨Nat.zero_le _, Nat.zero_le _⟩) (fun H locs hP hS => ?_)
    refine lv_if_eq (tgt := 53) hx hb dX8_judgeBy_21 (by decide) (fun c4 => ?_) (fun c4 => ?_)
    · rw [if_pos c4] at hf
      exact vj_X8_judgeBy_53_6 X hr hlk _ _ hkb hke _ _ _ _ _ _ _ ls hf  hP hS (lv_sub hl [0, 1, 2, 3, 4] rfl)
    · rw [if_neg c4] at hf
      refine lv_aload_n hx hb dX8_judgeBy_24 rfl (lv_at hl 0 rfl) ?_
      refine g_M_kinds X hP  tw_87 dX8_judgeBy_25 ?_
      refine lv_iload hx hb dX8_judgeBy_28 (lv_at hl 4 rfl) ?_
      obtain ⟨g12, hf⟩ := grd_some hf
      refine r_m_kinds X hP  g12 dX8_judgeBy_30 ?_
      refine lv_iconst (v := (3 : Int32)) hx hb dX8_judgeBy_31 (by decide) ?_
      refine lv_icmp_eq (tgt := 53) hx hb dX8_judgeBy_32 (by decide) (fun c13 => ?_) (fun c13 => ?_)
      · rw [if_pos c13] at hf
        exact vj_X8_judgeBy_53_6 X hr hlk _ _ hkb hke _ _ _ _ _ _ _ ls hf  hP hS (lv_sub hl [0, 1, 2, 3, 4] rfl)
      · rw [if_neg c13] at hf
        refine lv_aload_n hx hb dX8_judgeBy_35 rfl (lv_at hl 0 rfl) ?_
        refine g_M_words X hP  tw_89 dX8_judgeBy_36 ?_
        refine lv_iload hx hb dX8_judgeBy_39 (lv_at hl 4 rfl) ?_
        obtain ⟨g14, hf⟩ := grd_some hf
        refine r_m_words X hP  g14 dX8_judgeBy_41 ?_
        refine lv_iload_n hx hb dX8_judgeBy_42 rfl (lv_at hl 1 rfl) ?_
        refine lv_iconst (v := (-1 : Int32)) hx hb dX8_judgeBy_43 (by decide) ?_
        refine lv_ixor hx hb dX8_judgeBy_44 ?_
        refine lv_iand hx hb dX8_judgeBy_45 ?_
        refine lv_if_ne (tgt := 53) hx hb dX8_judgeBy_46 (by decide) (fun c15 => ?_) (fun c15 => ?_)
        · rw [if_neg c15] at hf
          exact vj_X8_judgeBy_53_6 X hr hlk _ _ hkb hke _ _ _ _ _ _ _ ls hf  hP hS (lv_sub hl [0, 1, 2, 3, 4] rfl)
        · rw [if_pos c15] at hf
          refine lv_iconst (v := (1 : Int32)) hx hb dX8_judgeBy_49 (by decide) ?_
          refine lv_goto (tgt := 54) hx hb dX8_judgeBy_50 (by decide) ?_
          exact vj_X8_judgeBy_54_6 X hr hlk _ _ hkb hke _ _ _ _ _ _ _ _ ls hf  hP hS (lv_sub hl [0, 1, 2, 3, 4] rfl)
set_option maxHeartbeats 4000000 in
set_option maxRecDepth 100000 in
theorem vl_X8_judgeBy_6 (X : Cx D cI cP cB cA 19 ad tL tC p s m c cX8_judgeBy 6 args RX8) (hr : meth.sig.returnType = (some .int)) (hlk : meth.locks = false) {res : Int32 × Stt} (ke : Int32 → Stt → Option (Int32 × Stt)) (hke : ∀ (x3 : Int32) (S : Stt) (H : Heap) (locs : List Loc) (ls : Array Slot), ke x3 S = some res → va_P D vwCl (wl 19 ad (cfM ad cI S)) H → va_S (Ar 19 ad) s.heap H locs → lv_has ls 6 [(3, .int x3)] → W p l e (rmD 3) s m args below meth c H locs 0 0 (MQ below (QI D 19 ad res.1 (cfM ad cI res.2)) args s 0 0 (Ar 19 ad)) (F0 m 94 ls [])) : ∀ (n : Nat), ∀ (x1 : Int32) (x2 : Int32) (x3 : Int32) (x4 : Int32) (S : Stt) (H : Heap) (locs : List Loc) (ls : Array Slot), fl_X8_judgeBy_6 ke n x1 x2 x3 x4 S = some res → va_P D vwCl (wl 19 ad (cfM ad cI S)) H → va_S (Ar 19 ad) s.heap H locs → lv_has ls 6 [(0, .ref (ad 0)), (1, .int x1), (2, .int x2), (3, .int x3), (4, .int x4)] → W p l e (rmD 3) s m args below meth c H locs 0 0 (MQ below (QI D 19 ad res.1 (cfM ad cI res.2)) args s 0 0 (Ar 19 ad)) (F0 m 6 ls []) := by
  intro n
  induction n with
  | zero =>
    intro x1 x2 x3 x4 S H locs ls hf hP hS hl
    cases hf
  | succ n ih =>
    intro x1 x2 x3 x4 S H locs ls hf hP hS hl
    exact vb_X8_judgeBy_6 X hr hlk _ ke ih hke x1 x2 x3 x4 S H locs ls hf  hP hS hl
end
set_option maxHeartbeats 4000000 in
set_option maxRecDepth 100000 in
theorem m_X8_judgeBy {l : Launch} {D : va_G} {cI cP cB cA : ClassId} {ad : Nat → Nat} {tL tC : Nat} {x1 : Int32} {x2 : Int32} {S : Stt} {res : Int32 × Stt} (hf : f_X8_judgeBy x1 x2 S = some res) : Ct l D cI cP cB cA 19 ad tL tC yX8_judgeBy cX8_judgeBy 6 (some .int) 3 [.ref (ad 0), .int x1, .int x2] (cfM ad cI S) (QI D 19 ad res.1 (cfM ad cI res.2)) := by
  refine ctOf (by decide) (Nat.le_of_ble_eq_true rfl) ?_
  intro p e s m args below meth c ls X hr hlk hP hl
  have hS : va_S (Ar 19 ad) s.heap s.heap [] := va_S.rf
  have hx := X.1.1
  have hb := X.1.2.1
  have hl : lv_has ls 6 [(0, .ref (ad 0)), (1, .int x1), (2, .int x2)] := hl
  unfold f_X8_judgeBy at hf
  refine lv_bipush (v := (-9 : Int32)) hx hb dX8_judgeBy_0 (by decide) ?_
  refine lv_istore_n (lv' := [(3, .int (-9 : Int32)), (0, .ref (ad 0)), (1, .int x1), (2, .int x2)]) hx hb dX8_judgeBy_2 rfl hl (by decide) rfl (fun ls hl => ?_)
  refine lv_iconst (v := (0 : Int32)) hx hb dX8_judgeBy_3 (by decide) ?_
  refine lv_istore (lv' := [(4, .int (0 : Int32)), (3, .int (-9 : Int32)), (0, .ref (ad 0)), (1, .int x1), (2, .int x2)]) hx hb dX8_judgeBy_4 hl (by decide) rfl (fun ls hl => ?_)
  refine vl_X8_judgeBy_6 X hr hlk _ ?_ 300 _ _ _ _ _ _ _ ls hf  hP hS (lv_sub hl [2, 3, 4, 1, 0] rfl)
  intro x3 S H locs ls hf hP hS hl
  refine lv_iload_n hx hb dX8_judgeBy_94 rfl (lv_at hl 0 rfl) ?_
  cases hf
  exact rtI X hr hlk hP hS dX8_judgeBy_95
/-! X8_page -/
section
variable {p : Program} {l : Launch} {e : Env} {s : State} {m : MethodId} {args : Array Value} {below : List Frame} {meth : Method} {c : Code}
variable {D : va_G} {cI cP cB cA : ClassId} {ad : Nat → Nat} {tL tC : Nat}
end
set_option maxHeartbeats 4000000 in
set_option maxRecDepth 100000 in
theorem m_X8_page {l : Launch} {D : va_G} {cI cP cB cA : ClassId} {ad : Nat → Nat} {tL tC : Nat} {x1 : Int32} {x2 : Int32} {S : Stt} {res : Int32 × Stt} (hf : f_X8_page x1 x2 S = some res) : Ct l D cI cP cB cA 19 ad tL tC yX8_page cX8_page 3 (some .int) 3 [.ref (ad 0), .int x1, .int x2] (cfM ad cI S) (QI D 19 ad res.1 (cfM ad cI res.2)) := by
  refine ctOf (by decide) (Nat.le_of_ble_eq_true rfl) ?_
  intro p e s m args below meth c ls X hr hlk hP hl
  have hS : va_S (Ar 19 ad) s.heap s.heap [] := va_S.rf
  have hx := X.1.1
  have hb := X.1.2.1
  have hl : lv_has ls 3 [(0, .ref (ad 0)), (1, .int x1), (2, .int x2)] := hl
  unfold f_X8_page at hf
  refine lv_aload_n hx hb dX8_page_0 rfl (lv_at hl 0 rfl) ?_
  refine lv_iload_n hx hb dX8_page_1 rfl (lv_at hl 1 rfl) ?_
  obtain ⟨q1, e2, hf⟩ := bind_some hf
  refine aftI hS (cV (rest := []) X hP hS [.int x1] (m_X8_isPage  e2) cw_X8_isPage tw_314 tw_571 tw_783 (by decide) (cf_M ) rfl (fits9 (by first | decide | omega) (by decide)) rfl rfl hl.1 (Nat.le_of_ble_eq_true rfl) dX8_page_2 ⟨Nat.zero_le _, Nat.zero_le _⟩) (fun H locs hP hS => ?_)
  refine lv_if_eq (tgt := 31) hx hb dX8_page_5 (by decide) (fun c3 => ?_) (fun c3 => ?_)
  · rw [if_pos c3] at hf
    refine lv_iconst (v := (-1 : Int32)) hx hb dX8_page_31 (by decide) ?_
    cases hf
    exact rtI X hr hlk hP hS dX8_page_32
  · rw [if_neg c3] at hf
    refine lv_iload_n hx hb dX8_page_8 rfl (lv_at hl 2 rfl) ?_
    refine lv_iconst (v := (0 : Int32)) hx hb dX8_page_9 (by decide) ?_
    refine lv_iconst (v := (5 : Int32)) hx hb dX8_page_10 (by decide) ?_
    obtain ⟨q4, e5, hf⟩ := bind_some hf
    refine aftI hS (cS (rest := []) X hP hS [.int x2, .int (0 : Int32), .int (5 : Int32)] (m_X8_in  e5) cw_X8_in tw_288 tw_546 (fits9 (by first | decide | omega) (by decide)) rfl rfl hl.1 (Nat.le_of_ble_eq_true rfl) dX8_page_11 ⟨Nat.zero_le _, Nat.zero_le _⟩) (fun H locs hP hS => ?_)
    refine lv_if_eq (tgt := 31) hx hb dX8_page_14 (by decide) (fun c6 => ?_) (fun c6 => ?_)
    · rw [if_pos c6] at hf
      refine lv_iconst (v := (-1 : Int32)) hx hb dX8_page_31 (by decide) ?_
      cases hf
      exact rtI X hr hlk hP hS dX8_page_32
    · rw [if_neg c6] at hf
      refine lv_aload_n hx hb dX8_page_17 rfl (lv_at hl 0 rfl) ?_
      refine lv_aload_n hx hb dX8_page_18 rfl (lv_at hl 0 rfl) ?_
      refine lv_iload_n hx hb dX8_page_19 rfl (lv_at hl 1 rfl) ?_
      refine lv_iload_n hx hb dX8_page_20 rfl (lv_at hl 2 rfl) ?_
      obtain ⟨q7, e8, hf⟩ := bind_some hf
      refine aftI hS (cV (rest := [.ref (ad 0)]) X hP hS [.int x1, .int x2] (m_X8_pageOf  e8) cw_X8_pageOf tw_315 tw_572 tw_785 (by decide) (cf_M ) rfl (fits9 (by first | decide | omega) (by decide)) rfl rfl hl.1 (Nat.le_of_ble_eq_true rfl) dX8_page_21 ⟨Nat.zero_le _, Nat.zero_le _⟩) (fun H locs hP hS => ?_)
      refine lv_iconst (v := (1 : Int32)) hx hb dX8_page_24 (by decide) ?_
      obtain ⟨q9, e10, hf⟩ := bind_some hf
      refine aftI hS (cV (rest := []) X hP hS [.int q7.1, .int (1 : Int32)] (m_X8_ask  e10) cw_X8_ask tw_294 tw_552 tw_763 (by decide) (cf_M ) rfl (fits9 (by first | decide | omega) (by decide)) rfl rfl hl.1 (Nat.le_of_ble_eq_true rfl) dX8_page_25 ⟨Nat.zero_le _, Nat.zero_le _⟩) (fun H locs hP hS => ?_)
      refine lv_goto (tgt := 32) hx hb dX8_page_28 (by decide) ?_
      cases hf
      exact rtI X hr hlk hP hS dX8_page_32
/-! X8_readsPage -/
section
variable {p : Program} {l : Launch} {e : Env} {s : State} {m : MethodId} {args : Array Value} {below : List Frame} {meth : Method} {c : Code}
variable {D : va_G} {cI cP cB cA : ClassId} {ad : Nat → Nat} {tL tC : Nat}
set_option maxHeartbeats 4000000 in
set_option maxRecDepth 100000 in
theorem vj_X8_readsPage_232 (X : Cx D cI cP cB cA 19 ad tL tC p s m c cX8_readsPage 7 args RX8) (hr : meth.sig.returnType = (some .boolean)) (hlk : meth.locks = false) {res : Int32 × Stt} : ∀ (xt1 : Int32) (xt2 : Int32) (S : Stt) (H : Heap) (locs : List Loc) (ls : Array Slot), fj_X8_readsPage_232 xt1 xt2 S = some res → va_P D vwCl (wl 19 ad (cfM ad cI S)) H → va_S (Ar 19 ad) s.heap H locs → lv_has ls 7 [(0, .ref (ad 0))] → W p l e (rmD 3) s m args below meth c H locs 0 0 (MQ below (QI D 19 ad res.1 (cfM ad cI res.2)) args s 0 0 (Ar 19 ad)) (F0 m 232 ls [.int xt2, .int xt1, .ref (ad 13)]) := by
  intro xt1 xt2 S H locs ls hf hP hS hl
  have hx := X.1.1
  have hb := X.1.2.1
  unfold fj_X8_readsPage_232 at hf
  obtain ⟨g29, hf⟩ := grd_some hf
  refine w_m_readPages X hP hS  g29 dX8_readsPage_232 (fun H locs hP hS => ?_)
  refine lv_aload_n hx hb dX8_readsPage_233 rfl (lv_at hl 0 rfl) ?_
  refine lv_dup hx hb dX8_readsPage_234 rfl ?_
  refine g_M_readMany X hP  tw_94 dX8_readsPage_235 ?_
  refine lv_iconst (v := (1 : Int32)) hx hb dX8_readsPage_238 (by decide) ?_
  refine lv_iadd hx hb dX8_readsPage_239 ?_
  refine p_M_readMany X hP hS  tw_94 dX8_readsPage_240 (fun H locs hP hS => ?_)
  refine lv_iconst (v := (1 : Int32)) hx hb dX8_readsPage_243 (by decide) ?_
  cases hf
  exact rtZ X hr hlk hP hS (Or.inr rfl) dX8_readsPage_244
set_option maxHeartbeats 4000000 in
set_option maxRecDepth 100000 in
theorem vj_X8_readsPage_212 (X : Cx D cI cP cB cA 19 ad tL tC p s m c cX8_readsPage 7 args RX8) (hr : meth.sig.returnType = (some .boolean)) (hlk : meth.locks = false) {res : Int32 × Stt} : ∀ (x2 : Int32) (x3 : Int32) (x6 : Int32) (xt1 : Int32) (xt2 : Int32) (S : Stt) (H : Heap) (locs : List Loc) (ls : Array Slot), fj_X8_readsPage_212 x2 x3 x6 xt1 xt2 S = some res → va_P D vwCl (wl 19 ad (cfM ad cI S)) H → va_S (Ar 19 ad) s.heap H locs → lv_has ls 7 [(0, .ref (ad 0)), (2, .int x2), (3, .int x3), (6, .int x6)] → W p l e (rmD 3) s m args below meth c H locs 0 0 (MQ below (QI D 19 ad res.1 (cfM ad cI res.2)) args s 0 0 (Ar 19 ad)) (F0 m 212 ls [.int xt2, .int xt1, .ref (ad 13)]) := by
  intro x2 x3 x6 xt1 xt2 S H locs ls hf hP hS hl
  have hx := X.1.1
  have hb := X.1.2.1
  unfold fj_X8_readsPage_212 at hf
  obtain ⟨g27, hf⟩ := grd_some hf
  refine w_m_readPages X hP hS  g27 dX8_readsPage_212 (fun H locs hP hS => ?_)
  refine lv_aload_n hx hb dX8_readsPage_213 rfl (lv_at hl 0 rfl) ?_
  refine g_M_readPages X hP  tw_95 dX8_readsPage_214 ?_
  refine lv_iload_n hx hb dX8_readsPage_217 rfl (lv_at hl 2 rfl) ?_
  refine lv_iconst (v := (4 : Int32)) hx hb dX8_readsPage_218 (by decide) ?_
  refine lv_iadd hx hb dX8_readsPage_219 ?_
  refine lv_iload_n hx hb dX8_readsPage_220 rfl (lv_at hl 1 rfl) ?_
  refine lv_iconst (v := (3 : Int32)) hx hb dX8_readsPage_221 (by decide) ?_
  refine lv_icmp_ne (tgt := 230) hx hb dX8_readsPage_222 (by decide) (fun c28 => ?_) (fun c28 => ?_)
  · rw [if_neg c28] at hf
    refine lv_bipush (v := (-9 : Int32)) hx hb dX8_readsPage_230 (by decide) ?_
    exact vj_X8_readsPage_232 X hr hlk _ _ _ _ _ ls hf  hP hS (lv_sub hl [0] rfl)
  · rw [if_pos c28] at hf
    refine lv_iload hx hb dX8_readsPage_225 (lv_at hl 3 rfl) ?_
    refine lv_goto (tgt := 232) hx hb dX8_readsPage_227 (by decide) ?_
    exact vj_X8_readsPage_232 X hr hlk _ _ _ _ _ ls hf  hP hS (lv_sub hl [0] rfl)
set_option maxHeartbeats 4000000 in
set_option maxRecDepth 100000 in
theorem vj_X8_readsPage_190 (X : Cx D cI cP cB cA 19 ad tL tC p s m c cX8_readsPage 7 args RX8) (hr : meth.sig.returnType = (some .boolean)) (hlk : meth.locks = false) {res : Int32 × Stt} : ∀ (x2 : Int32) (x3 : Int32) (x4 : Int32) (x6 : Int32) (xt1 : Int32) (xt2 : Int32) (S : Stt) (H : Heap) (locs : List Loc) (ls : Array Slot), fj_X8_readsPage_190 x2 x3 x4 x6 xt1 xt2 S = some res → va_P D vwCl (wl 19 ad (cfM ad cI S)) H → va_S (Ar 19 ad) s.heap H locs → lv_has ls 7 [(0, .ref (ad 0)), (2, .int x2), (3, .int x3), (4, .int x4), (6, .int x6)] → W p l e (rmD 3) s m args below meth c H locs 0 0 (MQ below (QI D 19 ad res.1 (cfM ad cI res.2)) args s 0 0 (Ar 19 ad)) (F0 m 190 ls [.int xt2, .int xt1, .ref (ad 13)]) := by
  intro x2 x3 x4 x6 xt1 xt2 S H locs ls hf hP hS hl
  have hx := X.1.1
  have hb := X.1.2.1
  unfold fj_X8_readsPage_190 at hf
  obtain ⟨g23, hf⟩ := grd_some hf
  refine w_m_readPages X hP hS  g23 dX8_readsPage_190 (fun H locs hP hS => ?_)
  refine lv_aload_n hx hb dX8_readsPage_191 rfl (lv_at hl 0 rfl) ?_
  refine g_M_readPages X hP  tw_95 dX8_readsPage_192 ?_
  refine lv_iload_n hx hb dX8_readsPage_195 rfl (lv_at hl 2 rfl) ?_
  refine lv_iconst (v := (3 : Int32)) hx hb dX8_readsPage_196 (by decide) ?_
  refine lv_iadd hx hb dX8_readsPage_197 ?_
  refine lv_iload_n hx hb dX8_readsPage_198 rfl (lv_at hl 1 rfl) ?_
  obtain ⟨q24, e25, hf⟩ := bind_some hf
  refine aftI hS (cS (rest := [.int (x3 + (3 : Int32)), .ref (ad 13)]) X hP hS [.int x2] (m_X8_doesPoint  e25) cw_X8_doesPoint tw_309 tw_566 (fits9 (by first | decide | omega) (by decide)) rfl rfl hl.1 (Nat.le_of_ble_eq_true rfl) dX8_readsPage_199 ⟨Nat.zero_le _, Nat.zero_le _⟩) (fun H locs hP hS => ?_)
  refine lv_if_eq (tgt := 210) hx hb dX8_readsPage_202 (by decide) (fun c26 => ?_) (fun c26 => ?_)
  · rw [if_pos c26] at hf
    refine lv_bipush (v := (-9 : Int32)) hx hb dX8_readsPage_210 (by decide) ?_
    exact vj_X8_readsPage_212 X hr hlk _ _ _ _ _ _ _ _ ls hf  hP hS (lv_sub hl [0, 1, 2, 4] rfl)
  · rw [if_neg c26] at hf
    refine lv_iload hx hb dX8_readsPage_205 (lv_at hl 3 rfl) ?_
    refine lv_goto (tgt := 212) hx hb dX8_readsPage_207 (by decide) ?_
    exact vj_X8_readsPage_212 X hr hlk _ _ _ _ _ _ _ _ ls hf  hP hS (lv_sub hl [0, 1, 2, 4] rfl)
set_option maxHeartbeats 4000000 in
set_option maxRecDepth 100000 in
theorem vj_X8_readsPage_168 (X : Cx D cI cP cB cA 19 ad tL tC p s m c cX8_readsPage 7 args RX8) (hr : meth.sig.returnType = (some .boolean)) (hlk : meth.locks = false) {res : Int32 × Stt} : ∀ (x2 : Int32) (x3 : Int32) (x4 : Int32) (x5 : Int32) (x6 : Int32) (xt1 : Int32) (xt2 : Int32) (S : Stt) (H : Heap) (locs : List Loc) (ls : Array Slot), fj_X8_readsPage_168 x2 x3 x4 x5 x6 xt1 xt2 S = some res → va_P D vwCl (wl 19 ad (cfM ad cI S)) H → va_S (Ar 19 ad) s.heap H locs → lv_has ls 7 [(0, .ref (ad 0)), (2, .int x2), (3, .int x3), (4, .int x4), (5, .int x5), (6, .int x6)] → W p l e (rmD 3) s m args below meth c H locs 0 0 (MQ below (QI D 19 ad res.1 (cfM ad cI res.2)) args s 0 0 (Ar 19 ad)) (F0 m 168 ls [.int xt2, .int xt1, .ref (ad 13)]) := by
  intro x2 x3 x4 x5 x6 xt1 xt2 S H locs ls hf hP hS hl
  have hx := X.1.1
  have hb := X.1.2.1
  unfold fj_X8_readsPage_168 at hf
  obtain ⟨g21, hf⟩ := grd_some hf
  refine w_m_readPages X hP hS  g21 dX8_readsPage_168 (fun H locs hP hS => ?_)
  refine lv_aload_n hx hb dX8_readsPage_169 rfl (lv_at hl 0 rfl) ?_
  refine g_M_readPages X hP  tw_95 dX8_readsPage_170 ?_
  refine lv_iload_n hx hb dX8_readsPage_173 rfl (lv_at hl 2 rfl) ?_
  refine lv_iconst (v := (2 : Int32)) hx hb dX8_readsPage_174 (by decide) ?_
  refine lv_iadd hx hb dX8_readsPage_175 ?_
  refine lv_iload_n hx hb dX8_readsPage_176 rfl (lv_at hl 1 rfl) ?_
  refine lv_iconst (v := (3 : Int32)) hx hb dX8_readsPage_177 (by decide) ?_
  refine lv_icmp_ne (tgt := 188) hx hb dX8_readsPage_178 (by decide) (fun c22 => ?_) (fun c22 => ?_)
  · rw [if_neg c22] at hf
    refine lv_iload hx hb dX8_readsPage_188 (lv_at hl 5 rfl) ?_
    exact vj_X8_readsPage_190 X hr hlk _ _ _ _ _ _ _ _ _ ls hf  hP hS (lv_sub hl [0, 1, 2, 3, 5] rfl)
  · rw [if_pos c22] at hf
    refine lv_iconst (v := (1 : Int32)) hx hb dX8_readsPage_181 (by decide) ?_
    refine lv_iload hx hb dX8_readsPage_182 (lv_at hl 4 rfl) ?_
    refine lv_ishl hx hb dX8_readsPage_184 ?_
    refine lv_goto (tgt := 190) hx hb dX8_readsPage_185 (by decide) ?_
    exact vj_X8_readsPage_190 X hr hlk _ _ _ _ _ _ _ _ _ ls hf  hP hS (lv_sub hl [0, 1, 2, 3, 5] rfl)
set_option maxHeartbeats 4000000 in
set_option maxRecDepth 100000 in
theorem vj_X8_readsPage_132 (X : Cx D cI cP cB cA 19 ad tL tC p s m c cX8_readsPage 7 args RX8) (hr : meth.sig.returnType = (some .boolean)) (hlk : meth.locks = false) {res : Int32 × Stt} : ∀ (x2 : Int32) (x3 : Int32) (x4 : Int32) (x5 : Int32) (xt0 : Int32) (S : Stt) (H : Heap) (locs : List Loc) (ls : Array Slot), fj_X8_readsPage_132 x2 x3 x4 x5 xt0 S = some res → va_P D vwCl (wl 19 ad (cfM ad cI S)) H → va_S (Ar 19 ad) s.heap H locs → lv_has ls 7 [(0, .ref (ad 0)), (2, .int x2), (3, .int x3), (4, .int x4), (5, .int x5)] → W p l e (rmD 3) s m args below meth c H locs 0 0 (MQ below (QI D 19 ad res.1 (cfM ad cI res.2)) args s 0 0 (Ar 19 ad)) (F0 m 132 ls [.int xt0]) := by
  intro x2 x3 x4 x5 xt0 S H locs ls hf hP hS hl
  have hx := X.1.1
  have hb := X.1.2.1
  unfold fj_X8_readsPage_132 at hf
  refine lv_istore (lv' := [(6, .int xt0), (0, .ref (ad 0)), (2, .int x2), (3, .int x3), (4, .int x4), (5, .int x5)]) hx hb dX8_readsPage_132 hl (by decide) rfl (fun ls hl => ?_)
  refine lv_iload hx hb dX8_readsPage_134 (lv_at hl 0 rfl) ?_
  refine lv_bipush (v := (-9 : Int32)) hx hb dX8_readsPage_136 (by decide) ?_
  refine lv_icmp_ne (tgt := 143) hx hb dX8_readsPage_138 (by decide) (fun c18 => ?_) (fun c18 => ?_)
  · rw [if_neg c18] at hf
    refine lv_aload_n hx hb dX8_readsPage_143 rfl (lv_at hl 1 rfl) ?_
    refine g_M_readPages X hP  tw_95 dX8_readsPage_144 ?_
    refine lv_iload_n hx hb dX8_readsPage_147 rfl (lv_at hl 3 rfl) ?_
    refine lv_iload_n hx hb dX8_readsPage_148 rfl (lv_at hl 2 rfl) ?_
    obtain ⟨g19, hf⟩ := grd_some hf
    refine w_m_readPages X hP hS  g19 dX8_readsPage_149 (fun H locs hP hS => ?_)
    refine lv_aload_n hx hb dX8_readsPage_150 rfl (lv_at hl 1 rfl) ?_
    refine g_M_readPages X hP  tw_95 dX8_readsPage_151 ?_
    refine lv_iload_n hx hb dX8_readsPage_154 rfl (lv_at hl 3 rfl) ?_
    refine lv_iconst (v := (1 : Int32)) hx hb dX8_readsPage_155 (by decide) ?_
    refine lv_iadd hx hb dX8_readsPage_156 ?_
    refine lv_iload_n hx hb dX8_readsPage_157 rfl (lv_at hl 2 rfl) ?_
    refine lv_iconst (v := (3 : Int32)) hx hb dX8_readsPage_158 (by decide) ?_
    refine lv_icmp_ne (tgt := 166) hx hb dX8_readsPage_159 (by decide) (fun c20 => ?_) (fun c20 => ?_)
    · rw [if_neg c20] at hf
      refine lv_iload hx hb dX8_readsPage_166 (lv_at hl 5 rfl) ?_
      exact vj_X8_readsPage_168 X hr hlk _ _ _ _ _ _ _ _ _ _ ls hf  hP hS (lv_sub hl [1, 2, 3, 4, 5, 0] rfl)
    · rw [if_pos c20] at hf
      refine lv_iconst (v := (0 : Int32)) hx hb dX8_readsPage_162 (by decide) ?_
      refine lv_goto (tgt := 168) hx hb dX8_readsPage_163 (by decide) ?_
      exact vj_X8_readsPage_168 X hr hlk _ _ _ _ _ _ _ _ _ _ ls hf  hP hS (lv_sub hl [1, 2, 3, 4, 5, 0] rfl)
  · rw [if_pos c18] at hf
    refine lv_iconst (v := (0 : Int32)) hx hb dX8_readsPage_141 (by decide) ?_
    cases hf
    exact rtZ X hr hlk hP hS (Or.inl rfl) dX8_readsPage_142
set_option maxHeartbeats 4000000 in
set_option maxRecDepth 100000 in
theorem vj_X8_readsPage_98 (X : Cx D cI cP cB cA 19 ad tL tC p s m c cX8_readsPage 7 args RX8) (hr : meth.sig.returnType = (some .boolean)) (hlk : meth.locks = false) {res : Int32 × Stt} : ∀ (x1 : Int32) (x2 : Int32) (x3 : Int32) (x4 : Int32) (xt0 : Int32) (S : Stt) (H : Heap) (locs : List Loc) (ls : Array Slot), fj_X8_readsPage_98 x1 x2 x3 x4 xt0 S = some res → va_P D vwCl (wl 19 ad (cfM ad cI S)) H → va_S (Ar 19 ad) s.heap H locs → lv_has ls 7 [(0, .ref (ad 0)), (1, .int x1), (2, .int x2), (3, .int x3), (4, .int x4)] → W p l e (rmD 3) s m args below meth c H locs 0 0 (MQ below (QI D 19 ad res.1 (cfM ad cI res.2)) args s 0 0 (Ar 19 ad)) (F0 m 98 ls [.int xt0]) := by
  intro x1 x2 x3 x4 xt0 S H locs ls hf hP hS hl
  have hx := X.1.1
  have hb := X.1.2.1
  unfold fj_X8_readsPage_98 at hf
  refine lv_istore (lv' := [(5, .int xt0), (0, .ref (ad 0)), (1, .int x1), (2, .int x2), (3, .int x3), (4, .int x4)]) hx hb dX8_readsPage_98 hl (by decide) rfl (fun ls hl => ?_)
  refine lv_iload hx hb dX8_readsPage_100 (lv_at hl 0 rfl) ?_
  refine lv_bipush (v := (-9 : Int32)) hx hb dX8_readsPage_102 (by decide) ?_
  refine lv_icmp_ne (tgt := 112) hx hb dX8_readsPage_104 (by decide) (fun c14 => ?_) (fun c14 => ?_)
  · rw [if_neg c14] at hf
    refine lv_iload_n hx hb dX8_readsPage_112 rfl (lv_at hl 3 rfl) ?_
    refine lv_iconst (v := (3 : Int32)) hx hb dX8_readsPage_113 (by decide) ?_
    refine lv_icmp_ne (tgt := 127) hx hb dX8_readsPage_114 (by decide) (fun c15 => ?_) (fun c15 => ?_)
    · rw [if_neg c15] at hf
      refine lv_aload_n hx hb dX8_readsPage_127 rfl (lv_at hl 1 rfl) ?_
      refine lv_iload_n hx hb dX8_readsPage_128 rfl (lv_at hl 2 rfl) ?_
      obtain ⟨q16, e17, hf⟩ := bind_some hf
      refine aftI hS (cV (rest := []) X hP hS [.int x1] (m_X8_readsWords  e17) cw_X8_readsWords tw_311 tw_568 tw_778 (by decide) (cf_M ) rfl (fits9 (by first | decide | omega) (by decide)) rfl rfl hl.1 (Nat.le_of_ble_eq_true rfl) dX8_readsPage_129 ⟨Nat.zero_le _, Nat.zero_le _⟩) (fun H locs hP hS => ?_)
      exact vj_X8_readsPage_132 X hr hlk _ _ _ _ _ _ _ _ ls hf  hP hS (lv_sub hl [1, 3, 4, 5, 0] rfl)
    · rw [if_pos c15] at hf
      refine lv_aload_n hx hb dX8_readsPage_117 rfl (lv_at hl 1 rfl) ?_
      refine lv_iload_n hx hb dX8_readsPage_118 rfl (lv_at hl 2 rfl) ?_
      refine lv_iconst (v := (0 : Int32)) hx hb dX8_readsPage_119 (by decide) ?_
      refine lv_iconst (v := (4 : Int32)) hx hb dX8_readsPage_120 (by decide) ?_
      obtain ⟨q30, e31, hf⟩ := bind_some hf
      refine aftI hS (cV (rest := []) X hP hS [.int x1, .int (0 : Int32), .int (4 : Int32)] (m_X8_figure  e31) cw_X8_figure tw_310 tw_567 tw_777 (by decide) (cf_M ) rfl (fits9 (by first | decide | omega) (by decide)) rfl rfl hl.1 (Nat.le_of_ble_eq_true rfl) dX8_readsPage_121 ⟨Nat.zero_le _, Nat.zero_le _⟩) (fun H locs hP hS => ?_)
      refine lv_goto (tgt := 132) hx hb dX8_readsPage_124 (by decide) ?_
      exact vj_X8_readsPage_132 X hr hlk _ _ _ _ _ _ _ _ ls hf  hP hS (lv_sub hl [1, 3, 4, 5, 0] rfl)
  · rw [if_pos c14] at hf
    refine lv_bipush (v := (-9 : Int32)) hx hb dX8_readsPage_107 (by decide) ?_
    refine lv_goto (tgt := 132) hx hb dX8_readsPage_109 (by decide) ?_
    exact vj_X8_readsPage_132 X hr hlk _ _ _ _ _ _ _ _ ls hf  hP hS (lv_sub hl [1, 3, 4, 5, 0] rfl)
set_option maxHeartbeats 4000000 in
set_option maxRecDepth 100000 in
theorem vj_X8_readsPage_61 (X : Cx D cI cP cB cA 19 ad tL tC p s m c cX8_readsPage 7 args RX8) (hr : meth.sig.returnType = (some .boolean)) (hlk : meth.locks = false) {res : Int32 × Stt} : ∀ (x1 : Int32) (x2 : Int32) (x3 : Int32) (xt0 : Int32) (S : Stt) (H : Heap) (locs : List Loc) (ls : Array Slot), fj_X8_readsPage_61 x1 x2 x3 xt0 S = some res → va_P D vwCl (wl 19 ad (cfM ad cI S)) H → va_S (Ar 19 ad) s.heap H locs → lv_has ls 7 [(0, .ref (ad 0)), (1, .int x1), (2, .int x2), (3, .int x3)] → W p l e (rmD 3) s m args below meth c H locs 0 0 (MQ below (QI D 19 ad res.1 (cfM ad cI res.2)) args s 0 0 (Ar 19 ad)) (F0 m 61 ls [.int xt0]) := by
  intro x1 x2 x3 xt0 S H locs ls hf hP hS hl
  have hx := X.1.1
  have hb := X.1.2.1
  unfold fj_X8_readsPage_61 at hf
  refine lv_istore (lv' := [(4, .int xt0), (0, .ref (ad 0)), (1, .int x1), (2, .int x2), (3, .int x3)]) hx hb dX8_readsPage_61 hl (by decide) rfl (fun ls hl => ?_)
  refine lv_iload hx hb dX8_readsPage_63 (lv_at hl 0 rfl) ?_
  refine lv_bipush (v := (-9 : Int32)) hx hb dX8_readsPage_65 (by decide) ?_
  refine lv_icmp_ne (tgt := 75) hx hb dX8_readsPage_67 (by decide) (fun c10 => ?_) (fun c10 => ?_)
  · rw [if_neg c10] at hf
    refine lv_iload_n hx hb dX8_readsPage_75 rfl (lv_at hl 3 rfl) ?_
    refine lv_iconst (v := (3 : Int32)) hx hb dX8_readsPage_76 (by decide) ?_
    refine lv_icmp_ne (tgt := 91) hx hb dX8_readsPage_77 (by decide) (fun c11 => ?_) (fun c11 => ?_)
    · rw [if_neg c11] at hf
      refine lv_aload_n hx hb dX8_readsPage_91 rfl (lv_at hl 1 rfl) ?_
      refine lv_iload_n hx hb dX8_readsPage_92 rfl (lv_at hl 2 rfl) ?_
      refine lv_iconst (v := (0 : Int32)) hx hb dX8_readsPage_93 (by decide) ?_
      refine lv_iconst (v := (1 : Int32)) hx hb dX8_readsPage_94 (by decide) ?_
      obtain ⟨q12, e13, hf⟩ := bind_some hf
      refine aftI hS (cV (rest := []) X hP hS [.int x1, .int (0 : Int32), .int (1 : Int32)] (m_X8_figure  e13) cw_X8_figure tw_310 tw_567 tw_777 (by decide) (cf_M ) rfl (fits9 (by first | decide | omega) (by decide)) rfl rfl hl.1 (Nat.le_of_ble_eq_true rfl) dX8_readsPage_95 ⟨Nat.zero_le _, Nat.zero_le _⟩) (fun H locs hP hS => ?_)
      exact vj_X8_readsPage_98 X hr hlk _ _ _ _ _ _ _ _ ls hf  hP hS (lv_sub hl [1, 2, 3, 4, 0] rfl)
    · rw [if_pos c11] at hf
      refine lv_aload_n hx hb dX8_readsPage_80 rfl (lv_at hl 1 rfl) ?_
      refine lv_iload_n hx hb dX8_readsPage_81 rfl (lv_at hl 2 rfl) ?_
      refine lv_iconst (v := (5 : Int32)) hx hb dX8_readsPage_82 (by decide) ?_
      refine lv_bipush (v := (6 : Int32)) hx hb dX8_readsPage_83 (by decide) ?_
      obtain ⟨q32, e33, hf⟩ := bind_some hf
      refine aftI hS (cV (rest := []) X hP hS [.int x1, .int (5 : Int32), .int (6 : Int32)] (m_X8_figure  e33) cw_X8_figure tw_310 tw_567 tw_777 (by decide) (cf_M ) rfl (fits9 (by first | decide | omega) (by decide)) rfl rfl hl.1 (Nat.le_of_ble_eq_true rfl) dX8_readsPage_85 ⟨Nat.zero_le _, Nat.zero_le _⟩) (fun H locs hP hS => ?_)
      refine lv_goto (tgt := 98) hx hb dX8_readsPage_88 (by decide) ?_
      exact vj_X8_readsPage_98 X hr hlk _ _ _ _ _ _ _ _ ls hf  hP hS (lv_sub hl [1, 2, 3, 4, 0] rfl)
  · rw [if_pos c10] at hf
    refine lv_bipush (v := (-9 : Int32)) hx hb dX8_readsPage_70 (by decide) ?_
    refine lv_goto (tgt := 98) hx hb dX8_readsPage_72 (by decide) ?_
    exact vj_X8_readsPage_98 X hr hlk _ _ _ _ _ _ _ _ ls hf  hP hS (lv_sub hl [1, 2, 3, 4, 0] rfl)
end
set_option maxHeartbeats 4000000 in
set_option maxRecDepth 100000 in
theorem m_X8_readsPage {l : Launch} {D : va_G} {cI cP cB cA : ClassId} {ad : Nat → Nat} {tL tC : Nat} {x1 : Int32} {S : Stt} {res : Int32 × Stt} (hf : f_X8_readsPage x1 S = some res) : Ct l D cI cP cB cA 19 ad tL tC yX8_readsPage cX8_readsPage 7 (some .boolean) 3 [.ref (ad 0), .int x1] (cfM ad cI S) (QI D 19 ad res.1 (cfM ad cI res.2)) := by
  refine ctOf (by decide) (Nat.le_of_ble_eq_true rfl) ?_
  intro p e s m args below meth c ls X hr hlk hP hl
  have hS : va_S (Ar 19 ad) s.heap s.heap [] := va_S.rf
  have hx := X.1.1
  have hb := X.1.2.1
  have hl : lv_has ls 7 [(0, .ref (ad 0)), (1, .int x1)] := hl
  unfold f_X8_readsPage at hf
  refine lv_aload_n hx hb dX8_readsPage_0 rfl (lv_at hl 0 rfl) ?_
  refine lv_iload_n hx hb dX8_readsPage_1 rfl (lv_at hl 1 rfl) ?_
  obtain ⟨q1, e2, hf⟩ := bind_some hf
  refine aftI hS (cV (rest := []) X hP hS [.int x1] (m_X8_here  e2) cw_X8_here tw_306 tw_563 tw_776 (by decide) (cf_M ) rfl (fits9 (by first | decide | omega) (by decide)) rfl rfl hl.1 (Nat.le_of_ble_eq_true rfl) dX8_readsPage_2 ⟨Nat.zero_le _, Nat.zero_le _⟩) (fun H locs hP hS => ?_)
  obtain ⟨q3, e4, hf⟩ := bind_some hf
  refine aftI hS (cS (rest := []) X hP hS [.int q1.1] (m_X8_kindOf  e4) cw_X8_kindOf tw_308 tw_565 (fits9 (by first | decide | omega) (by decide)) rfl rfl hl.1 (Nat.le_of_ble_eq_true rfl) dX8_readsPage_5 ⟨Nat.zero_le _, Nat.zero_le _⟩) (fun H locs hP hS => ?_)
  refine lv_istore_n (lv' := [(2, .int q3.1), (0, .ref (ad 0)), (1, .int x1)]) hx hb dX8_readsPage_8 rfl hl (by decide) rfl (fun ls hl => ?_)
  refine lv_iload_n hx hb dX8_readsPage_9 rfl (lv_at hl 0 rfl) ?_
  refine lv_bipush (v := (-9 : Int32)) hx hb dX8_readsPage_10 (by decide) ?_
  refine lv_icmp_eq (tgt := 24) hx hb dX8_readsPage_12 (by decide) (fun c5 => ?_) (fun c5 => ?_)
  · rw [if_pos c5] at hf
    refine lv_iconst (v := (0 : Int32)) hx hb dX8_readsPage_24 (by decide) ?_
    cases hf
    exact rtZ X hr hlk hP hS (Or.inl rfl) dX8_readsPage_25
  · rw [if_neg c5] at hf
    refine lv_aload_n hx hb dX8_readsPage_15 rfl (lv_at hl 1 rfl) ?_
    refine g_M_readMany X hP  tw_94 dX8_readsPage_16 ?_
    refine lv_bipush (v := (6 : Int32)) hx hb dX8_readsPage_19 (by decide) ?_
    refine lv_icmp_ne (tgt := 26) hx hb dX8_readsPage_21 (by decide) (fun c6 => ?_) (fun c6 => ?_)
    · rw [if_neg c6] at hf
      refine lv_aload_n hx hb dX8_readsPage_26 rfl (lv_at hl 1 rfl) ?_
      refine lv_dup hx hb dX8_readsPage_27 rfl ?_
      refine g_M_readAt X hP  tw_93 dX8_readsPage_28 ?_
      refine lv_iconst (v := (1 : Int32)) hx hb dX8_readsPage_31 (by decide) ?_
      refine lv_iadd hx hb dX8_readsPage_32 ?_
      refine p_M_readAt X hP hS  tw_93 dX8_readsPage_33 (fun H locs hP hS => ?_)
      refine lv_iconst (v := (5 : Int32)) hx hb dX8_readsPage_36 (by decide) ?_
      refine lv_aload_n hx hb dX8_readsPage_37 rfl (lv_at hl 1 rfl) ?_
      refine g_M_readMany X hP  tw_94 dX8_readsPage_38 ?_
      refine lv_imul hx hb dX8_readsPage_41 ?_
      refine lv_istore_n (lv' := [(3, .int ((5 : Int32) * ((put q3.2 0 17 0 ((q3.2.1 0 17 0) + (1 : Int32))).1 0 18 0))), (2, .int q3.1), (0, .ref (ad 0)), (1, .int x1)]) hx hb dX8_readsPage_42 rfl hl (by decide) rfl (fun ls hl => ?_)
      refine lv_iload_n hx hb dX8_readsPage_43 rfl (lv_at hl 1 rfl) ?_
      obtain ⟨q7, e8, hf⟩ := bind_some hf
      refine aftI hS (cS (rest := []) X hP hS [.int q3.1] (m_X8_doesPoint  e8) cw_X8_doesPoint tw_309 tw_566 (fits9 (by first | decide | omega) (by decide)) rfl rfl hl.1 (Nat.le_of_ble_eq_true rfl) dX8_readsPage_44 ⟨Nat.zero_le _, Nat.zero_le _⟩) (fun H locs hP hS => ?_)
      refine lv_if_eq (tgt := 60) hx hb dX8_readsPage_47 (by decide) (fun c9 => ?_) (fun c9 => ?_)
      · rw [if_pos c9] at hf
        refine lv_iconst (v := (0 : Int32)) hx hb dX8_readsPage_60 (by decide) ?_
        exact vj_X8_readsPage_61 X hr hlk _ _ _ _ _ _ _ ls hf  hP hS (lv_sub hl [2, 3, 1, 0] rfl)
      · rw [if_neg c9] at hf
        refine lv_aload_n hx hb dX8_readsPage_50 rfl (lv_at hl 2 rfl) ?_
        refine lv_iload_n hx hb dX8_readsPage_51 rfl (lv_at hl 3 rfl) ?_
        refine lv_iconst (v := (0 : Int32)) hx hb dX8_readsPage_52 (by decide) ?_
        refine lv_iconst (v := (5 : Int32)) hx hb dX8_readsPage_53 (by decide) ?_
        obtain ⟨q34, e35, hf⟩ := bind_some hf
        refine aftI hS (cV (rest := []) X hP hS [.int x1, .int (0 : Int32), .int (5 : Int32)] (m_X8_figure  e35) cw_X8_figure tw_310 tw_567 tw_777 (by decide) (cf_M ) rfl (fits9 (by first | decide | omega) (by decide)) rfl rfl hl.1 (Nat.le_of_ble_eq_true rfl) dX8_readsPage_54 ⟨Nat.zero_le _, Nat.zero_le _⟩) (fun H locs hP hS => ?_)
        refine lv_goto (tgt := 61) hx hb dX8_readsPage_57 (by decide) ?_
        exact vj_X8_readsPage_61 X hr hlk _ _ _ _ _ _ _ ls hf  hP hS (lv_sub hl [2, 3, 1, 0] rfl)
    · rw [if_pos c6] at hf
      refine lv_iconst (v := (0 : Int32)) hx hb dX8_readsPage_24 (by decide) ?_
      cases hf
      exact rtZ X hr hlk hP hS (Or.inl rfl) dX8_readsPage_25
