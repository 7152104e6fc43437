/-! J6_bitCount_0f7a4 -/
section
variable {p : Program} {l : Launch} {e : Env} {s : State} {m : MethodId} {args : Array Value} {below : List Frame} {meth : Method} {c : Code}
variable {D : va_G} {cI cP cB cA : ClassId} {ad : Nat → Nat} {tL tC : Nat}
end
set_option maxHeartbeats 4000000 in
set_option maxRecDepth 100000 in
theorem m_J6_bitCount_0f7a4 {l : Launch} {D : va_G} {cI cP cB cA : ClassId} {ad : Nat → Nat} {tL tC : Nat} {x0 : Int32} {S : Stt} {res : Int32 × Stt} (hf : f_J6_bitCount_0f7a4 x0 S = some res) : Ct l D cI cP cB cA 79 ad tL tC yJ6_bitCount_0f7a4 cJ6_bitCount_0f7a4 1 (some .int) 1 [.int x0] (cfC ad cI cP cB cA S) (QI D 79 ad res.1 (cfC ad cI cP cB cA res.2)) := by
  refine ctOfF (by decide) (Nat.le_of_ble_eq_true rfl) ?_
  intro p e s m args below meth c ls X hr hlk hP hl
  have hS : va_S (Ar 79 ad) s.heap s.heap [] := va_S.rf
  have hx := X.1.1
  have hb := X.1.2.1
  have hl : lv_has ls 1 [(0, .int x0)] := hl
  unfold f_J6_bitCount_0f7a4 at hf
  refine lv_iload_n hx hb dJ6_bitCount_0f7a4_0 rfl (lv_at hl 0 rfl) ?_
  refine lv_iload_n hx hb dJ6_bitCount_0f7a4_1 rfl (lv_at hl 0 rfl) ?_
  refine lv_iconst (v := (1 : Int32)) hx hb dJ6_bitCount_0f7a4_2 (by decide) ?_
  refine lv_iushr hx hb dJ6_bitCount_0f7a4_3 rfl ?_
  refine lv_ldcw (v := (1431655765 : Int32)) hx hb X.1.2.2.2.1 (X.1.2.2.2.2 _ tw_439) dJ6_bitCount_0f7a4_4 ?_
  refine lv_iand hx hb dJ6_bitCount_0f7a4_7 ?_
  refine lv_isub hx hb dJ6_bitCount_0f7a4_8 ?_
  refine lv_istore_n (lv' := [(0, .int (x0 - (((x0.toUInt32 >>> ((1 : Int32).toUInt32 &&& Int32.toUInt32 31)).toInt32) &&& (1431655765 : Int32))))]) hx hb dJ6_bitCount_0f7a4_9 rfl hl (by decide) rfl (fun ls hl => ?_)
  refine lv_iload_n hx hb dJ6_bitCount_0f7a4_10 rfl (lv_at hl 0 rfl) ?_
  refine lv_ldcw (v := (858993459 : Int32)) hx hb X.1.2.2.2.1 (X.1.2.2.2.2 _ tw_440) dJ6_bitCount_0f7a4_11 ?_
  refine lv_iand hx hb dJ6_bitCount_0f7a4_14 ?_
  refine lv_iload_n hx hb dJ6_bitCount_0f7a4_15 rfl (lv_at hl 0 rfl) ?_
  refine lv_iconst (v := (2 : Int32)) hx hb dJ6_bitCount_0f7a4_16 (by decide) ?_
  refine lv_iushr hx hb dJ6_bitCount_0f7a4_17 rfl ?_
  refine lv_ldcw (v := (858993459 : Int32)) hx hb X.1.2.2.2.1 (X.1.2.2.2.2 _ tw_440) dJ6_bitCount_0f7a4_18 ?_
  refine lv_iand hx hb dJ6_bitCount_0f7a4_21 ?_
  refine lv_iadd hx hb dJ6_bitCount_0f7a4_22 ?_
  refine lv_istore_n (lv' := [(0, .int (((x0 - (((x0.toUInt32 >>> ((1 : Int32).toUInt32 &&& Int32.toUInt32 31)).toInt32) &&& (1431655765 : Int32))) &&& (858993459 : Int32)) + ((((x0 - (((x0.toUInt32 >>> ((1 : Int32).toUInt32 &&& Int32.toUInt32 31)).toInt32) &&& (1431655765 : Int32))).toUInt32 >>> ((2 : Int32).toUInt32 &&& Int32.toUInt32 31)).toInt32) &&& (858993459 : Int32))))]) hx hb dJ6_bitCount_0f7a4_23 rfl hl (by decide) rfl (fun ls hl => ?_)
  refine lv_iload_n hx hb dJ6_bitCount_0f7a4_24 rfl (lv_at hl 0 rfl) ?_
  refine lv_iload_n hx hb dJ6_bitCount_0f7a4_25 rfl (lv_at hl 0 rfl) ?_
  refine lv_iconst (v := (4 : Int32)) hx hb dJ6_bitCount_0f7a4_26 (by decide) ?_
  refine lv_iushr hx hb dJ6_bitCount_0f7a4_27 rfl ?_
  refine lv_iadd hx hb dJ6_bitCount_0f7a4_28 ?_
  refine lv_ldcw (v := (252645135 : Int32)) hx hb X.1.2.2.2.1 (X.1.2.2.2.2 _ tw_441) dJ6_bitCount_0f7a4_29 ?_
  refine lv_iand hx hb dJ6_bitCount_0f7a4_32 ?_
  refine lv_istore_n (lv' := [(0, .int (((((x0 - (((x0.toUInt32 >>> ((1 : Int32).toUInt32 &&& Int32.toUInt32 31)).toInt32) &&& (1431655765 : Int32))) &&& (858993459 : Int32)) + ((((x0 - (((x0.toUInt32 >>> ((1 : Int32).toUInt32 &&& Int32.toUInt32 31)).toInt32) &&& (1431655765 : Int32))).toUInt32 >>> ((2 : Int32).toUInt32 &&& Int32.toUInt32 31)).toInt32) &&& (858993459 : Int32))) + (((((x0 - (((x0.toUInt32 >>> ((1 : Int32).toUInt32 &&& Int32.toUInt32 31)).toInt32) &&& (1431655765 : Int32))) &&& (858993459 : Int32)) + ((((x0 - (((x0.toUInt32 >>> ((1 : Int32).toUInt32 &&& Int32.toUInt32 31)).toInt32) &&& (1431655765 : Int32))).toUInt32 >>> ((2 : Int32).toUInt32 &&& Int32.toUInt32 31)).toInt32) &&& (858993459 : Int32))).toUInt32 >>> ((4 : Int32).toUInt32 &&& Int32.toUInt32 31)).toInt32)) &&& (252645135 : Int32)))]) hx hb dJ6_bitCount_0f7a4_33 rfl hl (by decide) rfl (fun ls hl => ?_)
  refine lv_iload_n hx hb dJ6_bitCount_0f7a4_34 rfl (lv_at hl 0 rfl) ?_
  refine lv_iload_n hx hb dJ6_bitCount_0f7a4_35 rfl (lv_at hl 0 rfl) ?_
  refine lv_bipush (v := (8 : Int32)) hx hb dJ6_bitCount_0f7a4_36 (by decide) ?_
  refine lv_iushr hx hb dJ6_bitCount_0f7a4_38 rfl ?_
  refine lv_iadd hx hb dJ6_bitCount_0f7a4_39 ?_
  refine lv_istore_n (lv' := [(0, .int ((((((x0 - (((x0.toUInt32 >>> ((1 : Int32).toUInt32 &&& Int32.toUInt32 31)).toInt32) &&& (1431655765 : Int32))) &&& (858993459 : Int32)) + ((((x0 - (((x0.toUInt32 >>> ((1 : Int32).toUInt32 &&& Int32.toUInt32 31)).toInt32) &&& (1431655765 : Int32))).toUInt32 >>> ((2 : Int32).toUInt32 &&& Int32.toUInt32 31)).toInt32) &&& (858993459 : Int32))) + (((((x0 - (((x0.toUInt32 >>> ((1 : Int32).toUInt32 &&& Int32.toUInt32 31)).toInt32) &&& (1431655765 : Int32))) &&& (858993459 : Int32)) + ((((x0 - (((x0.toUInt32 >>> ((1 : Int32).toUInt32 &&& Int32.toUInt32 31)).toInt32) &&& (1431655765 : Int32))).toUInt32 >>> ((2 : Int32).toUInt32 &&& Int32.toUInt32 31)).toInt32) &&& (858993459 : Int32))).toUInt32 >>> ((4 : Int32).toUInt32 &&& Int32.toUInt32 31)).toInt32)) &&& (252645135 : Int32)) + (((((((x0 - (((x0.toUInt32 >>> ((1 : Int32).toUInt32 &&& Int32.toUInt32 31)).toInt32) &&& (1431655765 : Int32))) &&& (858993459 : Int32)) + ((((x0 - (((x0.toUInt32 >>> ((1 : Int32).toUInt32 &&& Int32.toUInt32 31)).toInt32) &&& (1431655765 : Int32))).toUInt32 >>> ((2 : Int32).toUInt32 &&& Int32.toUInt32 31)).toInt32) &&& (858993459 : Int32))) + (((((x0 - (((x0.toUInt32 >>> ((1 : Int32).toUInt32 &&& Int32.toUInt32 31)).toInt32) &&& (1431655765 : Int32))) &&& (858993459 : Int32)) + ((((x0 - (((x0.toUInt32 >>> ((1 : Int32).toUInt32 &&& Int32.toUInt32 31)).toInt32) &&& (1431655765 : Int32))).toUInt32 >>> ((2 : Int32).toUInt32 &&& Int32.toUInt32 31)).toInt32) &&& (858993459 : Int32))).toUInt32 >>> ((4 : Int32).toUInt32 &&& Int32.toUInt32 31)).toInt32)) &&& (252645135 : Int32)).toUInt32 >>> ((8 : Int32).toUInt32 &&& Int32.toUInt32 31)).toInt32)))]) hx hb dJ6_bitCount_0f7a4_40 rfl hl (by decide) rfl (fun ls hl => ?_)
  refine lv_iload_n hx hb dJ6_bitCount_0f7a4_41 rfl (lv_at hl 0 rfl) ?_
  refine lv_iload_n hx hb dJ6_bitCount_0f7a4_42 rfl (lv_at hl 0 rfl) ?_
  refine lv_bipush (v := (16 : Int32)) hx hb dJ6_bitCount_0f7a4_43 (by decide) ?_
  refine lv_iushr hx hb dJ6_bitCount_0f7a4_45 rfl ?_
  refine lv_iadd hx hb dJ6_bitCount_0f7a4_46 ?_
  refine lv_istore_n (lv' := [(0, .int (((((((x0 - (((x0.toUInt32 >>> ((1 : Int32).toUInt32 &&& Int32.toUInt32 31)).toInt32) &&& (1431655765 : Int32))) &&& (858993459 : Int32)) + ((((x0 - (((x0.toUInt32 >>> ((1 : Int32).toUInt32 &&& Int32.toUInt32 31)).toInt32) &&& (1431655765 : Int32))).toUInt32 >>> ((2 : Int32).toUInt32 &&& Int32.toUInt32 31)).toInt32) &&& (858993459 : Int32))) + (((((x0 - (((x0.toUInt32 >>> ((1 : Int32).toUInt32 &&& Int32.toUInt32 31)).toInt32) &&& (1431655765 : Int32))) &&& (858993459 : Int32)) + ((((x0 - (((x0.toUInt32 >>> ((1 : Int32).toUInt32 &&& Int32.toUInt32 31)).toInt32) &&& (1431655765 : Int32))).toUInt32 >>> ((2 : Int32).toUInt32 &&& Int32.toUInt32 31)).toInt32) &&& (858993459 : Int32))).toUInt32 >>> ((4 : Int32).toUInt32 &&& Int32.toUInt32 31)).toInt32)) &&& (252645135 : Int32)) + (((((((x0 - (((x0.toUInt32 >>> ((1 : Int32).toUInt32 &&& Int32.toUInt32 31)).toInt32) &&& (1431655765 : Int32))) &&& (858993459 : Int32)) + ((((x0 - (((x0.toUInt32 >>> ((1 : Int32).toUInt32 &&& Int32.toUInt32 31)).toInt32) &&& (1431655765 : Int32))).toUInt32 >>> ((2 : Int32).toUInt32 &&& Int32.toUInt32 31)).toInt32) &&& (858993459 : Int32))) + (((((x0 - (((x0.toUInt32 >>> ((1 : Int32).toUInt32 &&& Int32.toUInt32 31)).toInt32) &&& (1431655765 : Int32))) &&& (858993459 : Int32)) + ((((x0 - (((x0.toUInt32 >>> ((1 : Int32).toUInt32 &&& Int32.toUInt32 31)).toInt32) &&& (1431655765 : Int32))).toUInt32 >>> ((2 : Int32).toUInt32 &&& Int32.toUInt32 31)).toInt32) &&& (858993459 : Int32))).toUInt32 >>> ((4 : Int32).toUInt32 &&& Int32.toUInt32 31)).toInt32)) &&& (252645135 : Int32)).toUInt32 >>> ((8 : Int32).toUInt32 &&& Int32.toUInt32 31)).toInt32)) + ((((((((x0 - (((x0.toUInt32 >>> ((1 : Int32).toUInt32 &&& Int32.toUInt32 31)).toInt32) &&& (1431655765 : Int32))) &&& (858993459 : Int32)) + ((((x0 - (((x0.toUInt32 >>> ((1 : Int32).toUInt32 &&& Int32.toUInt32 31)).toInt32) &&& (1431655765 : Int32))).toUInt32 >>> ((2 : Int32).toUInt32 &&& Int32.toUInt32 31)).toInt32) &&& (858993459 : Int32))) + (((((x0 - (((x0.toUInt32 >>> ((1 : Int32).toUInt32 &&& Int32.toUInt32 31)).toInt32) &&& (1431655765 : Int32))) &&& (858993459 : Int32)) + ((((x0 - (((x0.toUInt32 >>> ((1 : Int32).toUInt32 &&& Int32.toUInt32 31)).toInt32) &&& (1431655765 : Int32))).toUInt32 >>> ((2 : Int32).toUInt32 &&& Int32.toUInt32 31)).toInt32) &&& (858993459 : Int32))).toUInt32 >>> ((4 : Int32).toUInt32 &&& Int32.toUInt32 31)).toInt32)) &&& (252645135 : Int32)) + (((((((x0 - (((x0.toUInt32 >>> ((1 : Int32).toUInt32 &&& Int32.toUInt32 31)).toInt32) &&& (1431655765 : Int32))) &&& (858993459 : Int32)) + ((((x0 - (((x0.toUInt32 >>> ((1 : Int32).toUInt32 &&& Int32.toUInt32 31)).toInt32) &&& (1431655765 : Int32))).toUInt32 >>> ((2 : Int32).toUInt32 &&& Int32.toUInt32 31)).toInt32) &&& (858993459 : Int32))) + (((((x0 - (((x0.toUInt32 >>> ((1 : Int32).toUInt32 &&& Int32.toUInt32 31)).toInt32) &&& (1431655765 : Int32))) &&& (858993459 : Int32)) + ((((x0 - (((x0.toUInt32 >>> ((1 : Int32).toUInt32 &&& Int32.toUInt32 31)).toInt32) &&& (1431655765 : Int32))).toUInt32 >>> ((2 : Int32).toUInt32 &&& Int32.toUInt32 31)).toInt32) &&& (858993459 : Int32))).toUInt32 >>> ((4 : Int32).toUInt32 &&& Int32.toUInt32 31)).toInt32)) &&& (252645135 : Int32)).toUInt32 >>> ((8 : Int32).toUInt32 &&& Int32.toUInt32 31)).toInt32)).toUInt32 >>> ((16 : Int32).toUInt32 &&& Int32.toUInt32 31)).toInt32)))]) hx hb dJ6_bitCount_0f7a4_47 rfl hl (by decide) rfl (fun ls hl => ?_)
  refine lv_iload_n hx hb dJ6_bitCount_0f7a4_48 rfl (lv_at hl 0 rfl) ?_
  refine lv_bipush (v := (63 : Int32)) hx hb dJ6_bitCount_0f7a4_49 (by decide) ?_
  refine lv_iand hx hb dJ6_bitCount_0f7a4_51 ?_
  cases hf
  exact rtI X hr hlk hP hS dJ6_bitCount_0f7a4_52
/-! X0_empty -/
section
variable {p : Program} {l : Launch} {e : Env} {s : State} {m : MethodId} {args : Array Value} {below : List Frame} {meth : Method} {c : Code}
variable {D : va_G} {cI cP cB cA : ClassId} {ad : Nat → Nat} {tL tC : Nat}
end
set_option maxHeartbeats 4000000 in
set_option maxRecDepth 100000 in
theorem m_X0_empty {l : Launch} {D : va_G} {cI cP cB cA : ClassId} {ad : Nat → Nat} {tL tC : Nat} {b0 : Nat} (hb_0_0 : b0 < 5) {S : Stt} {res : Stt} (hf : f_X0_empty b0 S = some res) : Ct l D cI cP cB cA 79 ad tL tC yX0_empty cX0_empty 1 none 1 [.ref (ad (34 + b0))] (cfC ad cI cP cB cA S) (QV D 79 ad (cfC ad cI cP cB cA res)) := by
  refine ctOf (by decide) (Nat.le_of_ble_eq_true rfl) ?_
  intro p e s m args below meth c ls X hr hlk hP hl
  have hS : va_S (Ar 79 ad) s.heap s.heap [] := va_S.rf
  have hx := X.1.1
  have hb := X.1.2.1
  have hl : lv_has ls 1 [(0, .ref (ad (34 + b0)))] := hl
  unfold f_X0_empty at hf
  refine lv_aload_n hx hb dX0_empty_0 rfl (lv_at hl 0 rfl) ?_
  refine lv_iconst (v := (0 : Int32)) hx hb dX0_empty_1 (by decide) ?_
  refine p_Book_count X hP hS hb_0_0 tw_24 dX0_empty_2 (fun H locs hP hS => ?_)
  cases hf
  exact rtV X hr hlk hP hS dX0_empty_5
/-! X0_havingWords -/
section
variable {p : Program} {l : Launch} {e : Env} {s : State} {m : MethodId} {args : Array Value} {below : List Frame} {meth : Method} {c : Code}
variable {D : va_G} {cI cP cB cA : ClassId} {ad : Nat → Nat} {tL tC : Nat}
set_option maxHeartbeats 4000000 in
set_option maxRecDepth 100000 in
theorem vb_X0_havingWords_4 (X : Cx D cI cP cB cA 79 ad tL tC p s m c cX0_havingWords 4 args RX0) (hr : meth.sig.returnType = (some .int)) (hlk : meth.locks = false) {res : Int32 × Stt} (kb : Nat → Int32 → Int32 → Int32 → Stt → Option (Int32 × Stt)) (ke : Int32 → Stt → Option (Int32 × Stt)) (hkb : ∀ (b0 : Nat) (x1 : Int32) (x2 : Int32) (x3 : Int32) (S : Stt) (H : Heap) (locs : List Loc) (ls : Array Slot), kb b0 x1 x2 x3 S = some res → b0 < 5 → va_P D vwCl (wl 79 ad (cfC ad cI cP cB cA S)) H → va_S (Ar 79 ad) s.heap H locs → lv_has ls 4 [(0, .ref (ad (34 + b0))), (1, .int x1), (2, .int x2), (3, .int x3)] → W p l e (rmD 1) s m args below meth c H locs 0 0 (MQ below (QI D 79 ad res.1 (cfC ad cI cP cB cA res.2)) args s 0 0 (Ar 79 ad)) (F0 m 4 ls [])) (hke : ∀ (x2 : Int32) (S : Stt) (H : Heap) (locs : List Loc) (ls : Array Slot), ke x2 S = some res → va_P D vwCl (wl 79 ad (cfC ad cI cP cB cA S)) H → va_S (Ar 79 ad) s.heap H locs → lv_has ls 4 [(2, .int x2)] → W p l e (rmD 1) s m args below meth c H locs 0 0 (MQ below (QI D 79 ad res.1 (cfC ad cI cP cB cA res.2)) args s 0 0 (Ar 79 ad)) (F0 m 48 ls [])) : ∀ (b0 : Nat) (x1 : Int32) (x2 : Int32) (x3 : Int32) (S : Stt) (H : Heap) (locs : List Loc) (ls : Array Slot), fb_X0_havingWords_4 kb ke b0 x1 x2 x3 S = some res → b0 < 5 → va_P D vwCl (wl 79 ad (cfC ad cI cP cB cA S)) H → va_S (Ar 79 ad) s.heap H locs → lv_has ls 4 [(0, .ref (ad (34 + b0))), (1, .int x1), (2, .int x2), (3, .int x3)] → W p l e (rmD 1) s m args below meth c H locs 0 0 (MQ below (QI D 79 ad res.1 (cfC ad cI cP cB cA res.2)) args s 0 0 (Ar 79 ad)) (F0 m 4 ls []) := by
  intro b0 x1 x2 x3 S H locs ls hf hb_0_0 hP hS hl
  have hx := X.1.1
  have hb := X.1.2.1
  unfold fb_X0_havingWords_4 at hf
  refine lv_iload_n hx hb dX0_havingWords_4 rfl (lv_at hl 3 rfl) ?_
  refine lv_aload_n hx hb dX0_havingWords_5 rfl (lv_at hl 0 rfl) ?_
  refine g_Book_count X hP hb_0_0 tw_24 dX0_havingWords_6 ?_
  refine lv_icmp_ge (tgt := 48) hx hb dX0_havingWords_9 (by decide) (fun c1 => ?_) (fun c1 => ?_)
  · rw [if_pos c1] at hf
    exact hke _ _ _ _ ls hf  hP hS (lv_sub hl [2] rfl)
  · rw [if_neg c1] at hf
    refine lv_aload_n hx hb dX0_havingWords_12 rfl (lv_at hl 0 rfl) ?_
    refine g_Book_pages X hP hb_0_0 tw_20 dX0_havingWords_13 ?_
    refine lv_iload_n hx hb dX0_havingWords_16 rfl (lv_at hl 3 rfl) ?_
    obtain ⟨g2, hf⟩ := grd_some hf
    refine q_pages X hP hb_0_0 g2 dX0_havingWords_17 ?_
    refine gN_Page_kind X hP hb_0_0 (ixb_lt g2) tw_3 dX0_havingWords_18 ?_
    refine lv_iconst (v := (3 : Int32)) hx hb dX0_havingWords_21 (by decide) ?_
    refine lv_icmp_eq (tgt := 42) hx hb dX0_havingWords_22 (by decide) (fun c3 => ?_) (fun c3 => ?_)
    · rw [if_pos c3] at hf
      refine lv_iinc (v := (x3 + (1 : Int32))) (lv' := [(3, .int (x3 + (1 : Int32))), (0, .ref (ad (34 + b0))), (1, .int x1), (2, .int x2)]) hx hb dX0_havingWords_42 hl (k := 3) rfl rfl (by decide) rfl (fun ls hl => ?_)
      refine lv_goto (tgt := 4) hx hb dX0_havingWords_45 (by decide) ?_
      exact hkb _ _ _ _ _ _ _ ls hf hb_0_0 hP hS (lv_sub hl [1, 2, 3, 0] rfl)
    · rw [if_neg c3] at hf
      refine lv_aload_n hx hb dX0_havingWords_25 rfl (lv_at hl 0 rfl) ?_
      refine g_Book_pages X hP hb_0_0 tw_20 dX0_havingWords_26 ?_
      refine lv_iload_n hx hb dX0_havingWords_29 rfl (lv_at hl 3 rfl) ?_
      obtain ⟨g4, hf⟩ := grd_some hf
      refine q_pages X hP hb_0_0 g4 dX0_havingWords_30 ?_
      refine gN_Page_words X hP hb_0_0 (ixb_lt g4) tw_11 dX0_havingWords_31 ?_
      refine lv_iload_n hx hb dX0_havingWords_34 rfl (lv_at hl 1 rfl) ?_
      refine lv_iand hx hb dX0_havingWords_35 ?_
      refine lv_if_eq (tgt := 42) hx hb dX0_havingWords_36 (by decide) (fun c5 => ?_) (fun c5 => ?_)
      · rw [if_pos c5] at hf
        refine lv_iinc (v := (x3 + (1 : Int32))) (lv' := [(3, .int (x3 + (1 : Int32))), (0, .ref (ad (34 + b0))), (1, .int x1), (2, .int x2)]) hx hb dX0_havingWords_42 hl (k := 3) rfl rfl (by decide) rfl (fun ls hl => ?_)
        refine lv_goto (tgt := 4) hx hb dX0_havingWords_45 (by decide) ?_
        exact hkb _ _ _ _ _ _ _ ls hf hb_0_0 hP hS (lv_sub hl [1, 2, 3, 0] rfl)
      · rw [if_neg c5] at hf
        refine lv_iinc (v := (x2 + (1 : Int32))) (lv' := [(2, .int (x2 + (1 : Int32))), (0, .ref (ad (34 + b0))), (1, .int x1), (3, .int x3)]) hx hb dX0_havingWords_39 hl (k := 2) rfl rfl (by decide) rfl (fun ls hl => ?_)
        refine lv_iinc (v := (x3 + (1 : Int32))) (lv' := [(3, .int (x3 + (1 : Int32))), (2, .int (x2 + (1 : Int32))), (0, .ref (ad (34 + b0))), (1, .int x1)]) hx hb dX0_havingWords_42 hl (k := 3) rfl rfl (by decide) rfl (fun ls hl => ?_)
        refine lv_goto (tgt := 4) hx hb dX0_havingWords_45 (by decide) ?_
        exact hkb _ _ _ _ _ _ _ ls hf hb_0_0 hP hS (lv_sub hl [2, 3, 1, 0] rfl)
set_option maxHeartbeats 4000000 in
set_option maxRecDepth 100000 in
theorem vl_X0_havingWords_4 (X : Cx D cI cP cB cA 79 ad tL tC p s m c cX0_havingWords 4 args RX0) (hr : meth.sig.returnType = (some .int)) (hlk : meth.locks = false) {res : Int32 × Stt} (ke : Int32 → Stt → Option (Int32 × Stt)) (hke : ∀ (x2 : Int32) (S : Stt) (H : Heap) (locs : List Loc) (ls : Array Slot), ke x2 S = some res → va_P D vwCl (wl 79 ad (cfC ad cI cP cB cA S)) H → va_S (Ar 79 ad) s.heap H locs → lv_has ls 4 [(2, .int x2)] → W p l e (rmD 1) s m args below meth c H locs 0 0 (MQ below (QI D 79 ad res.1 (cfC ad cI cP cB cA res.2)) args s 0 0 (Ar 79 ad)) (F0 m 48 ls [])) : ∀ (n : Nat), ∀ (b0 : Nat) (x1 : Int32) (x2 : Int32) (x3 : Int32) (S : Stt) (H : Heap) (locs : List Loc) (ls : Array Slot), fl_X0_havingWords_4 ke n b0 x1 x2 x3 S = some res → b0 < 5 → va_P D vwCl (wl 79 ad (cfC ad cI cP cB cA S)) H → va_S (Ar 79 ad) s.heap H locs → lv_has ls 4 [(0, .ref (ad (34 + b0))), (1, .int x1), (2, .int x2), (3, .int x3)] → W p l e (rmD 1) s m args below meth c H locs 0 0 (MQ below (QI D 79 ad res.1 (cfC ad cI cP cB cA res.2)) args s 0 0 (Ar 79 ad)) (F0 m 4 ls []) := by
  intro n
  induction n with
  | zero =>
    intro b0 x1 x2 x3 S H locs ls hf hb_0_0 hP hS hl
    cases hf
  | succ n ih =>
    intro b0 x1 x2 x3 S H locs ls hf hb_0_0 hP hS hl
    exact vb_X0_havingWords_4 X hr hlk _ ke ih hke b0 x1 x2 x3 S H locs ls hf hb_0_0 hP hS hl
end
set_option maxHeartbeats 4000000 in
set_option maxRecDepth 100000 in
theorem m_X0_havingWords {l : Launch} {D : va_G} {cI cP cB cA : ClassId} {ad : Nat → Nat} {tL tC : Nat} {b0 : Nat} {x1 : Int32} (hb_0_0 : b0 < 5) {S : Stt} {res : Int32 × Stt} (hf : f_X0_havingWords b0 x1 S = some res) : Ct l D cI cP cB cA 79 ad tL tC yX0_havingWords cX0_havingWords 4 (some .int) 1 [.ref (ad (34 + b0)), .int x1] (cfC ad cI cP cB cA S) (QI D 79 ad res.1 (cfC ad cI cP cB cA res.2)) := by
  refine ctOf (by decide) (Nat.le_of_ble_eq_true rfl) ?_
  intro p e s m args below meth c ls X hr hlk hP hl
  have hS : va_S (Ar 79 ad) s.heap s.heap [] := va_S.rf
  have hx := X.1.1
  have hb := X.1.2.1
  have hl : lv_has ls 4 [(0, .ref (ad (34 + b0))), (1, .int x1)] := hl
  unfold f_X0_havingWords at hf
  refine lv_iconst (v := (0 : Int32)) hx hb dX0_havingWords_0 (by decide) ?_
  refine lv_istore_n (lv' := [(2, .int (0 : Int32)), (0, .ref (ad (34 + b0))), (1, .int x1)]) hx hb dX0_havingWords_1 rfl hl (by decide) rfl (fun ls hl => ?_)
  refine lv_iconst (v := (0 : Int32)) hx hb dX0_havingWords_2 (by decide) ?_
  refine lv_istore_n (lv' := [(3, .int (0 : Int32)), (2, .int (0 : Int32)), (0, .ref (ad (34 + b0))), (1, .int x1)]) hx hb dX0_havingWords_3 rfl hl (by decide) rfl (fun ls hl => ?_)
  refine vl_X0_havingWords_4 X hr hlk _ ?_ 300 _ _ _ _ _ _ _ ls hf hb_0_0 hP hS (lv_sub hl [2, 3, 1, 0] rfl)
  intro x2 S H locs ls hf hP hS hl
  refine lv_iload_n hx hb dX0_havingWords_48 rfl (lv_at hl 0 rfl) ?_
  cases hf
  exact rtI X hr hlk hP hS dX0_havingWords_49
/-! X0_isOne -/
section
variable {p : Program} {l : Launch} {e : Env} {s : State} {m : MethodId} {args : Array Value} {below : List Frame} {meth : Method} {c : Code}
variable {D : va_G} {cI cP cB cA : ClassId} {ad : Nat → Nat} {tL tC : Nat}
end
set_option maxHeartbeats 4000000 in
set_option maxRecDepth 100000 in
theorem m_X0_isOne {l : Launch} {D : va_G} {cI cP cB cA : ClassId} {ad : Nat → Nat} {tL tC : Nat} {b0 : Nat} {x1 : Int32} (hb_0_0 : b0 < 5) {S : Stt} {res : Int32 × Stt} (hf : f_X0_isOne b0 x1 S = some res) : Ct l D cI cP cB cA 79 ad tL tC yX0_isOne cX0_isOne 2 (some .boolean) 1 [.ref (ad (34 + b0)), .int x1] (cfC ad cI cP cB cA S) (QI D 79 ad res.1 (cfC ad cI cP cB cA res.2)) := by
  refine ctOf (by decide) (Nat.le_of_ble_eq_true rfl) ?_
  intro p e s m args below meth c ls X hr hlk hP hl
  have hS : va_S (Ar 79 ad) s.heap s.heap [] := va_S.rf
  have hx := X.1.1
  have hb := X.1.2.1
  have hl : lv_has ls 2 [(0, .ref (ad (34 + b0))), (1, .int x1)] := hl
  unfold f_X0_isOne at hf
  refine lv_iload_n hx hb dX0_isOne_0 rfl (lv_at hl 1 rfl) ?_
  refine lv_if_lt (tgt := 16) hx hb dX0_isOne_1 (by decide) (fun c1 => ?_) (fun c1 => ?_)
  · rw [if_pos c1] at hf
    refine lv_iconst (v := (0 : Int32)) hx hb dX0_isOne_16 (by decide) ?_
    cases hf
    exact rtZ X hr hlk hP hS (Or.inl rfl) dX0_isOne_17
  · rw [if_neg c1] at hf
    refine lv_iload_n hx hb dX0_isOne_4 rfl (lv_at hl 1 rfl) ?_
    refine lv_aload_n hx hb dX0_isOne_5 rfl (lv_at hl 0 rfl) ?_
    refine g_Book_count X hP hb_0_0 tw_24 dX0_isOne_6 ?_
    refine lv_icmp_ge (tgt := 16) hx hb dX0_isOne_9 (by decide) (fun c2 => ?_) (fun c2 => ?_)
    · rw [if_pos c2] at hf
      refine lv_iconst (v := (0 : Int32)) hx hb dX0_isOne_16 (by decide) ?_
      cases hf
      exact rtZ X hr hlk hP hS (Or.inl rfl) dX0_isOne_17
    · rw [if_neg c2] at hf
      refine lv_iconst (v := (1 : Int32)) hx hb dX0_isOne_12 (by decide) ?_
      refine lv_goto (tgt := 17) hx hb dX0_isOne_13 (by decide) ?_
      cases hf
      exact rtZ X hr hlk hP hS (Or.inr rfl) dX0_isOne_17
/-! X0_pageReadOn -/
section
variable {p : Program} {l : Launch} {e : Env} {s : State} {m : MethodId} {args : Array Value} {below : List Frame} {meth : Method} {c : Code}
variable {D : va_G} {cI cP cB cA : ClassId} {ad : Nat → Nat} {tL tC : Nat}
set_option maxHeartbeats 4000000 in
set_option maxRecDepth 100000 in
theorem vb_X0_pageReadOn_2 (X : Cx D cI cP cB cA 79 ad tL tC p s m c cX0_pageReadOn 3 args RX0) (hr : meth.sig.returnType = (some .int)) (hlk : meth.locks = false) {res : Int32 × Stt} (kb : Nat → Int32 → Int32 → Stt → Option (Int32 × Stt)) (ke : Stt → Option (Int32 × Stt)) (hkb : ∀ (b0 : Nat) (x1 : Int32) (x2 : Int32) (S : Stt) (H : Heap) (locs : List Loc) (ls : Array Slot), kb b0 x1 x2 S = some res → b0 < 5 → va_P D vwCl (wl 79 ad (cfC ad cI cP cB cA S)) H → va_S (Ar 79 ad) s.heap H locs → lv_has ls 3 [(0, .ref (ad (34 + b0))), (1, .int x1), (2, .int x2)] → W p l e (rmD 1) s m args below meth c H locs 0 0 (MQ below (QI D 79 ad res.1 (cfC ad cI cP cB cA res.2)) args s 0 0 (Ar 79 ad)) (F0 m 2 ls [])) (hke : ∀ (S : Stt) (H : Heap) (locs : List Loc) (ls : Array Slot), ke S = some res → va_P D vwCl (wl 79 ad (cfC ad cI cP cB cA S)) H → va_S (Ar 79 ad) s.heap H locs → lv_has ls 3 [] → W p l e (rmD 1) s m args below meth c H locs 0 0 (MQ below (QI D 79 ad res.1 (cfC ad cI cP cB cA res.2)) args s 0 0 (Ar 79 ad)) (F0 m 31 ls [])) : ∀ (b0 : Nat) (x1 : Int32) (x2 : Int32) (S : Stt) (H : Heap) (locs : List Loc) (ls : Array Slot), fb_X0_pageReadOn_2 kb ke b0 x1 x2 S = some res → b0 < 5 → va_P D vwCl (wl 79 ad (cfC ad cI cP cB cA S)) H → va_S (Ar 79 ad) s.heap H locs → lv_has ls 3 [(0, .ref (ad (34 + b0))), (1, .int x1), (2, .int x2)] → W p l e (rmD 1) s m args below meth c H locs 0 0 (MQ below (QI D 79 ad res.1 (cfC ad cI cP cB cA res.2)) args s 0 0 (Ar 79 ad)) (F0 m 2 ls []) := by
  intro b0 x1 x2 S H locs ls hf hb_0_0 hP hS hl
  have hx := X.1.1
  have hb := X.1.2.1
  unfold fb_X0_pageReadOn_2 at hf
  refine lv_iload_n hx hb dX0_pageReadOn_2 rfl (lv_at hl 2 rfl) ?_
  refine lv_aload_n hx hb dX0_pageReadOn_3 rfl (lv_at hl 0 rfl) ?_
  refine g_Book_count X hP hb_0_0 tw_24 dX0_pageReadOn_4 ?_
  refine lv_icmp_ge (tgt := 31) hx hb dX0_pageReadOn_7 (by decide) (fun c1 => ?_) (fun c1 => ?_)
  · rw [if_pos c1] at hf
    exact hke  _ _ _ ls hf  hP hS (lv_sub hl [] rfl)
  · rw [if_neg c1] at hf
    refine lv_aload_n hx hb dX0_pageReadOn_10 rfl (lv_at hl 0 rfl) ?_
    refine g_Book_pages X hP hb_0_0 tw_20 dX0_pageReadOn_11 ?_
    refine lv_iload_n hx hb dX0_pageReadOn_14 rfl (lv_at hl 2 rfl) ?_
    obtain ⟨g2, hf⟩ := grd_some hf
    refine q_pages X hP hb_0_0 g2 dX0_pageReadOn_15 ?_
    refine gN_Page_day X hP hb_0_0 (ixb_lt g2) tw_17 dX0_pageReadOn_16 ?_
    refine lv_iload_n hx hb dX0_pageReadOn_19 rfl (lv_at hl 1 rfl) ?_
    refine lv_icmp_ne (tgt := 25) hx hb dX0_pageReadOn_20 (by decide) (fun c3 => ?_) (fun c3 => ?_)
    · rw [if_neg c3] at hf
      refine lv_iinc (v := (x2 + (1 : Int32))) (lv' := [(2, .int (x2 + (1 : Int32))), (0, .ref (ad (34 + b0))), (1, .int x1)]) hx hb dX0_pageReadOn_25 hl (k := 2) rfl rfl (by decide) rfl (fun ls hl => ?_)
      refine lv_goto (tgt := 2) hx hb dX0_pageReadOn_28 (by decide) ?_
      exact hkb _ _ _ _ _ _ ls hf hb_0_0 hP hS (lv_sub hl [1, 2, 0] rfl)
    · rw [if_pos c3] at hf
      refine lv_iload_n hx hb dX0_pageReadOn_23 rfl (lv_at hl 2 rfl) ?_
      cases hf
      exact rtI X hr hlk hP hS dX0_pageReadOn_24
set_option maxHeartbeats 4000000 in
set_option maxRecDepth 100000 in
theorem vl_X0_pageReadOn_2 (X : Cx D cI cP cB cA 79 ad tL tC p s m c cX0_pageReadOn 3 args RX0) (hr : meth.sig.returnType = (some .int)) (hlk : meth.locks = false) {res : Int32 × Stt} (ke : Stt → Option (Int32 × Stt)) (hke : ∀ (S : Stt) (H : Heap) (locs : List Loc) (ls : Array Slot), ke S = some res → va_P D vwCl (wl 79 ad (cfC ad cI cP cB cA S)) H → va_S (Ar 79 ad) s.heap H locs → lv_has ls 3 [] → W p l e (rmD 1) s m args below meth c H locs 0 0 (MQ below (QI D 79 ad res.1 (cfC ad cI cP cB cA res.2)) args s 0 0 (Ar 79 ad)) (F0 m 31 ls [])) : ∀ (n : Nat), ∀ (b0 : Nat) (x1 : Int32) (x2 : Int32) (S : Stt) (H : Heap) (locs : List Loc) (ls : Array Slot), fl_X0_pageReadOn_2 ke n b0 x1 x2 S = some res → b0 < 5 → va_P D vwCl (wl 79 ad (cfC ad cI cP cB cA S)) H → va_S (Ar 79 ad) s.heap H locs → lv_has ls 3 [(0, .ref (ad (34 + b0))), (1, .int x1), (2, .int x2)] → W p l e (rmD 1) s m args below meth c H locs 0 0 (MQ below (QI D 79 ad res.1 (cfC ad cI cP cB cA res.2)) args s 0 0 (Ar 79 ad)) (F0 m 2 ls []) := by
  intro n
  induction n with
  | zero =>
    intro b0 x1 x2 S H locs ls hf hb_0_0 hP hS hl
    cases hf
  | succ n ih =>
    intro b0 x1 x2 S H locs ls hf hb_0_0 hP hS hl
    exact vb_X0_pageReadOn_2 X hr hlk _ ke ih hke b0 x1 x2 S H locs ls hf hb_0_0 hP hS hl
end
set_option maxHeartbeats 4000000 in
set_option maxRecDepth 100000 in
theorem m_X0_pageReadOn {l : Launch} {D : va_G} {cI cP cB cA : ClassId} {ad : Nat → Nat} {tL tC : Nat} {b0 : Nat} {x1 : Int32} (hb_0_0 : b0 < 5) {S : Stt} {res : Int32 × Stt} (hf : f_X0_pageReadOn b0 x1 S = some res) : Ct l D cI cP cB cA 79 ad tL tC yX0_pageReadOn cX0_pageReadOn 3 (some .int) 1 [.ref (ad (34 + b0)), .int x1] (cfC ad cI cP cB cA S) (QI D 79 ad res.1 (cfC ad cI cP cB cA res.2)) := by
  refine ctOf (by decide) (Nat.le_of_ble_eq_true rfl) ?_
  intro p e s m args below meth c ls X hr hlk hP hl
  have hS : va_S (Ar 79 ad) s.heap s.heap [] := va_S.rf
  have hx := X.1.1
  have hb := X.1.2.1
  have hl : lv_has ls 3 [(0, .ref (ad (34 + b0))), (1, .int x1)] := hl
  unfold f_X0_pageReadOn at hf
  refine lv_iconst (v := (0 : Int32)) hx hb dX0_pageReadOn_0 (by decide) ?_
  refine lv_istore_n (lv' := [(2, .int (0 : Int32)), (0, .ref (ad (34 + b0))), (1, .int x1)]) hx hb dX0_pageReadOn_1 rfl hl (by decide) rfl (fun ls hl => ?_)
  refine vl_X0_pageReadOn_2 X hr hlk _ ?_ 300 _ _ _ _ _ _ ls hf hb_0_0 hP hS (lv_sub hl [1, 2, 0] rfl)
  intro S H locs ls hf hP hS hl
  refine lv_bipush (v := (-9 : Int32)) hx hb dX0_pageReadOn_31 (by decide) ?_
  cases hf
  exact rtI X hr hlk hP hS dX0_pageReadOn_33
/-! X0_turnFromEnd -/
section
variable {p : Program} {l : Launch} {e : Env} {s : State} {m : MethodId} {args : Array Value} {below : List Frame} {meth : Method} {c : Code}
variable {D : va_G} {cI cP cB cA : ClassId} {ad : Nat → Nat} {tL tC : Nat}
set_option maxHeartbeats 4000000 in
set_option maxRecDepth 100000 in
theorem vb_X0_turnFromEnd_2 (X : Cx D cI cP cB cA 79 ad tL tC p s m c cX0_turnFromEnd 2 args RX0) (hr : meth.sig.returnType = none) (hlk : meth.locks = false) {res : Stt} (kb : Nat → Int32 → Stt → Option (Stt)) (ke : Stt → Option (Stt)) (hkb : ∀ (b0 : Nat) (x1 : Int32) (S : Stt) (H : Heap) (locs : List Loc) (ls : Array Slot), kb b0 x1 S = some res → b0 < 5 → va_P D vwCl (wl 79 ad (cfC ad cI cP cB cA S)) H → va_S (Ar 79 ad) s.heap H locs → lv_has ls 2 [(0, .ref (ad (34 + b0))), (1, .int x1)] → W p l e (rmD 1) s m args below meth c H locs 0 0 (MQ below (QV D 79 ad (cfC ad cI cP cB cA res)) args s 0 0 (Ar 79 ad)) (F0 m 2 ls [])) (hke : ∀ (S : Stt) (H : Heap) (locs : List Loc) (ls : Array Slot), ke S = some res → va_P D vwCl (wl 79 ad (cfC ad cI cP cB cA S)) H → va_S (Ar 79 ad) s.heap H locs → lv_has ls 2 [] → W p l e (rmD 1) s m args below meth c H locs 0 0 (MQ below (QV D 79 ad (cfC ad cI cP cB cA res)) args s 0 0 (Ar 79 ad)) (F0 m 33 ls [])) : ∀ (b0 : Nat) (x1 : Int32) (S : Stt) (H : Heap) (locs : List Loc) (ls : Array Slot), fb_X0_turnFromEnd_2 kb ke b0 x1 S = some res → b0 < 5 → va_P D vwCl (wl 79 ad (cfC ad cI cP cB cA S)) H → va_S (Ar 79 ad) s.heap H locs → lv_has ls 2 [(0, .ref (ad (34 + b0))), (1, .int x1)] → W p l e (rmD 1) s m args below meth c H locs 0 0 (MQ below (QV D 79 ad (cfC ad cI cP cB cA res)) args s 0 0 (Ar 79 ad)) (F0 m 2 ls []) := by
  intro b0 x1 S H locs ls hf hb_0_0 hP hS hl
  have hx := X.1.1
  have hb := X.1.2.1
  unfold fb_X0_turnFromEnd_2 at hf
  refine lv_iload_n hx hb dX0_turnFromEnd_2 rfl (lv_at hl 1 rfl) ?_
  refine lv_aload_n hx hb dX0_turnFromEnd_3 rfl (lv_at hl 0 rfl) ?_
  refine g_Book_count X hP hb_0_0 tw_24 dX0_turnFromEnd_4 ?_
  refine lv_icmp_ge (tgt := 33) hx hb dX0_turnFromEnd_7 (by decide) (fun c1 => ?_) (fun c1 => ?_)
  · rw [if_pos c1] at hf
    exact hke  _ _ _ ls hf  hP hS (lv_sub hl [] rfl)
  · rw [if_neg c1] at hf
    refine lv_aload_n hx hb dX0_turnFromEnd_10 rfl (lv_at hl 0 rfl) ?_
    refine g_Book_pages X hP hb_0_0 tw_20 dX0_turnFromEnd_11 ?_
    refine lv_iload_n hx hb dX0_turnFromEnd_14 rfl (lv_at hl 1 rfl) ?_
    obtain ⟨g2, hf⟩ := grd_some hf
    refine q_pages X hP hb_0_0 g2 dX0_turnFromEnd_15 ?_
    refine lv_aload_n hx hb dX0_turnFromEnd_16 rfl (lv_at hl 0 rfl) ?_
    refine g_Book_count X hP hb_0_0 tw_24 dX0_turnFromEnd_17 ?_
    refine lv_iconst (v := (1 : Int32)) hx hb dX0_turnFromEnd_20 (by decide) ?_
    refine lv_isub hx hb dX0_turnFromEnd_21 ?_
    refine lv_iload_n hx hb dX0_turnFromEnd_22 rfl (lv_at hl 1 rfl) ?_
    refine lv_isub hx hb dX0_turnFromEnd_23 ?_
    refine pN_Page_day X hP hS hb_0_0 (ixb_lt g2) tw_17 dX0_turnFromEnd_24 (fun H locs hP hS => ?_)
    refine lv_iinc (v := (x1 + (1 : Int32))) (lv' := [(1, .int (x1 + (1 : Int32))), (0, .ref (ad (34 + b0)))]) hx hb dX0_turnFromEnd_27 hl (k := 1) rfl rfl (by decide) rfl (fun ls hl => ?_)
    refine lv_goto (tgt := 2) hx hb dX0_turnFromEnd_30 (by decide) ?_
    exact hkb _ _ _ _ _ ls hf hb_0_0 hP hS (lv_sub hl [1, 0] rfl)
set_option maxHeartbeats 4000000 in
set_option maxRecDepth 100000 in
theorem vl_X0_turnFromEnd_2 (X : Cx D cI cP cB cA 79 ad tL tC p s m c cX0_turnFromEnd 2 args RX0) (hr : meth.sig.returnType = none) (hlk : meth.locks = false) {res : Stt} (ke : Stt → Option (Stt)) (hke : ∀ (S : Stt) (H : Heap) (locs : List Loc) (ls : Array Slot), ke S = some res → va_P D vwCl (wl 79 ad (cfC ad cI cP cB cA S)) H → va_S (Ar 79 ad) s.heap H locs → lv_has ls 2 [] → W p l e (rmD 1) s m args below meth c H locs 0 0 (MQ below (QV D 79 ad (cfC ad cI cP cB cA res)) args s 0 0 (Ar 79 ad)) (F0 m 33 ls [])) : ∀ (n : Nat), ∀ (b0 : Nat) (x1 : Int32) (S : Stt) (H : Heap) (locs : List Loc) (ls : Array Slot), fl_X0_turnFromEnd_2 ke n b0 x1 S = some res → b0 < 5 → va_P D vwCl (wl 79 ad (cfC ad cI cP cB cA S)) H → va_S (Ar 79 ad) s.heap H locs → lv_has ls 2 [(0, .ref (ad (34 + b0))), (1, .int x1)] → W p l e (rmD 1) s m args below meth c H locs 0 0 (MQ below (QV D 79 ad (cfC ad cI cP cB cA res)) args s 0 0 (Ar 79 ad)) (F0 m 2 ls []) := by
  intro n
  induction n with
  | zero =>
    intro b0 x1 S H locs ls hf hb_0_0 hP hS hl
    cases hf
  | succ n ih =>
    intro b0 x1 S H locs ls hf hb_0_0 hP hS hl
    exact vb_X0_turnFromEnd_2 X hr hlk _ ke ih hke b0 x1 S H locs ls hf hb_0_0 hP hS hl
end
set_option maxHeartbeats 4000000 in
set_option maxRecDepth 100000 in
theorem m_X0_turnFromEnd {l : Launch} {D : va_G} {cI cP cB cA : ClassId} {ad : Nat → Nat} {tL tC : Nat} {b0 : Nat} (hb_0_0 : b0 < 5) {S : Stt} {res : Stt} (hf : f_X0_turnFromEnd b0 S = some res) : Ct l D cI cP cB cA 79 ad tL tC yX0_turnFromEnd cX0_turnFromEnd 2 none 1 [.ref (ad (34 + b0))] (cfC ad cI cP cB cA S) (QV D 79 ad (cfC ad cI cP cB cA res)) := by
  refine ctOf (by decide) (Nat.le_of_ble_eq_true rfl) ?_
  intro p e s m args below meth c ls X hr hlk hP hl
  have hS : va_S (Ar 79 ad) s.heap s.heap [] := va_S.rf
  have hx := X.1.1
  have hb := X.1.2.1
  have hl : lv_has ls 2 [(0, .ref (ad (34 + b0)))] := hl
  unfold f_X0_turnFromEnd at hf
  refine lv_iconst (v := (0 : Int32)) hx hb dX0_turnFromEnd_0 (by decide) ?_
  refine lv_istore_n (lv' := [(1, .int (0 : Int32)), (0, .ref (ad (34 + b0)))]) hx hb dX0_turnFromEnd_1 rfl hl (by decide) rfl (fun ls hl => ?_)
  refine vl_X0_turnFromEnd_2 X hr hlk _ ?_ 300 _ _ _ _ _ ls hf hb_0_0 hP hS (lv_sub hl [1, 0] rfl)
  intro S H locs ls hf hP hS hl
  cases hf
  exact rtV X hr hlk hP hS dX0_turnFromEnd_33
/-! X0_turnFromFront -/
section
variable {p : Program} {l : Launch} {e : Env} {s : State} {m : MethodId} {args : Array Value} {below : List Frame} {meth : Method} {c : Code}
variable {D : va_G} {cI cP cB cA : ClassId} {ad : Nat → Nat} {tL tC : Nat}
set_option maxHeartbeats 4000000 in
set_option maxRecDepth 100000 in
theorem vb_X0_turnFromFront_2 (X : Cx D cI cP cB cA 79 ad tL tC p s m c cX0_turnFromFront 2 args RX0) (hr : meth.sig.returnType = none) (hlk : meth.locks = false) {res : Stt} (kb : Nat → Int32 → Stt → Option (Stt)) (ke : Stt → Option (Stt)) (hkb : ∀ (b0 : Nat) (x1 : Int32) (S : Stt) (H : Heap) (locs : List Loc) (ls : Array Slot), kb b0 x1 S = some res → b0 < 5 → va_P D vwCl (wl 79 ad (cfC ad cI cP cB cA S)) H → va_S (Ar 79 ad) s.heap H locs → lv_has ls 2 [(0, .ref (ad (34 + b0))), (1, .int x1)] → W p l e (rmD 1) s m args below meth c H locs 0 0 (MQ below (QV D 79 ad (cfC ad cI cP cB cA res)) args s 0 0 (Ar 79 ad)) (F0 m 2 ls [])) (hke : ∀ (S : Stt) (H : Heap) (locs : List Loc) (ls : Array Slot), ke S = some res → va_P D vwCl (wl 79 ad (cfC ad cI cP cB cA S)) H → va_S (Ar 79 ad) s.heap H locs → lv_has ls 2 [] → W p l e (rmD 1) s m args below meth c H locs 0 0 (MQ below (QV D 79 ad (cfC ad cI cP cB cA res)) args s 0 0 (Ar 79 ad)) (F0 m 26 ls [])) : ∀ (b0 : Nat) (x1 : Int32) (S : Stt) (H : Heap) (locs : List Loc) (ls : Array Slot), fb_X0_turnFromFront_2 kb ke b0 x1 S = some res → b0 < 5 → va_P D vwCl (wl 79 ad (cfC ad cI cP cB cA S)) H → va_S (Ar 79 ad) s.heap H locs → lv_has ls 2 [(0, .ref (ad (34 + b0))), (1, .int x1)] → W p l e (rmD 1) s m args below meth c H locs 0 0 (MQ below (QV D 79 ad (cfC ad cI cP cB cA res)) args s 0 0 (Ar 79 ad)) (F0 m 2 ls []) := by
  intro b0 x1 S H locs ls hf hb_0_0 hP hS hl
  have hx := X.1.1
  have hb := X.1.2.1
  unfold fb_X0_turnFromFront_2 at hf
  refine lv_iload_n hx hb dX0_turnFromFront_2 rfl (lv_at hl 1 rfl) ?_
  refine lv_aload_n hx hb dX0_turnFromFront_3 rfl (lv_at hl 0 rfl) ?_
  refine g_Book_count X hP hb_0_0 tw_24 dX0_turnFromFront_4 ?_
  refine lv_icmp_ge (tgt := 26) hx hb dX0_turnFromFront_7 (by decide) (fun c1 => ?_) (fun c1 => ?_)
  · rw [if_pos c1] at hf
    exact hke  _ _ _ ls hf  hP hS (lv_sub hl [] rfl)
  · rw [if_neg c1] at hf
    refine lv_aload_n hx hb dX0_turnFromFront_10 rfl (lv_at hl 0 rfl) ?_
    refine g_Book_pages X hP hb_0_0 tw_20 dX0_turnFromFront_11 ?_
    refine lv_iload_n hx hb dX0_turnFromFront_14 rfl (lv_at hl 1 rfl) ?_
    obtain ⟨g2, hf⟩ := grd_some hf
    refine q_pages X hP hb_0_0 g2 dX0_turnFromFront_15 ?_
    refine lv_iload_n hx hb dX0_turnFromFront_16 rfl (lv_at hl 1 rfl) ?_
    refine pN_Page_day X hP hS hb_0_0 (ixb_lt g2) tw_17 dX0_turnFromFront_17 (fun H locs hP hS => ?_)
    refine lv_iinc (v := (x1 + (1 : Int32))) (lv' := [(1, .int (x1 + (1 : Int32))), (0, .ref (ad (34 + b0)))]) hx hb dX0_turnFromFront_20 hl (k := 1) rfl rfl (by decide) rfl (fun ls hl => ?_)
    refine lv_goto (tgt := 2) hx hb dX0_turnFromFront_23 (by decide) ?_
    exact hkb _ _ _ _ _ ls hf hb_0_0 hP hS (lv_sub hl [1, 0] rfl)
set_option maxHeartbeats 4000000 in
set_option maxRecDepth 100000 in
theorem vl_X0_turnFromFront_2 (X : Cx D cI cP cB cA 79 ad tL tC p s m c cX0_turnFromFront 2 args RX0) (hr : meth.sig.returnType = none) (hlk : meth.locks = false) {res : Stt} (ke : Stt → Option (Stt)) (hke : ∀ (S : Stt) (H : Heap) (locs : List Loc) (ls : Array Slot), ke S = some res → va_P D vwCl (wl 79 ad (cfC ad cI cP cB cA S)) H → va_S (Ar 79 ad) s.heap H locs → lv_has ls 2 [] → W p l e (rmD 1) s m args below meth c H locs 0 0 (MQ below (QV D 79 ad (cfC ad cI cP cB cA res)) args s 0 0 (Ar 79 ad)) (F0 m 26 ls [])) : ∀ (n : Nat), ∀ (b0 : Nat) (x1 : Int32) (S : Stt) (H : Heap) (locs : List Loc) (ls : Array Slot), fl_X0_turnFromFront_2 ke n b0 x1 S = some res → b0 < 5 → va_P D vwCl (wl 79 ad (cfC ad cI cP cB cA S)) H → va_S (Ar 79 ad) s.heap H locs → lv_has ls 2 [(0, .ref (ad (34 + b0))), (1, .int x1)] → W p l e (rmD 1) s m args below meth c H locs 0 0 (MQ below (QV D 79 ad (cfC ad cI cP cB cA res)) args s 0 0 (Ar 79 ad)) (F0 m 2 ls []) := by
  intro n
  induction n with
  | zero =>
    intro b0 x1 S H locs ls hf hb_0_0 hP hS hl
    cases hf
  | succ n ih =>
    intro b0 x1 S H locs ls hf hb_0_0 hP hS hl
    exact vb_X0_turnFromFront_2 X hr hlk _ ke ih hke b0 x1 S H locs ls hf hb_0_0 hP hS hl
end
set_option maxHeartbeats 4000000 in
set_option maxRecDepth 100000 in
theorem m_X0_turnFromFront {l : Launch} {D : va_G} {cI cP cB cA : ClassId} {ad : Nat → Nat} {tL tC : Nat} {b0 : Nat} (hb_0_0 : b0 < 5) {S : Stt} {res : Stt} (hf : f_X0_turnFromFront b0 S = some res) : Ct l D cI cP cB cA 79 ad tL tC yX0_turnFromFront cX0_turnFromFront 2 none 1 [.ref (ad (34 + b0))] (cfC ad cI cP cB cA S) (QV D 79 ad (cfC ad cI cP cB cA res)) := by
  refine ctOf (by decide) (Nat.le_of_ble_eq_true rfl) ?_
  intro p e s m args below meth c ls X hr hlk hP hl
  have hS : va_S (Ar 79 ad) s.heap s.heap [] := va_S.rf
  have hx := X.1.1
  have hb := X.1.2.1
  have hl : lv_has ls 2 [(0, .ref (ad (34 + b0)))] := hl
  unfold f_X0_turnFromFront at hf
  refine lv_iconst (v := (0 : Int32)) hx hb dX0_turnFromFront_0 (by decide) ?_
  refine lv_istore_n (lv' := [(1, .int (0 : Int32)), (0, .ref (ad (34 + b0)))]) hx hb dX0_turnFromFront_1 rfl hl (by decide) rfl (fun ls hl => ?_)
  refine vl_X0_turnFromFront_2 X hr hlk _ ?_ 300 _ _ _ _ _ ls hf hb_0_0 hP hS (lv_sub hl [1, 0] rfl)
  intro S H locs ls hf hP hS hl
  cases hf
  exact rtV X hr hlk hP hS dX0_turnFromFront_26
/-! X1_note -/
section
variable {p : Program} {l : Launch} {e : Env} {s : State} {m : MethodId} {args : Array Value} {below : List Frame} {meth : Method} {c : Code}
variable {D : va_G} {cI cP cB cA : ClassId} {ad : Nat → Nat} {tL tC : Nat}
end
set_option maxHeartbeats 4000000 in
set_option maxRecDepth 100000 in
theorem m_X1_note {l : Launch} {D : va_G} {cI cP cB cA : ClassId} {ad : Nat → Nat} {tL tC : Nat} {x1 : Int32} {S : Stt} {res : Stt} (hf : f_X1_note x1 S = some res) : Ct l D cI cP cB cA 79 ad tL tC yX1_note cX1_note 2 none 1 [.ref (ad 8), .int x1] (cfC ad cI cP cB cA S) (QV D 79 ad (cfC ad cI cP cB cA res)) := by
  refine ctOf (by decide) (Nat.le_of_ble_eq_true rfl) ?_
  intro p e s m args below meth c ls X hr hlk hP hl
  have hS : va_S (Ar 79 ad) s.heap s.heap [] := va_S.rf
  have hx := X.1.1
  have hb := X.1.2.1
  have hl : lv_has ls 2 [(0, .ref (ad 8)), (1, .int x1)] := hl
  unfold f_X1_note at hf
  refine lv_aload_n hx hb dX1_note_0 rfl (lv_at hl 0 rfl) ?_
  refine g_Court_heard X hP  tw_35 dX1_note_1 ?_
  refine lv_bipush (v := (25 : Int32)) hx hb dX1_note_4 (by decide) ?_
  refine lv_icmp_lt (tgt := 10) hx hb dX1_note_6 (by decide) (fun c1 => ?_) (fun c1 => ?_)
  · rw [if_pos c1] at hf
    refine lv_aload_n hx hb dX1_note_10 rfl (lv_at hl 0 rfl) ?_
    refine g_Court_ones X hP  tw_34 dX1_note_11 ?_
    refine lv_aload_n hx hb dX1_note_14 rfl (lv_at hl 0 rfl) ?_
    refine lv_dup hx hb dX1_note_15 rfl ?_
    refine g_Court_heard X hP  tw_35 dX1_note_16 ?_
    refine lv_dup_x1 hx hb dX1_note_19 rfl rfl ?_
    refine lv_iconst (v := (1 : Int32)) hx hb dX1_note_20 (by decide) ?_
    refine lv_iadd hx hb dX1_note_21 ?_
    refine p_Court_heard X hP hS  tw_35 dX1_note_22 (fun H locs hP hS => ?_)
    refine lv_iload_n hx hb dX1_note_25 rfl (lv_at hl 1 rfl) ?_
    obtain ⟨g2, hf⟩ := grd_some hf
    refine w_ones X hP hS  g2 dX1_note_26 (fun H locs hP hS => ?_)
    refine lv_aload_n hx hb dX1_note_27 rfl (lv_at hl 0 rfl) ?_
    refine lv_dup hx hb dX1_note_28 rfl ?_
    refine g_Court_always X hP  tw_37 dX1_note_29 ?_
    refine lv_iload_n hx hb dX1_note_32 rfl (lv_at hl 1 rfl) ?_
    refine lv_iand hx hb dX1_note_33 ?_
    refine p_Court_always X hP hS  tw_37 dX1_note_34 (fun H locs hP hS => ?_)
    refine lv_aload_n hx hb dX1_note_37 rfl (lv_at hl 0 rfl) ?_
    refine lv_dup hx hb dX1_note_38 rfl ?_
    refine g_Court_ever X hP  tw_39 dX1_note_39 ?_
    refine lv_iload_n hx hb dX1_note_42 rfl (lv_at hl 1 rfl) ?_
    refine lv_ior hx hb dX1_note_43 ?_
    refine p_Court_ever X hP hS  tw_39 dX1_note_44 (fun H locs hP hS => ?_)
    cases hf
    exact rtV X hr hlk hP hS dX1_note_47
  · rw [if_neg c1] at hf
    cases hf
    exact rtV X hr hlk hP hS dX1_note_9
/-! X1_waiting -/
section
variable {p : Program} {l : Launch} {e : Env} {s : State} {m : MethodId} {args : Array Value} {below : List Frame} {meth : Method} {c : Code}
variable {D : va_G} {cI cP cB cA : ClassId} {ad : Nat → Nat} {tL tC : Nat}
end
set_option maxHeartbeats 4000000 in
set_option maxRecDepth 100000 in
theorem m_X1_waiting {l : Launch} {D : va_G} {cI cP cB cA : ClassId} {ad : Nat → Nat} {tL tC : Nat} {S : Stt} {res : Int32 × Stt} (hf : f_X1_waiting  S = some res) : Ct l D cI cP cB cA 79 ad tL tC yX1_waiting cX1_waiting 1 (some .int) 1 [.ref (ad 8)] (cfC ad cI cP cB cA S) (QI D 79 ad res.1 (cfC ad cI cP cB cA res.2)) := by
  refine ctOf (by decide) (Nat.le_of_ble_eq_true rfl) ?_
  intro p e s m args below meth c ls X hr hlk hP hl
  have hS : va_S (Ar 79 ad) s.heap s.heap [] := va_S.rf
  have hx := X.1.1
  have hb := X.1.2.1
  have hl : lv_has ls 1 [(0, .ref (ad 8))] := hl
  unfold f_X1_waiting at hf
  refine lv_aload_n hx hb dX1_waiting_0 rfl (lv_at hl 0 rfl) ?_
  refine g_Court_ever X hP  tw_39 dX1_waiting_1 ?_
  refine lv_aload_n hx hb dX1_waiting_4 rfl (lv_at hl 0 rfl) ?_
  refine g_Court_always X hP  tw_37 dX1_waiting_5 ?_
  refine lv_iconst (v := (-1 : Int32)) hx hb dX1_waiting_8 (by decide) ?_
  refine lv_ixor hx hb dX1_waiting_9 ?_
  refine lv_iand hx hb dX1_waiting_10 ?_
  cases hf
  exact rtI X hr hlk hP hS dX1_waiting_11
/-! X3_become -/
section
variable {p : Program} {l : Launch} {e : Env} {s : State} {m : MethodId} {args : Array Value} {below : List Frame} {meth : Method} {c : Code}
variable {D : va_G} {cI cP cB cA : ClassId} {ad : Nat → Nat} {tL tC : Nat}
end
set_option maxHeartbeats 4000000 in
set_option maxRecDepth 100000 in
theorem m_X3_become {l : Launch} {D : va_G} {cI cP cB cA : ClassId} {ad : Nat → Nat} {tL tC : Nat} {b0 : Nat} {i0 : Nat} {b1 : Nat} {i1 : Nat} (hb_0_0 : b0 < 5) (hb_0_1 : i0 < 6) (hb_1_0 : b1 < 5) (hb_1_1 : i1 < 6) {S : Stt} {res : Stt} (hf : f_X3_become b0 i0 b1 i1 S = some res) : Ct l D cI cP cB cA 79 ad tL tC yX3_become cX3_become 2 none 1 [.ref (ad (49 + 6 * b0 + i0)), .ref (ad (49 + 6 * b1 + i1))] (cfC ad cI cP cB cA S) (QV D 79 ad (cfC ad cI cP cB cA res)) := by
  refine ctOf (by decide) (Nat.le_of_ble_eq_true rfl) ?_
  intro p e s m args below meth c ls X hr hlk hP hl
  have hS : va_S (Ar 79 ad) s.heap s.heap [] := va_S.rf
  have hx := X.1.1
  have hb := X.1.2.1
  have hl : lv_has ls 2 [(0, .ref (ad (49 + 6 * b0 + i0))), (1, .ref (ad (49 + 6 * b1 + i1)))] := hl
  unfold f_X3_become at hf
  refine lv_aload_n hx hb dX3_become_0 rfl (lv_at hl 0 rfl) ?_
  refine lv_aload_n hx hb dX3_become_1 rfl (lv_at hl 1 rfl) ?_
  refine g_Page_kind X hP hb_1_0 hb_1_1 tw_2 dX3_become_2 ?_
  refine p_Page_kind X hP hS hb_0_0 hb_0_1 tw_2 dX3_become_5 (fun H locs hP hS => ?_)
  refine lv_aload_n hx hb dX3_become_8 rfl (lv_at hl 0 rfl) ?_
  refine lv_aload_n hx hb dX3_become_9 rfl (lv_at hl 1 rfl) ?_
  refine g_Page_points X hP hb_1_0 hb_1_1 tw_5 dX3_become_10 ?_
  refine p_Page_points X hP hS hb_0_0 hb_0_1 tw_5 dX3_become_13 (fun H locs hP hS => ?_)
  refine lv_aload_n hx hb dX3_become_16 rfl (lv_at hl 0 rfl) ?_
  refine lv_aload_n hx hb dX3_become_17 rfl (lv_at hl 1 rfl) ?_
  refine g_Page_verdict X hP hb_1_0 hb_1_1 tw_7 dX3_become_18 ?_
  refine p_Page_verdict X hP hS hb_0_0 hb_0_1 tw_7 dX3_become_21 (fun H locs hP hS => ?_)
  refine lv_aload_n hx hb dX3_become_24 rfl (lv_at hl 0 rfl) ?_
  refine lv_aload_n hx hb dX3_become_25 rfl (lv_at hl 1 rfl) ?_
  refine g_Page_words X hP hb_1_0 hb_1_1 tw_10 dX3_become_26 ?_
  refine p_Page_words X hP hS hb_0_0 hb_0_1 tw_10 dX3_become_29 (fun H locs hP hS => ?_)
  refine lv_aload_n hx hb dX3_become_32 rfl (lv_at hl 0 rfl) ?_
  refine lv_aload_n hx hb dX3_become_33 rfl (lv_at hl 1 rfl) ?_
  refine g_Page_fact X hP hb_1_0 hb_1_1 tw_13 dX3_become_34 ?_
  refine p_Page_fact X hP hS hb_0_0 hb_0_1 tw_13 dX3_become_37 (fun H locs hP hS => ?_)
  refine lv_aload_n hx hb dX3_become_40 rfl (lv_at hl 0 rfl) ?_
  refine lv_aload_n hx hb dX3_become_41 rfl (lv_at hl 1 rfl) ?_
  refine g_Page_day X hP hb_1_0 hb_1_1 tw_16 dX3_become_42 ?_
  refine p_Page_day X hP hS hb_0_0 hb_0_1 tw_16 dX3_become_45 (fun H locs hP hS => ?_)
  refine lv_aload_n hx hb dX3_become_48 rfl (lv_at hl 0 rfl) ?_
  refine lv_aload_n hx hb dX3_become_49 rfl (lv_at hl 1 rfl) ?_
  refine g_Page_plainly X hP hb_1_0 hb_1_1 tw_19 dX3_become_50 ?_
  refine p_Page_plainly X hP hS hb_0_0 hb_0_1 tw_19 dX3_become_53 (fun H locs hP hS => ?_)
  cases hf
  exact rtV X hr hlk hP hS dX3_become_56
/-! X3_isOf -/
section
variable {p : Program} {l : Launch} {e : Env} {s : State} {m : MethodId} {args : Array Value} {below : List Frame} {meth : Method} {c : Code}
variable {D : va_G} {cI cP cB cA : ClassId} {ad : Nat → Nat} {tL tC : Nat}
end
set_option maxHeartbeats 4000000 in
set_option maxRecDepth 100000 in
theorem m_X3_isOf {l : Launch} {D : va_G} {cI cP cB cA : ClassId} {ad : Nat → Nat} {tL tC : Nat} {b0 : Nat} {i0 : Nat} {x1 : Int32} (hb_0_0 : b0 < 5) (hb_0_1 : i0 < 6) {S : Stt} {res : Int32 × Stt} (hf : f_X3_isOf b0 i0 x1 S = some res) : Ct l D cI cP cB cA 79 ad tL tC yX3_isOf cX3_isOf 2 (some .boolean) 1 [.ref (ad (49 + 6 * b0 + i0)), .int x1] (cfC ad cI cP cB cA S) (QI D 79 ad res.1 (cfC ad cI cP cB cA res.2)) := by
  refine ctOf (by decide) (Nat.le_of_ble_eq_true rfl) ?_
  intro p e s m args below meth c ls X hr hlk hP hl
  have hS : va_S (Ar 79 ad) s.heap s.heap [] := va_S.rf
  have hx := X.1.1
  have hb := X.1.2.1
  have hl : lv_has ls 2 [(0, .ref (ad (49 + 6 * b0 + i0))), (1, .int x1)] := hl
  unfold f_X3_isOf at hf
  refine lv_iload_n hx hb dX3_isOf_0 rfl (lv_at hl 1 rfl) ?_
  by_cases c1 : x1 = (1 : Int32)
  · rw [if_pos c1] at hf
    refine W.eq (g2 := F0 m 1 ls [.int (1 : Int32)]) (by rw [c1]) ?_
    refine lv_lookup (x := (1 : Int32)) (off := 27) (tgt := 28) hx hb dX3_isOf_1 (by decide) (by decide) (by decide) ?_
    refine lv_aload_n hx hb dX3_isOf_28 rfl (lv_at hl 0 rfl) ?_
    refine g_Page_kind X hP hb_0_0 hb_0_1 tw_2 dX3_isOf_29 ?_
    refine lv_iconst (v := (1 : Int32)) hx hb dX3_isOf_32 (by decide) ?_
    refine lv_icmp_eq (tgt := 44) hx hb dX3_isOf_33 (by decide) (fun c2 => ?_) (fun c2 => ?_)
    · rw [if_pos c2] at hf
      refine lv_iconst (v := (1 : Int32)) hx hb dX3_isOf_44 (by decide) ?_
      refine lv_goto (tgt := 49) hx hb dX3_isOf_45 (by decide) ?_
      cases hf
      exact rtZ X hr hlk hP hS (Or.inr rfl) dX3_isOf_49
    · rw [if_neg c2] at hf
      refine lv_aload_n hx hb dX3_isOf_36 rfl (lv_at hl 0 rfl) ?_
      refine g_Page_kind X hP hb_0_0 hb_0_1 tw_2 dX3_isOf_37 ?_
      refine lv_iconst (v := (4 : Int32)) hx hb dX3_isOf_40 (by decide) ?_
      refine lv_icmp_ne (tgt := 48) hx hb dX3_isOf_41 (by decide) (fun c3 => ?_) (fun c3 => ?_)
      · rw [if_neg c3] at hf
        refine lv_iconst (v := (0 : Int32)) hx hb dX3_isOf_48 (by decide) ?_
        cases hf
        exact rtZ X hr hlk hP hS (Or.inl rfl) dX3_isOf_49
      · rw [if_pos c3] at hf
        refine lv_iconst (v := (1 : Int32)) hx hb dX3_isOf_44 (by decide) ?_
        refine lv_goto (tgt := 49) hx hb dX3_isOf_45 (by decide) ?_
        cases hf
        exact rtZ X hr hlk hP hS (Or.inr rfl) dX3_isOf_49
  · rw [if_neg c1] at hf
    by_cases c4 : x1 = (2 : Int32)
    · rw [if_pos c4] at hf
      refine W.eq (g2 := F0 m 1 ls [.int (2 : Int32)]) (by rw [c4]) ?_
      refine lv_lookup (x := (2 : Int32)) (off := 49) (tgt := 50) hx hb dX3_isOf_1 (by decide) (by decide) (by decide) ?_
      refine lv_aload_n hx hb dX3_isOf_50 rfl (lv_at hl 0 rfl) ?_
      refine g_Page_kind X hP hb_0_0 hb_0_1 tw_2 dX3_isOf_51 ?_
      refine lv_iconst (v := (2 : Int32)) hx hb dX3_isOf_54 (by decide) ?_
      refine lv_icmp_eq (tgt := 66) hx hb dX3_isOf_55 (by decide) (fun c5 => ?_) (fun c5 => ?_)
      · rw [if_pos c5] at hf
        refine lv_iconst (v := (1 : Int32)) hx hb dX3_isOf_66 (by decide) ?_
        refine lv_goto (tgt := 71) hx hb dX3_isOf_67 (by decide) ?_
        cases hf
        exact rtZ X hr hlk hP hS (Or.inr rfl) dX3_isOf_71
      · rw [if_neg c5] at hf
        refine lv_aload_n hx hb dX3_isOf_58 rfl (lv_at hl 0 rfl) ?_
        refine g_Page_kind X hP hb_0_0 hb_0_1 tw_2 dX3_isOf_59 ?_
        refine lv_iconst (v := (5 : Int32)) hx hb dX3_isOf_62 (by decide) ?_
        refine lv_icmp_ne (tgt := 70) hx hb dX3_isOf_63 (by decide) (fun c6 => ?_) (fun c6 => ?_)
        · rw [if_neg c6] at hf
          refine lv_iconst (v := (0 : Int32)) hx hb dX3_isOf_70 (by decide) ?_
          cases hf
          exact rtZ X hr hlk hP hS (Or.inl rfl) dX3_isOf_71
        · rw [if_pos c6] at hf
          refine lv_iconst (v := (1 : Int32)) hx hb dX3_isOf_66 (by decide) ?_
          refine lv_goto (tgt := 71) hx hb dX3_isOf_67 (by decide) ?_
          cases hf
          exact rtZ X hr hlk hP hS (Or.inr rfl) dX3_isOf_71
    · rw [if_neg c4] at hf
      refine lv_lookup (off := 71) (tgt := 72) hx hb dX3_isOf_1 (by decide) (sw_out2 c1 c4) (by decide) ?_
      refine lv_aload_n hx hb dX3_isOf_72 rfl (lv_at hl 0 rfl) ?_
      refine g_Page_kind X hP hb_0_0 hb_0_1 tw_2 dX3_isOf_73 ?_
      refine lv_iload_n hx hb dX3_isOf_76 rfl (lv_at hl 1 rfl) ?_
      refine lv_icmp_ne (tgt := 84) hx hb dX3_isOf_77 (by decide) (fun c7 => ?_) (fun c7 => ?_)
      · rw [if_neg c7] at hf
        refine lv_iconst (v := (0 : Int32)) hx hb dX3_isOf_84 (by decide) ?_
        cases hf
        exact rtZ X hr hlk hP hS (Or.inl rfl) dX3_isOf_85
      · rw [if_pos c7] at hf
        refine lv_iconst (v := (1 : Int32)) hx hb dX3_isOf_80 (by decide) ?_
        refine lv_goto (tgt := 85) hx hb dX3_isOf_81 (by decide) ?_
        cases hf
        exact rtZ X hr hlk hP hS (Or.inr rfl) dX3_isOf_85
/-! X5_kindByLetter -/
section
variable {p : Program} {l : Launch} {e : Env} {s : State} {m : MethodId} {args : Array Value} {below : List Frame} {meth : Method} {c : Code}
variable {D : va_G} {cI cP cB cA : ClassId} {ad : Nat → Nat} {tL tC : Nat}
set_option maxHeartbeats 4000000 in
set_option maxRecDepth 100000 in
theorem vb_X5_kindByLetter_2 (X : Cx D cI cP cB cA 79 ad tL tC p s m c cX5_kindByLetter 2 args RX5) (hr : meth.sig.returnType = (some .int)) (hlk : meth.locks = false) {res : Int32 × Stt} (kb : Int32 → Int32 → Stt → Option (Int32 × Stt)) (ke : Stt → Option (Int32 × Stt)) (hkb : ∀ (x0 : Int32) (x1 : Int32) (S : Stt) (H : Heap) (locs : List Loc) (ls : Array Slot), kb x0 x1 S = some res → va_P D vwCl (wl 79 ad (cfC ad cI cP cB cA S)) H → va_S (Ar 79 ad) s.heap H locs → lv_has ls 2 [(0, .int x0), (1, .int x1)] → W p l e (rmD 1) s m args below meth c H locs 0 0 (MQ below (QI D 79 ad res.1 (cfC ad cI cP cB cA res.2)) args s 0 0 (Ar 79 ad)) (F0 m 2 ls [])) (hke : ∀ (S : Stt) (H : Heap) (locs : List Loc) (ls : Array Slot), ke S = some res → va_P D vwCl (wl 79 ad (cfC ad cI cP cB cA S)) H → va_S (Ar 79 ad) s.heap H locs → lv_has ls 2 [] → W p l e (rmD 1) s m args below meth c H locs 0 0 (MQ below (QI D 79 ad res.1 (cfC ad cI cP cB cA res.2)) args s 0 0 (Ar 79 ad)) (F0 m 27 ls [])) : ∀ (x0 : Int32) (x1 : Int32) (S : Stt) (H : Heap) (locs : List Loc) (ls : Array Slot), fb_X5_kindByLetter_2 kb ke x0 x1 S = some res → va_P D vwCl (wl 79 ad (cfC ad cI cP cB cA S)) H → va_S (Ar 79 ad) s.heap H locs → lv_has ls 2 [(0, .int x0), (1, .int x1)] → W p l e (rmD 1) s m args below meth c H locs 0 0 (MQ below (QI D 79 ad res.1 (cfC ad cI cP cB cA res.2)) args s 0 0 (Ar 79 ad)) (F0 m 2 ls []) := by
  intro x0 x1 S H locs ls hf hP hS hl
  have hx := X.1.1
  have hb := X.1.2.1
  unfold fb_X5_kindByLetter_2 at hf
  refine lv_iload_n hx hb dX5_kindByLetter_2 rfl (lv_at hl 1 rfl) ?_
  refine gsLN X hS tw_74 dX5_kindByLetter_3 ?_
  refine sLen_L X hS dX5_kindByLetter_6 ?_
  refine lv_icmp_ge (tgt := 27) hx hb dX5_kindByLetter_7 (by decide) (fun c1 => ?_) (fun c1 => ?_)
  · rw [if_pos c1] at hf
    exact hke  _ _ _ ls hf  hP hS (lv_sub hl [] rfl)
  · rw [if_neg c1] at hf
    refine gsLN X hS tw_74 dX5_kindByLetter_10 ?_
    refine lv_iload_n hx hb dX5_kindByLetter_13 rfl (lv_at hl 1 rfl) ?_
    obtain ⟨g2, hf⟩ := grd_some hf
    refine sR_L X hS (ixb_in g2) dX5_kindByLetter_14 ?_
    refine lv_iload_n hx hb dX5_kindByLetter_15 rfl (lv_at hl 0 rfl) ?_
    refine lv_icmp_ne (tgt := 21) hx hb dX5_kindByLetter_16 (by decide) (fun c3 => ?_) (fun c3 => ?_)
    · rw [if_neg c3] at hf
      refine lv_iinc (v := (x1 + (1 : Int32))) (lv' := [(1, .int (x1 + (1 : Int32))), (0, .int x0)]) hx hb dX5_kindByLetter_21 hl (k := 1) rfl rfl (by decide) rfl (fun ls hl => ?_)
      refine lv_goto (tgt := 2) hx hb dX5_kindByLetter_24 (by decide) ?_
      exact hkb _ _ _ _ _ ls hf  hP hS (lv_sub hl [1, 0] rfl)
    · rw [if_pos c3] at hf
      refine lv_iload_n hx hb dX5_kindByLetter_19 rfl (lv_at hl 1 rfl) ?_
      cases hf
      exact rtI X hr hlk hP hS dX5_kindByLetter_20
set_option maxHeartbeats 4000000 in
set_option maxRecDepth 100000 in
theorem vl_X5_kindByLetter_2 (X : Cx D cI cP cB cA 79 ad tL tC p s m c cX5_kindByLetter 2 args RX5) (hr : meth.sig.returnType = (some .int)) (hlk : meth.locks = false) {res : Int32 × Stt} (ke : Stt → Option (Int32 × Stt)) (hke : ∀ (S : Stt) (H : Heap) (locs : List Loc) (ls : Array Slot), ke S = some res → va_P D vwCl (wl 79 ad (cfC ad cI cP cB cA S)) H → va_S (Ar 79 ad) s.heap H locs → lv_has ls 2 [] → W p l e (rmD 1) s m args below meth c H locs 0 0 (MQ below (QI D 79 ad res.1 (cfC ad cI cP cB cA res.2)) args s 0 0 (Ar 79 ad)) (F0 m 27 ls [])) : ∀ (n : Nat), ∀ (x0 : Int32) (x1 : Int32) (S : Stt) (H : Heap) (locs : List Loc) (ls : Array Slot), fl_X5_kindByLetter_2 ke n x0 x1 S = some res → va_P D vwCl (wl 79 ad (cfC ad cI cP cB cA S)) H → va_S (Ar 79 ad) s.heap H locs → lv_has ls 2 [(0, .int x0), (1, .int x1)] → W p l e (rmD 1) s m args below meth c H locs 0 0 (MQ below (QI D 79 ad res.1 (cfC ad cI cP cB cA res.2)) args s 0 0 (Ar 79 ad)) (F0 m 2 ls []) := by
  intro n
  induction n with
  | zero =>
    intro x0 x1 S H locs ls hf hP hS hl
    cases hf
  | succ n ih =>
    intro x0 x1 S H locs ls hf hP hS hl
    exact vb_X5_kindByLetter_2 X hr hlk _ ke ih hke x0 x1 S H locs ls hf  hP hS hl
end
set_option maxHeartbeats 4000000 in
set_option maxRecDepth 100000 in
theorem m_X5_kindByLetter {l : Launch} {D : va_G} {cI cP cB cA : ClassId} {ad : Nat → Nat} {tL tC : Nat} {x0 : Int32} {S : Stt} {res : Int32 × Stt} (hf : f_X5_kindByLetter x0 S = some res) : Ct l D cI cP cB cA 79 ad tL tC yX5_kindByLetter cX5_kindByLetter 2 (some .int) 1 [.int x0] (cfC ad cI cP cB cA S) (QI D 79 ad res.1 (cfC ad cI cP cB cA res.2)) := by
  refine ctOf (by decide) (Nat.le_of_ble_eq_true rfl) ?_
  intro p e s m args below meth c ls X hr hlk hP hl
  have hS : va_S (Ar 79 ad) s.heap s.heap [] := va_S.rf
  have hx := X.1.1
  have hb := X.1.2.1
  have hl : lv_has ls 2 [(0, .int x0)] := hl
  unfold f_X5_kindByLetter at hf
  refine lv_iconst (v := (0 : Int32)) hx hb dX5_kindByLetter_0 (by decide) ?_
  refine lv_istore_n (lv' := [(1, .int (0 : Int32)), (0, .int x0)]) hx hb dX5_kindByLetter_1 rfl hl (by decide) rfl (fun ls hl => ?_)
  refine vl_X5_kindByLetter_2 X hr hlk _ ?_ 300 _ _ _ _ _ ls hf  hP hS (lv_sub hl [1, 0] rfl)
  intro S H locs ls hf hP hS hl
  refine lv_bipush (v := (-9 : Int32)) hx hb dX5_kindByLetter_27 (by decide) ?_
  cases hf
  exact rtI X hr hlk hP hS dX5_kindByLetter_29
/-! X6_arePlaces -/
section
variable {p : Program} {l : Launch} {e : Env} {s : State} {m : MethodId} {args : Array Value} {below : List Frame} {meth : Method} {c : Code}
variable {D : va_G} {cI cP cB cA : ClassId} {ad : Nat → Nat} {tL tC : Nat}
end
set_option maxHeartbeats 4000000 in
set_option maxRecDepth 100000 in
theorem m_X6_arePlaces {l : Launch} {D : va_G} {cI cP cB cA : ClassId} {ad : Nat → Nat} {tL tC : Nat} {z0 : Nat} {x1 : Int32} {x2 : Int32} {x3 : Int32} (hb_0_0 : z0 < 2) {S : Stt} {res : Int32 × Stt} (hf : f_X6_arePlaces z0 x1 x2 x3 S = some res) : Ct l D cI cP cB cA 79 ad tL tC yX6_arePlaces cX6_arePlaces 4 (some .boolean) 1 [.ref (ad (1 + z0)), .int x1, .int x2, .int x3] (cfC ad cI cP cB cA S) (QI D 79 ad res.1 (cfC ad cI cP cB cA res.2)) := by
  refine ctOf (by decide) (Nat.le_of_ble_eq_true rfl) ?_
  intro p e s m args below meth c ls X hr hlk hP hl
  have hS : va_S (Ar 79 ad) s.heap s.heap [] := va_S.rf
  have hx := X.1.1
  have hb := X.1.2.1
  have hl : lv_has ls 4 [(0, .ref (ad (1 + z0))), (1, .int x1), (2, .int x2), (3, .int x3)] := hl
  unfold f_X6_arePlaces at hf
  refine lv_iload_n hx hb dX6_arePlaces_0 rfl (lv_at hl 2 rfl) ?_
  refine lv_if_lt (tgt := 20) hx hb dX6_arePlaces_1 (by decide) (fun c1 => ?_) (fun c1 => ?_)
  · rw [if_pos c1] at hf
    refine lv_iconst (v := (0 : Int32)) hx hb dX6_arePlaces_20 (by decide) ?_
    cases hf
    exact rtZ X hr hlk hP hS (Or.inl rfl) dX6_arePlaces_21
  · rw [if_neg c1] at hf
    refine lv_iload_n hx hb dX6_arePlaces_4 rfl (lv_at hl 2 rfl) ?_
    refine lv_aload_n hx hb dX6_arePlaces_5 rfl (lv_at hl 0 rfl) ?_
    refine g_Shelf_sizes X hP hb_0_0 tw_1 dX6_arePlaces_6 ?_
    refine lv_iload_n hx hb dX6_arePlaces_9 rfl (lv_at hl 1 rfl) ?_
    obtain ⟨g2, hf⟩ := grd_some hf
    refine r_sizes X hP hb_0_0 g2 dX6_arePlaces_10 ?_
    refine lv_iload_n hx hb dX6_arePlaces_11 rfl (lv_at hl 3 rfl) ?_
    refine lv_isub hx hb dX6_arePlaces_12 ?_
    refine lv_icmp_gt (tgt := 20) hx hb dX6_arePlaces_13 (by decide) (fun c3 => ?_) (fun c3 => ?_)
    · rw [if_pos c3] at hf
      refine lv_iconst (v := (0 : Int32)) hx hb dX6_arePlaces_20 (by decide) ?_
      cases hf
      exact rtZ X hr hlk hP hS (Or.inl rfl) dX6_arePlaces_21
    · rw [if_neg c3] at hf
      refine lv_iconst (v := (1 : Int32)) hx hb dX6_arePlaces_16 (by decide) ?_
      refine lv_goto (tgt := 21) hx hb dX6_arePlaces_17 (by decide) ?_
      cases hf
      exact rtZ X hr hlk hP hS (Or.inr rfl) dX6_arePlaces_21
/-! X6_carry -/
section
variable {p : Program} {l : Launch} {e : Env} {s : State} {m : MethodId} {args : Array Value} {below : List Frame} {meth : Method} {c : Code}
variable {D : va_G} {cI cP cB cA : ClassId} {ad : Nat → Nat} {tL tC : Nat}
end
set_option maxHeartbeats 4000000 in
set_option maxRecDepth 100000 in
theorem m_X6_carry {l : Launch} {D : va_G} {cI cP cB cA : ClassId} {ad : Nat → Nat} {tL tC : Nat} {z0 : Nat} {x1 : Int32} {x2 : Int32} {x3 : Int32} {x4 : Int32} {x5 : Int32} (hb_0_0 : z0 < 2) {S : Stt} {res : Stt} (hf : f_X6_carry z0 x1 x2 x3 x4 x5 S = some res) : Ct l D cI cP cB cA 79 ad tL tC yX6_carry cX6_carry 6 none 1 [.ref (ad (1 + z0)), .int x1, .int x2, .int x3, .int x4, .int x5] (cfC ad cI cP cB cA S) (QV D 79 ad (cfC ad cI cP cB cA res)) := by
  refine ctOf (by decide) (Nat.le_of_ble_eq_true rfl) ?_
  intro p e s m args below meth c ls X hr hlk hP hl
  have hS : va_S (Ar 79 ad) s.heap s.heap [] := va_S.rf
  have hx := X.1.1
  have hb := X.1.2.1
  have hl : lv_has ls 6 [(0, .ref (ad (1 + z0))), (1, .int x1), (2, .int x2), (3, .int x3), (4, .int x4), (5, .int x5)] := hl
  unfold f_X6_carry at hf
  refine lv_aload_n hx hb dX6_carry_0 rfl (lv_at hl 0 rfl) ?_
  refine g_Shelf_places X hP hb_0_0 tw_0 dX6_carry_1 ?_
  refine lv_iload_n hx hb dX6_carry_4 rfl (lv_at hl 1 rfl) ?_
  obtain ⟨g1, hf⟩ := grd_some hf
  refine q_grid X hP hb_0_0 g1 dX6_carry_5 ?_
  refine lv_iload_n hx hb dX6_carry_6 rfl (lv_at hl 2 rfl) ?_
  refine lv_aload_n hx hb dX6_carry_7 rfl (lv_at hl 0 rfl) ?_
  refine g_Shelf_places X hP hb_0_0 tw_0 dX6_carry_8 ?_
  refine lv_iload_n hx hb dX6_carry_11 rfl (lv_at hl 3 rfl) ?_
  obtain ⟨g2, hf⟩ := grd_some hf
  refine q_grid X hP hb_0_0 g2 dX6_carry_12 ?_
  refine lv_iload hx hb dX6_carry_13 (lv_at hl 4 rfl) ?_
  refine lv_iload hx hb dX6_carry_15 (lv_at hl 5 rfl) ?_
  obtain ⟨g3, hf⟩ := grd_some hf
  refine cpy_inner_inner (rest := []) X hP hS hl.1 hb_0_0 (ixb_lt g1) hb_0_0 (ixb_lt g2) g3 tw_139 (by first | exact Nat.le_of_ble_eq_true rfl | exact Nat.succ_le_succ (Nat.zero_le _)) (by first | exact Nat.le_of_ble_eq_true rfl | exact Nat.le_trans (m := 44) (Nat.le_of_ble_eq_true rfl) (Nat.mul_le_mul_left 44 (Nat.succ_le_succ (Nat.zero_le _)))) dX6_carry_17 (fun H locs hP hS => ?_)
  cases hf
  exact rtV X hr hlk hP hS dX6_carry_20
/-! X6_digestOn -/
section
variable {p : Program} {l : Launch} {e : Env} {s : State} {m : MethodId} {args : Array Value} {below : List Frame} {meth : Method} {c : Code}
variable {D : va_G} {cI cP cB cA : ClassId} {ad : Nat → Nat} {tL tC : Nat}
set_option maxHeartbeats 4000000 in
set_option maxRecDepth 100000 in
theorem vb_X6_digestOn_33 (X : Cx D cI cP cB cA 79 ad tL tC p s m c cX6_digestOn 7 args RX6) (hr : meth.sig.returnType = (some .long)) (hlk : meth.locks = false) {res : Int64 × Stt} (kb : Nat → Int64 → Int32 → Int32 → Stt → Option (Int64 × Stt)) (ke : Nat → Int64 → Int32 → Stt → Option (Int64 × Stt)) (hkb : ∀ (z0 : Nat) (y3 : Int64) (x5 : Int32) (x6 : Int32) (S : Stt) (H : Heap) (locs : List Loc) (ls : Array Slot), kb z0 y3 x5 x6 S = some res → z0 < 2 → va_P D vwCl (wl 79 ad (cfC ad cI cP cB cA S)) H → va_S (Ar 79 ad) s.heap H locs → lv_has ls 7 [(0, .ref (ad (1 + z0))), (3, .long y3), (5, .int x5), (6, .int x6)] → W p l e (rmD 1) s m args below meth c H locs 0 0 (MQ below (QL D 79 ad res.1 (cfC ad cI cP cB cA res.2)) args s 0 0 (Ar 79 ad)) (F0 m 33 ls [])) (hke : ∀ (z0 : Nat) (y3 : Int64) (x5 : Int32) (S : Stt) (H : Heap) (locs : List Loc) (ls : Array Slot), ke z0 y3 x5 S = some res → z0 < 2 → va_P D vwCl (wl 79 ad (cfC ad cI cP cB cA S)) H → va_S (Ar 79 ad) s.heap H locs → lv_has ls 7 [(0, .ref (ad (1 + z0))), (3, .long y3), (5, .int x5)] → W p l e (rmD 1) s m args below meth c H locs 0 0 (MQ below (QL D 79 ad res.1 (cfC ad cI cP cB cA res.2)) args s 0 0 (Ar 79 ad)) (F0 m 69 ls [])) : ∀ (z0 : Nat) (y3 : Int64) (x5 : Int32) (x6 : Int32) (S : Stt) (H : Heap) (locs : List Loc) (ls : Array Slot), fb_X6_digestOn_33 kb ke z0 y3 x5 x6 S = some res → z0 < 2 → va_P D vwCl (wl 79 ad (cfC ad cI cP cB cA S)) H → va_S (Ar 79 ad) s.heap H locs → lv_has ls 7 [(0, .ref (ad (1 + z0))), (3, .long y3), (5, .int x5), (6, .int x6)] → W p l e (rmD 1) s m args below meth c H locs 0 0 (MQ below (QL D 79 ad res.1 (cfC ad cI cP cB cA res.2)) args s 0 0 (Ar 79 ad)) (F0 m 33 ls []) := by
  intro z0 y3 x5 x6 S H locs ls hf hb_0_0 hP hS hl
  have hx := X.1.1
  have hb := X.1.2.1
  unfold fb_X6_digestOn_33 at hf
  refine lv_iload hx hb dX6_digestOn_33 (lv_at hl 3 rfl) ?_
  refine lv_aload_n hx hb dX6_digestOn_35 rfl (lv_at hl 0 rfl) ?_
  refine g_Shelf_sizes X hP hb_0_0 tw_1 dX6_digestOn_36 ?_
  refine lv_iload hx hb dX6_digestOn_39 (lv_at hl 2 rfl) ?_
  obtain ⟨g3, hf⟩ := grd_some hf
  refine r_sizes X hP hb_0_0 g3 dX6_digestOn_41 ?_
  refine lv_icmp_ge (tgt := 69) hx hb dX6_digestOn_42 (by decide) (fun c4 => ?_) (fun c4 => ?_)
  · rw [if_pos c4] at hf
    exact hke _ _ _ _ _ _ ls hf hb_0_0 hP hS (lv_sub hl [0, 1, 2] rfl)
  · rw [if_neg c4] at hf
    refine lv_ldc2 (v := (31 : Int64)) hx hb X.1.2.2.2.1 (X.1.2.2.2.2 _ tw_542) dX6_digestOn_45 ?_
    refine lv_lload_n hx hb dX6_digestOn_48 rfl (lv_at hl 1 rfl) ?_
    refine lv_lmul hx hb dX6_digestOn_49 ?_
    refine lv_aload_n hx hb dX6_digestOn_50 rfl (lv_at hl 0 rfl) ?_
    refine g_Shelf_places X hP hb_0_0 tw_0 dX6_digestOn_51 ?_
    refine lv_iload hx hb dX6_digestOn_54 (lv_at hl 2 rfl) ?_
    obtain ⟨g5, hf⟩ := grd_some hf
    refine q_grid X hP hb_0_0 g5 dX6_digestOn_56 ?_
    refine lv_iload hx hb dX6_digestOn_57 (lv_at hl 3 rfl) ?_
    obtain ⟨g6, hf⟩ := grd_some hf
    refine r_inner X hP hb_0_0 (ixb_lt g5) g6 dX6_digestOn_59 ?_
    refine lv_i2l hx hb dX6_digestOn_60 rfl ?_
    refine lv_ladd hx hb dX6_digestOn_61 ?_
    refine lv_lstore_n (lv' := [(3, .long (((31 : Int64) * y3) + (S.1 (20 + z0) x5.toNatClampNeg x6.toNatClampNeg).toInt64)), (0, .ref (ad (1 + z0))), (5, .int x5), (6, .int x6)]) hx hb dX6_digestOn_62 rfl hl (by decide) rfl (fun ls hl => ?_)
    refine lv_iinc (v := (x6 + (1 : Int32))) (lv' := [(6, .int (x6 + (1 : Int32))), (3, .long (((31 : Int64) * y3) + (S.1 (20 + z0) x5.toNatClampNeg x6.toNatClampNeg).toInt64)), (0, .ref (ad (1 + z0))), (5, .int x5)]) hx hb dX6_digestOn_63 hl (k := 3) rfl rfl (by decide) rfl (fun ls hl => ?_)
    refine lv_goto (tgt := 33) hx hb dX6_digestOn_66 (by decide) ?_
    exact hkb _ _ _ _ _ _ _ ls hf hb_0_0 hP hS (lv_sub hl [2, 1, 3, 0] rfl)
set_option maxHeartbeats 4000000 in
set_option maxRecDepth 100000 in
theorem vl_X6_digestOn_33 (X : Cx D cI cP cB cA 79 ad tL tC p s m c cX6_digestOn 7 args RX6) (hr : meth.sig.returnType = (some .long)) (hlk : meth.locks = false) {res : Int64 × Stt} (ke : Nat → Int64 → Int32 → Stt → Option (Int64 × Stt)) (hke : ∀ (z0 : Nat) (y3 : Int64) (x5 : Int32) (S : Stt) (H : Heap) (locs : List Loc) (ls : Array Slot), ke z0 y3 x5 S = some res → z0 < 2 → va_P D vwCl (wl 79 ad (cfC ad cI cP cB cA S)) H → va_S (Ar 79 ad) s.heap H locs → lv_has ls 7 [(0, .ref (ad (1 + z0))), (3, .long y3), (5, .int x5)] → W p l e (rmD 1) s m args below meth c H locs 0 0 (MQ below (QL D 79 ad res.1 (cfC ad cI cP cB cA res.2)) args s 0 0 (Ar 79 ad)) (F0 m 69 ls [])) : ∀ (n : Nat), ∀ (z0 : Nat) (y3 : Int64) (x5 : Int32) (x6 : Int32) (S : Stt) (H : Heap) (locs : List Loc) (ls : Array Slot), fl_X6_digestOn_33 ke n z0 y3 x5 x6 S = some res → z0 < 2 → va_P D vwCl (wl 79 ad (cfC ad cI cP cB cA S)) H → va_S (Ar 79 ad) s.heap H locs → lv_has ls 7 [(0, .ref (ad (1 + z0))), (3, .long y3), (5, .int x5), (6, .int x6)] → W p l e (rmD 1) s m args below meth c H locs 0 0 (MQ below (QL D 79 ad res.1 (cfC ad cI cP cB cA res.2)) args s 0 0 (Ar 79 ad)) (F0 m 33 ls []) := by
  intro n
  induction n with
  | zero =>
    intro z0 y3 x5 x6 S H locs ls hf hb_0_0 hP hS hl
    cases hf
  | succ n ih =>
    intro z0 y3 x5 x6 S H locs ls hf hb_0_0 hP hS hl
    exact vb_X6_digestOn_33 X hr hlk _ ke ih hke z0 y3 x5 x6 S H locs ls hf hb_0_0 hP hS hl
set_option maxHeartbeats 4000000 in
set_option maxRecDepth 100000 in
theorem vb_X6_digestOn_5 (X : Cx D cI cP cB cA 79 ad tL tC p s m c cX6_digestOn 7 args RX6) (hr : meth.sig.returnType = (some .long)) (hlk : meth.locks = false) {res : Int64 × Stt} (kb : Nat → Int64 → Int32 → Stt → Option (Int64 × Stt)) (ke : Int64 → Stt → Option (Int64 × Stt)) (hkb : ∀ (z0 : Nat) (y3 : Int64) (x5 : Int32) (S : Stt) (H : Heap) (locs : List Loc) (ls : Array Slot), kb z0 y3 x5 S = some res → z0 < 2 → va_P D vwCl (wl 79 ad (cfC ad cI cP cB cA S)) H → va_S (Ar 79 ad) s.heap H locs → lv_has ls 7 [(0, .ref (ad (1 + z0))), (3, .long y3), (5, .int x5)] → W p l e (rmD 1) s m args below meth c H locs 0 0 (MQ below (QL D 79 ad res.1 (cfC ad cI cP cB cA res.2)) args s 0 0 (Ar 79 ad)) (F0 m 5 ls [])) (hke : ∀ (y3 : Int64) (S : Stt) (H : Heap) (locs : List Loc) (ls : Array Slot), ke y3 S = some res → va_P D vwCl (wl 79 ad (cfC ad cI cP cB cA S)) H → va_S (Ar 79 ad) s.heap H locs → lv_has ls 7 [(3, .long y3)] → W p l e (rmD 1) s m args below meth c H locs 0 0 (MQ below (QL D 79 ad res.1 (cfC ad cI cP cB cA res.2)) args s 0 0 (Ar 79 ad)) (F0 m 75 ls [])) : ∀ (z0 : Nat) (y3 : Int64) (x5 : Int32) (S : Stt) (H : Heap) (locs : List Loc) (ls : Array Slot), fb_X6_digestOn_5 kb ke z0 y3 x5 S = some res → z0 < 2 → va_P D vwCl (wl 79 ad (cfC ad cI cP cB cA S)) H → va_S (Ar 79 ad) s.heap H locs → lv_has ls 7 [(0, .ref (ad (1 + z0))), (3, .long y3), (5, .int x5)] → W p l e (rmD 1) s m args below meth c H locs 0 0 (MQ below (QL D 79 ad res.1 (cfC ad cI cP cB cA res.2)) args s 0 0 (Ar 79 ad)) (F0 m 5 ls []) := by
  intro z0 y3 x5 S H locs ls hf hb_0_0 hP hS hl
  have hx := X.1.1
  have hb := X.1.2.1
  unfold fb_X6_digestOn_5 at hf
  refine lv_iload hx hb dX6_digestOn_5 (lv_at hl 2 rfl) ?_
  refine lv_aload_n hx hb dX6_digestOn_7 rfl (lv_at hl 0 rfl) ?_
  refine g_Shelf_sizes X hP hb_0_0 tw_1 dX6_digestOn_8 ?_
  refine len_sizes X hP hb_0_0 dX6_digestOn_11 ?_
  refine lv_icmp_ge (tgt := 75) hx hb dX6_digestOn_12 (by decide) (fun c1 => ?_) (fun c1 => ?_)
  · rw [if_pos c1] at hf
    exact hke _ _ _ _ ls hf  hP hS (lv_sub hl [1] rfl)
  · rw [if_neg c1] at hf
    refine lv_ldc2 (v := (31 : Int64)) hx hb X.1.2.2.2.1 (X.1.2.2.2.2 _ tw_542) dX6_digestOn_15 ?_
    refine lv_lload_n hx hb dX6_digestOn_18 rfl (lv_at hl 1 rfl) ?_
    refine lv_lmul hx hb dX6_digestOn_19 ?_
    refine lv_aload_n hx hb dX6_digestOn_20 rfl (lv_at hl 0 rfl) ?_
    refine g_Shelf_sizes X hP hb_0_0 tw_1 dX6_digestOn_21 ?_
    refine lv_iload hx hb dX6_digestOn_24 (lv_at hl 2 rfl) ?_
    obtain ⟨g2, hf⟩ := grd_some hf
    refine r_sizes X hP hb_0_0 g2 dX6_digestOn_26 ?_
    refine lv_i2l hx hb dX6_digestOn_27 rfl ?_
    refine lv_ladd hx hb dX6_digestOn_28 ?_
    refine lv_lstore_n (lv' := [(3, .long (((31 : Int64) * y3) + (S.1 19 z0 x5.toNatClampNeg).toInt64)), (0, .ref (ad (1 + z0))), (5, .int x5)]) hx hb dX6_digestOn_29 rfl hl (by decide) rfl (fun ls hl => ?_)
    refine lv_iconst (v := (0 : Int32)) hx hb dX6_digestOn_30 (by decide) ?_
    refine lv_istore (lv' := [(6, .int (0 : Int32)), (3, .long (((31 : Int64) * y3) + (S.1 19 z0 x5.toNatClampNeg).toInt64)), (0, .ref (ad (1 + z0))), (5, .int x5)]) hx hb dX6_digestOn_31 hl (by decide) rfl (fun ls hl => ?_)
    refine vl_X6_digestOn_33 X hr hlk _ ?_ 300 _ _ _ _ _ _ _ ls hf hb_0_0 hP hS (lv_sub hl [2, 1, 3, 0] rfl)
    intro z0 y3 x5 S H locs ls hf hb_0_0 hP hS hl
    refine lv_iinc (v := (x5 + (1 : Int32))) (lv' := [(5, .int (x5 + (1 : Int32))), (0, .ref (ad (1 + z0))), (3, .long y3)]) hx hb dX6_digestOn_69 hl (k := 2) rfl rfl (by decide) rfl (fun ls hl => ?_)
    refine lv_goto (tgt := 5) hx hb dX6_digestOn_72 (by decide) ?_
    exact hkb _ _ _ _ _ _ ls hf hb_0_0 hP hS (lv_sub hl [1, 2, 0] rfl)
set_option maxHeartbeats 4000000 in
set_option maxRecDepth 100000 in
theorem vl_X6_digestOn_5 (X : Cx D cI cP cB cA 79 ad tL tC p s m c cX6_digestOn 7 args RX6) (hr : meth.sig.returnType = (some .long)) (hlk : meth.locks = false) {res : Int64 × Stt} (ke : Int64 → Stt → Option (Int64 × Stt)) (hke : ∀ (y3 : Int64) (S : Stt) (H : Heap) (locs : List Loc) (ls : Array Slot), ke y3 S = some res → va_P D vwCl (wl 79 ad (cfC ad cI cP cB cA S)) H → va_S (Ar 79 ad) s.heap H locs → lv_has ls 7 [(3, .long y3)] → W p l e (rmD 1) s m args below meth c H locs 0 0 (MQ below (QL D 79 ad res.1 (cfC ad cI cP cB cA res.2)) args s 0 0 (Ar 79 ad)) (F0 m 75 ls [])) : ∀ (n : Nat), ∀ (z0 : Nat) (y3 : Int64) (x5 : Int32) (S : Stt) (H : Heap) (locs : List Loc) (ls : Array Slot), fl_X6_digestOn_5 ke n z0 y3 x5 S = some res → z0 < 2 → va_P D vwCl (wl 79 ad (cfC ad cI cP cB cA S)) H → va_S (Ar 79 ad) s.heap H locs → lv_has ls 7 [(0, .ref (ad (1 + z0))), (3, .long y3), (5, .int x5)] → W p l e (rmD 1) s m args below meth c H locs 0 0 (MQ below (QL D 79 ad res.1 (cfC ad cI cP cB cA res.2)) args s 0 0 (Ar 79 ad)) (F0 m 5 ls []) := by
  intro n
  induction n with
  | zero =>
    intro z0 y3 x5 S H locs ls hf hb_0_0 hP hS hl
    cases hf
  | succ n ih =>
    intro z0 y3 x5 S H locs ls hf hb_0_0 hP hS hl
    exact vb_X6_digestOn_5 X hr hlk _ ke ih hke z0 y3 x5 S H locs ls hf hb_0_0 hP hS hl
end
set_option maxHeartbeats 4000000 in
set_option maxRecDepth 100000 in
theorem m_X6_digestOn {l : Launch} {D : va_G} {cI cP cB cA : ClassId} {ad : Nat → Nat} {tL tC : Nat} {z0 : Nat} {y1 : Int64} (hb_0_0 : z0 < 2) {S : Stt} {res : Int64 × Stt} (hf : f_X6_digestOn z0 y1 S = some res) : Ct l D cI cP cB cA 79 ad tL tC yX6_digestOn cX6_digestOn 7 (some .long) 1 [.ref (ad (1 + z0)), .long y1] (cfC ad cI cP cB cA S) (QL D 79 ad res.1 (cfC ad cI cP cB cA res.2)) := by
  refine ctOf (by decide) (Nat.le_of_ble_eq_true rfl) ?_
  intro p e s m args below meth c ls X hr hlk hP hl
  have hS : va_S (Ar 79 ad) s.heap s.heap [] := va_S.rf
  have hx := X.1.1
  have hb := X.1.2.1
  have hl : lv_has ls 7 [(0, .ref (ad (1 + z0))), (1, .long y1)] := hl
  unfold f_X6_digestOn at hf
  refine lv_lload_n hx hb dX6_digestOn_0 rfl (lv_at hl 1 rfl) ?_
  refine lv_lstore_n (lv' := [(3, .long y1), (0, .ref (ad (1 + z0))), (1, .long y1)]) hx hb dX6_digestOn_1 rfl hl (by decide) rfl (fun ls hl => ?_)
  refine lv_iconst (v := (0 : Int32)) hx hb dX6_digestOn_2 (by decide) ?_
  refine lv_istore (lv' := [(5, .int (0 : Int32)), (3, .long y1), (0, .ref (ad (1 + z0))), (1, .long y1)]) hx hb dX6_digestOn_3 hl (by decide) rfl (fun ls hl => ?_)
  refine vl_X6_digestOn_5 X hr hlk _ ?_ 300 _ _ _ _ _ _ ls hf hb_0_0 hP hS (lv_sub hl [2, 1, 0] rfl)
  intro y3 S H locs ls hf hP hS hl
  refine lv_lload_n hx hb dX6_digestOn_75 rfl (lv_at hl 0 rfl) ?_
  cases hf
  exact rtL X hr hlk hP hS dX6_digestOn_76
/-! X6_drop -/
section
variable {p : Program} {l : Launch} {e : Env} {s : State} {m : MethodId} {args : Array Value} {below : List Frame} {meth : Method} {c : Code}
variable {D : va_G} {cI cP cB cA : ClassId} {ad : Nat → Nat} {tL tC : Nat}
end
set_option maxHeartbeats 4000000 in
set_option maxRecDepth 100000 in
theorem m_X6_drop {l : Launch} {D : va_G} {cI cP cB cA : ClassId} {ad : Nat → Nat} {tL tC : Nat} {z0 : Nat} {x1 : Int32} (hb_0_0 : z0 < 2) {S : Stt} {res : Stt} (hf : f_X6_drop z0 x1 S = some res) : Ct l D cI cP cB cA 79 ad tL tC yX6_drop cX6_drop 2 none 1 [.ref (ad (1 + z0)), .int x1] (cfC ad cI cP cB cA S) (QV D 79 ad (cfC ad cI cP cB cA res)) := by
  refine ctOf (by decide) (Nat.le_of_ble_eq_true rfl) ?_
  intro p e s m args below meth c ls X hr hlk hP hl
  have hS : va_S (Ar 79 ad) s.heap s.heap [] := va_S.rf
  have hx := X.1.1
  have hb := X.1.2.1
  have hl : lv_has ls 2 [(0, .ref (ad (1 + z0))), (1, .int x1)] := hl
  unfold f_X6_drop at hf
  refine lv_aload_n hx hb dX6_drop_0 rfl (lv_at hl 0 rfl) ?_
  refine g_Shelf_sizes X hP hb_0_0 tw_1 dX6_drop_1 ?_
  refine lv_iload_n hx hb dX6_drop_4 rfl (lv_at hl 1 rfl) ?_
  refine lv_iconst (v := (-1 : Int32)) hx hb dX6_drop_5 (by decide) ?_
  obtain ⟨g1, hf⟩ := grd_some hf
  refine w_sizes X hP hS hb_0_0 g1 dX6_drop_6 (fun H locs hP hS => ?_)
  cases hf
  exact rtV X hr hlk hP hS dX6_drop_7
/-! X6_isOne -/
section
variable {p : Program} {l : Launch} {e : Env} {s : State} {m : MethodId} {args : Array Value} {below : List Frame} {meth : Method} {c : Code}
variable {D : va_G} {cI cP cB cA : ClassId} {ad : Nat → Nat} {tL tC : Nat}
end
set_option maxHeartbeats 4000000 in
set_option maxRecDepth 100000 in
theorem m_X6_isOne {l : Launch} {D : va_G} {cI cP cB cA : ClassId} {ad : Nat → Nat} {tL tC : Nat} {z0 : Nat} {x1 : Int32} (hb_0_0 : z0 < 2) {S : Stt} {res : Int32 × Stt} (hf : f_X6_isOne z0 x1 S = some res) : Ct l D cI cP cB cA 79 ad tL tC yX6_isOne cX6_isOne 2 (some .boolean) 1 [.ref (ad (1 + z0)), .int x1] (cfC ad cI cP cB cA S) (QI D 79 ad res.1 (cfC ad cI cP cB cA res.2)) := by
  refine ctOf (by decide) (Nat.le_of_ble_eq_true rfl) ?_
  intro p e s m args below meth c ls X hr hlk hP hl
  have hS : va_S (Ar 79 ad) s.heap s.heap [] := va_S.rf
  have hx := X.1.1
  have hb := X.1.2.1
  have hl : lv_has ls 2 [(0, .ref (ad (1 + z0))), (1, .int x1)] := hl
  unfold f_X6_isOne at hf
  refine lv_iload_n hx hb dX6_isOne_0 rfl (lv_at hl 1 rfl) ?_
  refine lv_if_lt (tgt := 17) hx hb dX6_isOne_1 (by decide) (fun c1 => ?_) (fun c1 => ?_)
  · rw [if_pos c1] at hf
    refine lv_iconst (v := (0 : Int32)) hx hb dX6_isOne_17 (by decide) ?_
    cases hf
    exact rtZ X hr hlk hP hS (Or.inl rfl) dX6_isOne_18
  · rw [if_neg c1] at hf
    refine lv_iload_n hx hb dX6_isOne_4 rfl (lv_at hl 1 rfl) ?_
    refine lv_aload_n hx hb dX6_isOne_5 rfl (lv_at hl 0 rfl) ?_
    refine g_Shelf_sizes X hP hb_0_0 tw_1 dX6_isOne_6 ?_
    refine len_sizes X hP hb_0_0 dX6_isOne_9 ?_
    refine lv_icmp_ge (tgt := 17) hx hb dX6_isOne_10 (by decide) (fun c2 => ?_) (fun c2 => ?_)
    · rw [if_pos c2] at hf
      refine lv_iconst (v := (0 : Int32)) hx hb dX6_isOne_17 (by decide) ?_
      cases hf
      exact rtZ X hr hlk hP hS (Or.inl rfl) dX6_isOne_18
    · rw [if_neg c2] at hf
      refine lv_iconst (v := (1 : Int32)) hx hb dX6_isOne_13 (by decide) ?_
      refine lv_goto (tgt := 18) hx hb dX6_isOne_14 (by decide) ?_
      cases hf
      exact rtZ X hr hlk hP hS (Or.inr rfl) dX6_isOne_18
/-! X6_isPlace -/
section
variable {p : Program} {l : Launch} {e : Env} {s : State} {m : MethodId} {args : Array Value} {below : List Frame} {meth : Method} {c : Code}
variable {D : va_G} {cI cP cB cA : ClassId} {ad : Nat → Nat} {tL tC : Nat}
end
set_option maxHeartbeats 4000000 in
set_option maxRecDepth 100000 in
theorem m_X6_isPlace {l : Launch} {D : va_G} {cI cP cB cA : ClassId} {ad : Nat → Nat} {tL tC : Nat} {z0 : Nat} {x1 : Int32} {x2 : Int32} (hb_0_0 : z0 < 2) {S : Stt} {res : Int32 × Stt} (hf : f_X6_isPlace z0 x1 x2 S = some res) : Ct l D cI cP cB cA 79 ad tL tC yX6_isPlace cX6_isPlace 3 (some .boolean) 1 [.ref (ad (1 + z0)), .int x1, .int x2] (cfC ad cI cP cB cA S) (QI D 79 ad res.1 (cfC ad cI cP cB cA res.2)) := by
  refine ctOf (by decide) (Nat.le_of_ble_eq_true rfl) ?_
  intro p e s m args below meth c ls X hr hlk hP hl
  have hS : va_S (Ar 79 ad) s.heap s.heap [] := va_S.rf
  have hx := X.1.1
  have hb := X.1.2.1
  have hl : lv_has ls 3 [(0, .ref (ad (1 + z0))), (1, .int x1), (2, .int x2)] := hl
  unfold f_X6_isPlace at hf
  refine lv_iload_n hx hb dX6_isPlace_0 rfl (lv_at hl 2 rfl) ?_
  refine lv_if_lt (tgt := 18) hx hb dX6_isPlace_1 (by decide) (fun c1 => ?_) (fun c1 => ?_)
  · rw [if_pos c1] at hf
    refine lv_iconst (v := (0 : Int32)) hx hb dX6_isPlace_18 (by decide) ?_
    cases hf
    exact rtZ X hr hlk hP hS (Or.inl rfl) dX6_isPlace_19
  · rw [if_neg c1] at hf
    refine lv_iload_n hx hb dX6_isPlace_4 rfl (lv_at hl 2 rfl) ?_
    refine lv_aload_n hx hb dX6_isPlace_5 rfl (lv_at hl 0 rfl) ?_
    refine g_Shelf_sizes X hP hb_0_0 tw_1 dX6_isPlace_6 ?_
    refine lv_iload_n hx hb dX6_isPlace_9 rfl (lv_at hl 1 rfl) ?_
    obtain ⟨g2, hf⟩ := grd_some hf
    refine r_sizes X hP hb_0_0 g2 dX6_isPlace_10 ?_
    refine lv_icmp_ge (tgt := 18) hx hb dX6_isPlace_11 (by decide) (fun c3 => ?_) (fun c3 => ?_)
    · rw [if_pos c3] at hf
      refine lv_iconst (v := (0 : Int32)) hx hb dX6_isPlace_18 (by decide) ?_
      cases hf
      exact rtZ X hr hlk hP hS (Or.inl rfl) dX6_isPlace_19
    · rw [if_neg c3] at hf
      refine lv_iconst (v := (1 : Int32)) hx hb dX6_isPlace_14 (by decide) ?_
      refine lv_goto (tgt := 19) hx hb dX6_isPlace_15 (by decide) ?_
      cases hf
      exact rtZ X hr hlk hP hS (Or.inr rfl) dX6_isPlace_19
/-! X6_isThere -/
section
variable {p : Program} {l : Launch} {e : Env} {s : State} {m : MethodId} {args : Array Value} {below : List Frame} {meth : Method} {c : Code}
variable {D : va_G} {cI cP cB cA : ClassId} {ad : Nat → Nat} {tL tC : Nat}
end
set_option maxHeartbeats 4000000 in
set_option maxRecDepth 100000 in
theorem m_X6_isThere {l : Launch} {D : va_G} {cI cP cB cA : ClassId} {ad : Nat → Nat} {tL tC : Nat} {z0 : Nat} {x1 : Int32} (hb_0_0 : z0 < 2) {S : Stt} {res : Int32 × Stt} (hf : f_X6_isThere z0 x1 S = some res) : Ct l D cI cP cB cA 79 ad tL tC yX6_isThere cX6_isThere 2 (some .boolean) 1 [.ref (ad (1 + z0)), .int x1] (cfC ad cI cP cB cA S) (QI D 79 ad res.1 (cfC ad cI cP cB cA res.2)) := by
  refine ctOf (by decide) (Nat.le_of_ble_eq_true rfl) ?_
  intro p e s m args below meth c ls X hr hlk hP hl
  have hS : va_S (Ar 79 ad) s.heap s.heap [] := va_S.rf
  have hx := X.1.1
  have hb := X.1.2.1
  have hl : lv_has ls 2 [(0, .ref (ad (1 + z0))), (1, .int x1)] := hl
  unfold f_X6_isThere at hf
  refine lv_aload_n hx hb dX6_isThere_0 rfl (lv_at hl 0 rfl) ?_
  refine g_Shelf_sizes X hP hb_0_0 tw_1 dX6_isThere_1 ?_
  refine lv_iload_n hx hb dX6_isThere_4 rfl (lv_at hl 1 rfl) ?_
  obtain ⟨g1, hf⟩ := grd_some hf
  refine r_sizes X hP hb_0_0 g1 dX6_isThere_5 ?_
  refine lv_iconst (v := (-1 : Int32)) hx hb dX6_isThere_6 (by decide) ?_
  refine lv_icmp_eq (tgt := 14) hx hb dX6_isThere_7 (by decide) (fun c2 => ?_) (fun c2 => ?_)
  · rw [if_pos c2] at hf
    refine lv_iconst (v := (0 : Int32)) hx hb dX6_isThere_14 (by decide) ?_
    cases hf
    exact rtZ X hr hlk hP hS (Or.inl rfl) dX6_isThere_15
  · rw [if_neg c2] at hf
    refine lv_iconst (v := (1 : Int32)) hx hb dX6_isThere_10 (by decide) ?_
    refine lv_goto (tgt := 15) hx hb dX6_isThere_11 (by decide) ?_
    cases hf
    exact rtZ X hr hlk hP hS (Or.inr rfl) dX6_isThere_15
/-! X6_make -/
section
variable {p : Program} {l : Launch} {e : Env} {s : State} {m : MethodId} {args : Array Value} {below : List Frame} {meth : Method} {c : Code}
variable {D : va_G} {cI cP cB cA : ClassId} {ad : Nat → Nat} {tL tC : Nat}
set_option maxHeartbeats 4000000 in
set_option maxRecDepth 100000 in
theorem vb_X6_make_10 (X : Cx D cI cP cB cA 79 ad tL tC p s m c cX6_make 5 args RX6) (hr : meth.sig.returnType = none) (hlk : meth.locks = false) {res : Stt} (kb : Nat → Int32 → Int32 → Int32 → Int32 → Stt → Option (Stt)) (ke : Stt → Option (Stt)) (hkb : ∀ (z0 : Nat) (x1 : Int32) (x2 : Int32) (x3 : Int32) (x4 : Int32) (S : Stt) (H : Heap) (locs : List Loc) (ls : Array Slot), kb z0 x1 x2 x3 x4 S = some res → z0 < 2 → va_P D vwCl (wl 79 ad (cfC ad cI cP cB cA S)) H → va_S (Ar 79 ad) s.heap H locs → lv_has ls 5 [(0, .ref (ad (1 + z0))), (1, .int x1), (2, .int x2), (3, .int x3), (4, .int x4)] → W p l e (rmD 1) s m args below meth c H locs 0 0 (MQ below (QV D 79 ad (cfC ad cI cP cB cA res)) args s 0 0 (Ar 79 ad)) (F0 m 10 ls [])) (hke : ∀ (S : Stt) (H : Heap) (locs : List Loc) (ls : Array Slot), ke S = some res → va_P D vwCl (wl 79 ad (cfC ad cI cP cB cA S)) H → va_S (Ar 79 ad) s.heap H locs → lv_has ls 5 [] → W p l e (rmD 1) s m args below meth c H locs 0 0 (MQ below (QV D 79 ad (cfC ad cI cP cB cA res)) args s 0 0 (Ar 79 ad)) (F0 m 32 ls [])) : ∀ (z0 : Nat) (x1 : Int32) (x2 : Int32) (x3 : Int32) (x4 : Int32) (S : Stt) (H : Heap) (locs : List Loc) (ls : Array Slot), fb_X6_make_10 kb ke z0 x1 x2 x3 x4 S = some res → z0 < 2 → va_P D vwCl (wl 79 ad (cfC ad cI cP cB cA S)) H → va_S (Ar 79 ad) s.heap H locs → lv_has ls 5 [(0, .ref (ad (1 + z0))), (1, .int x1), (2, .int x2), (3, .int x3), (4, .int x4)] → W p l e (rmD 1) s m args below meth c H locs 0 0 (MQ below (QV D 79 ad (cfC ad cI cP cB cA res)) args s 0 0 (Ar 79 ad)) (F0 m 10 ls []) := by
  intro z0 x1 x2 x3 x4 S H locs ls hf hb_0_0 hP hS hl
  have hx := X.1.1
  have hb := X.1.2.1
  unfold fb_X6_make_10 at hf
  refine lv_iload hx hb dX6_make_10 (lv_at hl 4 rfl) ?_
  refine lv_iload_n hx hb dX6_make_12 rfl (lv_at hl 2 rfl) ?_
  refine lv_icmp_ge (tgt := 32) hx hb dX6_make_13 (by decide) (fun c2 => ?_) (fun c2 => ?_)
  · rw [if_pos c2] at hf
    exact hke  _ _ _ ls hf  hP hS (lv_sub hl [] rfl)
  · rw [if_neg c2] at hf
    refine lv_aload_n hx hb dX6_make_16 rfl (lv_at hl 0 rfl) ?_
    refine g_Shelf_places X hP hb_0_0 tw_0 dX6_make_17 ?_
    refine lv_iload_n hx hb dX6_make_20 rfl (lv_at hl 1 rfl) ?_
    obtain ⟨g3, hf⟩ := grd_some hf
    refine q_grid X hP hb_0_0 g3 dX6_make_21 ?_
    refine lv_iload hx hb dX6_make_22 (lv_at hl 4 rfl) ?_
    refine lv_iload_n hx hb dX6_make_24 rfl (lv_at hl 3 rfl) ?_
    obtain ⟨g4, hf⟩ := grd_some hf
    refine w_inner X hP hS hb_0_0 (ixb_lt g3) g4 dX6_make_25 (fun H locs hP hS => ?_)
    refine lv_iinc (v := (x4 + (1 : Int32))) (lv' := [(4, .int (x4 + (1 : Int32))), (0, .ref (ad (1 + z0))), (1, .int x1), (2, .int x2), (3, .int x3)]) hx hb dX6_make_26 hl (k := 4) rfl rfl (by decide) rfl (fun ls hl => ?_)
    refine lv_goto (tgt := 10) hx hb dX6_make_29 (by decide) ?_
    exact hkb _ _ _ _ _ _ _ _ ls hf hb_0_0 hP hS (lv_sub hl [1, 2, 3, 4, 0] rfl)
set_option maxHeartbeats 4000000 in
set_option maxRecDepth 100000 in
theorem vl_X6_make_10 (X : Cx D cI cP cB cA 79 ad tL tC p s m c cX6_make 5 args RX6) (hr : meth.sig.returnType = none) (hlk : meth.locks = false) {res : Stt} (ke : Stt → Option (Stt)) (hke : ∀ (S : Stt) (H : Heap) (locs : List Loc) (ls : Array Slot), ke S = some res → va_P D vwCl (wl 79 ad (cfC ad cI cP cB cA S)) H → va_S (Ar 79 ad) s.heap H locs → lv_has ls 5 [] → W p l e (rmD 1) s m args below meth c H locs 0 0 (MQ below (QV D 79 ad (cfC ad cI cP cB cA res)) args s 0 0 (Ar 79 ad)) (F0 m 32 ls [])) : ∀ (n : Nat), ∀ (z0 : Nat) (x1 : Int32) (x2 : Int32) (x3 : Int32) (x4 : Int32) (S : Stt) (H : Heap) (locs : List Loc) (ls : Array Slot), fl_X6_make_10 ke n z0 x1 x2 x3 x4 S = some res → z0 < 2 → va_P D vwCl (wl 79 ad (cfC ad cI cP cB cA S)) H → va_S (Ar 79 ad) s.heap H locs → lv_has ls 5 [(0, .ref (ad (1 + z0))), (1, .int x1), (2, .int x2), (3, .int x3), (4, .int x4)] → W p l e (rmD 1) s m args below meth c H locs 0 0 (MQ below (QV D 79 ad (cfC ad cI cP cB cA res)) args s 0 0 (Ar 79 ad)) (F0 m 10 ls []) := by
  intro n
  induction n with
  | zero =>
    intro z0 x1 x2 x3 x4 S H locs ls hf hb_0_0 hP hS hl
    cases hf
  | succ n ih =>
    intro z0 x1 x2 x3 x4 S H locs ls hf hb_0_0 hP hS hl
    exact vb_X6_make_10 X hr hlk _ ke ih hke z0 x1 x2 x3 x4 S H locs ls hf hb_0_0 hP hS hl
end
set_option maxHeartbeats 4000000 in
set_option maxRecDepth 100000 in
theorem m_X6_make {l : Launch} {D : va_G} {cI cP cB cA : ClassId} {ad : Nat → Nat} {tL tC : Nat} {z0 : Nat} {x1 : Int32} {x2 : Int32} {x3 : Int32} (hb_0_0 : z0 < 2) {S : Stt} {res : Stt} (hf : f_X6_make z0 x1 x2 x3 S = some res) : Ct l D cI cP cB cA 79 ad tL tC yX6_make cX6_make 5 none 1 [.ref (ad (1 + z0)), .int x1, .int x2, .int x3] (cfC ad cI cP cB cA S) (QV D 79 ad (cfC ad cI cP cB cA res)) := by
  refine ctOf (by decide) (Nat.le_of_ble_eq_true rfl) ?_
  intro p e s m args below meth c ls X hr hlk hP hl
  have hS : va_S (Ar 79 ad) s.heap s.heap [] := va_S.rf
  have hx := X.1.1
  have hb := X.1.2.1
  have hl : lv_has ls 5 [(0, .ref (ad (1 + z0))), (1, .int x1), (2, .int x2), (3, .int x3)] := hl
  unfold f_X6_make at hf
  refine lv_aload_n hx hb dX6_make_0 rfl (lv_at hl 0 rfl) ?_
  refine g_Shelf_sizes X hP hb_0_0 tw_1 dX6_make_1 ?_
  refine lv_iload_n hx hb dX6_make_4 rfl (lv_at hl 1 rfl) ?_
  refine lv_iload_n hx hb dX6_make_5 rfl (lv_at hl 2 rfl) ?_
  obtain ⟨g1, hf⟩ := grd_some hf
  refine w_sizes X hP hS hb_0_0 g1 dX6_make_6 (fun H locs hP hS => ?_)
  refine lv_iconst (v := (0 : Int32)) hx hb dX6_make_7 (by decide) ?_
  refine lv_istore (lv' := [(4, .int (0 : Int32)), (0, .ref (ad (1 + z0))), (1, .int x1), (2, .int x2), (3, .int x3)]) hx hb dX6_make_8 hl (by decide) rfl (fun ls hl => ?_)
  refine vl_X6_make_10 X hr hlk _ ?_ 300 _ _ _ _ _ _ _ _ ls hf hb_0_0 hP hS (lv_sub hl [1, 2, 3, 4, 0] rfl)
  intro S H locs ls hf hP hS hl
  cases hf
  exact rtV X hr hlk hP hS dX6_make_32
/-! X6_placeOf -/
section
variable {p : Program} {l : Launch} {e : Env} {s : State} {m : MethodId} {args : Array Value} {below : List Frame} {meth : Method} {c : Code}
variable {D : va_G} {cI cP cB cA : ClassId} {ad : Nat → Nat} {tL tC : Nat}
end
set_option maxHeartbeats 4000000 in
set_option maxRecDepth 100000 in
theorem m_X6_placeOf {l : Launch} {D : va_G} {cI cP cB cA : ClassId} {ad : Nat → Nat} {tL tC : Nat} {z0 : Nat} {x1 : Int32} {x2 : Int32} (hb_0_0 : z0 < 2) {S : Stt} {res : Int32 × Stt} (hf : f_X6_placeOf z0 x1 x2 S = some res) : Ct l D cI cP cB cA 79 ad tL tC yX6_placeOf cX6_placeOf 3 (some .int) 1 [.ref (ad (1 + z0)), .int x1, .int x2] (cfC ad cI cP cB cA S) (QI D 79 ad res.1 (cfC ad cI cP cB cA res.2)) := by
  refine ctOf (by decide) (Nat.le_of_ble_eq_true rfl) ?_
  intro p e s m args below meth c ls X hr hlk hP hl
  have hS : va_S (Ar 79 ad) s.heap s.heap [] := va_S.rf
  have hx := X.1.1
  have hb := X.1.2.1
  have hl : lv_has ls 3 [(0, .ref (ad (1 + z0))), (1, .int x1), (2, .int x2)] := hl
  unfold f_X6_placeOf at hf
  refine lv_aload_n hx hb dX6_placeOf_0 rfl (lv_at hl 0 rfl) ?_
  refine g_Shelf_places X hP hb_0_0 tw_0 dX6_placeOf_1 ?_
  refine lv_iload_n hx hb dX6_placeOf_4 rfl (lv_at hl 1 rfl) ?_
  obtain ⟨g1, hf⟩ := grd_some hf
  refine q_grid X hP hb_0_0 g1 dX6_placeOf_5 ?_
  refine lv_iload_n hx hb dX6_placeOf_6 rfl (lv_at hl 2 rfl) ?_
  obtain ⟨g2, hf⟩ := grd_some hf
  refine r_inner X hP hb_0_0 (ixb_lt g1) g2 dX6_placeOf_7 ?_
  cases hf
  exact rtI X hr hlk hP hS dX6_placeOf_8
/-! X6_sizeOf -/
section
variable {p : Program} {l : Launch} {e : Env} {s : State} {m : MethodId} {args : Array Value} {below : List Frame} {meth : Method} {c : Code}
variable {D : va_G} {cI cP cB cA : ClassId} {ad : Nat → Nat} {tL tC : Nat}
end
set_option maxHeartbeats 4000000 in
set_option maxRecDepth 100000 in
theorem m_X6_sizeOf {l : Launch} {D : va_G} {cI cP cB cA : ClassId} {ad : Nat → Nat} {tL tC : Nat} {z0 : Nat} {x1 : Int32} (hb_0_0 : z0 < 2) {S : Stt} {res : Int32 × Stt} (hf : f_X6_sizeOf z0 x1 S = some res) : Ct l D cI cP cB cA 79 ad tL tC yX6_sizeOf cX6_sizeOf 2 (some .int) 1 [.ref (ad (1 + z0)), .int x1] (cfC ad cI cP cB cA S) (QI D 79 ad res.1 (cfC ad cI cP cB cA res.2)) := by
  refine ctOf (by decide) (Nat.le_of_ble_eq_true rfl) ?_
  intro p e s m args below meth c ls X hr hlk hP hl
  have hS : va_S (Ar 79 ad) s.heap s.heap [] := va_S.rf
  have hx := X.1.1
  have hb := X.1.2.1
  have hl : lv_has ls 2 [(0, .ref (ad (1 + z0))), (1, .int x1)] := hl
  unfold f_X6_sizeOf at hf
  refine lv_aload_n hx hb dX6_sizeOf_0 rfl (lv_at hl 0 rfl) ?_
  refine g_Shelf_sizes X hP hb_0_0 tw_1 dX6_sizeOf_1 ?_
  refine lv_iload_n hx hb dX6_sizeOf_4 rfl (lv_at hl 1 rfl) ?_
  obtain ⟨g1, hf⟩ := grd_some hf
  refine r_sizes X hP hb_0_0 g1 dX6_sizeOf_5 ?_
  cases hf
  exact rtI X hr hlk hP hS dX6_sizeOf_6
/-! X6_sumOf -/
section
variable {p : Program} {l : Launch} {e : Env} {s : State} {m : MethodId} {args : Array Value} {below : List Frame} {meth : Method} {c : Code}
variable {D : va_G} {cI cP cB cA : ClassId} {ad : Nat → Nat} {tL tC : Nat}
set_option maxHeartbeats 4000000 in
set_option maxRecDepth 100000 in
theorem vb_X6_sumOf_5 (X : Cx D cI cP cB cA 79 ad tL tC p s m c cX6_sumOf 5 args RX6) (hr : meth.sig.returnType = (some .long)) (hlk : meth.locks = false) {res : Int64 × Stt} (kb : Nat → Int32 → Int64 → Int32 → Stt → Option (Int64 × Stt)) (ke : Int64 → Stt → Option (Int64 × Stt)) (hkb : ∀ (z0 : Nat) (x1 : Int32) (y2 : Int64) (x4 : Int32) (S : Stt) (H : Heap) (locs : List Loc) (ls : Array Slot), kb z0 x1 y2 x4 S = some res → z0 < 2 → va_P D vwCl (wl 79 ad (cfC ad cI cP cB cA S)) H → va_S (Ar 79 ad) s.heap H locs → lv_has ls 5 [(0, .ref (ad (1 + z0))), (1, .int x1), (2, .long y2), (4, .int x4)] → W p l e (rmD 1) s m args below meth c H locs 0 0 (MQ below (QL D 79 ad res.1 (cfC ad cI cP cB cA res.2)) args s 0 0 (Ar 79 ad)) (F0 m 5 ls [])) (hke : ∀ (y2 : Int64) (S : Stt) (H : Heap) (locs : List Loc) (ls : Array Slot), ke y2 S = some res → va_P D vwCl (wl 79 ad (cfC ad cI cP cB cA S)) H → va_S (Ar 79 ad) s.heap H locs → lv_has ls 5 [(2, .long y2)] → W p l e (rmD 1) s m args below meth c H locs 0 0 (MQ below (QL D 79 ad res.1 (cfC ad cI cP cB cA res.2)) args s 0 0 (Ar 79 ad)) (F0 m 35 ls [])) : ∀ (z0 : Nat) (x1 : Int32) (y2 : Int64) (x4 : Int32) (S : Stt) (H : Heap) (locs : List Loc) (ls : Array Slot), fb_X6_sumOf_5 kb ke z0 x1 y2 x4 S = some res → z0 < 2 → va_P D vwCl (wl 79 ad (cfC ad cI cP cB cA S)) H → va_S (Ar 79 ad) s.heap H locs → lv_has ls 5 [(0, .ref (ad (1 + z0))), (1, .int x1), (2, .long y2), (4, .int x4)] → W p l e (rmD 1) s m args below meth c H locs 0 0 (MQ below (QL D 79 ad res.1 (cfC ad cI cP cB cA res.2)) args s 0 0 (Ar 79 ad)) (F0 m 5 ls []) := by
  intro z0 x1 y2 x4 S H locs ls hf hb_0_0 hP hS hl
  have hx := X.1.1
  have hb := X.1.2.1
  unfold fb_X6_sumOf_5 at hf
  refine lv_iload hx hb dX6_sumOf_5 (lv_at hl 3 rfl) ?_
  refine lv_aload_n hx hb dX6_sumOf_7 rfl (lv_at hl 0 rfl) ?_
  refine g_Shelf_sizes X hP hb_0_0 tw_1 dX6_sumOf_8 ?_
  refine lv_iload_n hx hb dX6_sumOf_11 rfl (lv_at hl 1 rfl) ?_
  obtain ⟨g1, hf⟩ := grd_some hf
  refine r_sizes X hP hb_0_0 g1 dX6_sumOf_12 ?_
  refine lv_icmp_ge (tgt := 35) hx hb dX6_sumOf_13 (by decide) (fun c2 => ?_) (fun c2 => ?_)
  · rw [if_pos c2] at hf
    exact hke _ _ _ _ ls hf  hP hS (lv_sub hl [2] rfl)
  · rw [if_neg c2] at hf
    refine lv_lload_n hx hb dX6_sumOf_16 rfl (lv_at hl 2 rfl) ?_
    refine lv_aload_n hx hb dX6_sumOf_17 rfl (lv_at hl 0 rfl) ?_
    refine g_Shelf_places X hP hb_0_0 tw_0 dX6_sumOf_18 ?_
    refine lv_iload_n hx hb dX6_sumOf_21 rfl (lv_at hl 1 rfl) ?_
    obtain ⟨g3, hf⟩ := grd_some hf
    refine q_grid X hP hb_0_0 g3 dX6_sumOf_22 ?_
    refine lv_iload hx hb dX6_sumOf_23 (lv_at hl 3 rfl) ?_
    obtain ⟨g4, hf⟩ := grd_some hf
    refine r_inner X hP hb_0_0 (ixb_lt g3) g4 dX6_sumOf_25 ?_
    refine lv_i2l hx hb dX6_sumOf_26 rfl ?_
    refine lv_ladd hx hb dX6_sumOf_27 ?_
    refine lv_lstore_n (lv' := [(2, .long (y2 + (S.1 (20 + z0) x1.toNatClampNeg x4.toNatClampNeg).toInt64)), (0, .ref (ad (1 + z0))), (1, .int x1), (4, .int x4)]) hx hb dX6_sumOf_28 rfl hl (by decide) rfl (fun ls hl => ?_)
    refine lv_iinc (v := (x4 + (1 : Int32))) (lv' := [(4, .int (x4 + (1 : Int32))), (2, .long (y2 + (S.1 (20 + z0) x1.toNatClampNeg x4.toNatClampNeg).toInt64)), (0, .ref (ad (1 + z0))), (1, .int x1)]) hx hb dX6_sumOf_29 hl (k := 3) rfl rfl (by decide) rfl (fun ls hl => ?_)
    refine lv_goto (tgt := 5) hx hb dX6_sumOf_32 (by decide) ?_
    exact hkb _ _ _ _ _ _ _ ls hf hb_0_0 hP hS (lv_sub hl [2, 3, 1, 0] rfl)
set_option maxHeartbeats 4000000 in
set_option maxRecDepth 100000 in
theorem vl_X6_sumOf_5 (X : Cx D cI cP cB cA 79 ad tL tC p s m c cX6_sumOf 5 args RX6) (hr : meth.sig.returnType = (some .long)) (hlk : meth.locks = false) {res : Int64 × Stt} (ke : Int64 → Stt → Option (Int64 × Stt)) (hke : ∀ (y2 : Int64) (S : Stt) (H : Heap) (locs : List Loc) (ls : Array Slot), ke y2 S = some res → va_P D vwCl (wl 79 ad (cfC ad cI cP cB cA S)) H → va_S (Ar 79 ad) s.heap H locs → lv_has ls 5 [(2, .long y2)] → W p l e (rmD 1) s m args below meth c H locs 0 0 (MQ below (QL D 79 ad res.1 (cfC ad cI cP cB cA res.2)) args s 0 0 (Ar 79 ad)) (F0 m 35 ls [])) : ∀ (n : Nat), ∀ (z0 : Nat) (x1 : Int32) (y2 : Int64) (x4 : Int32) (S : Stt) (H : Heap) (locs : List Loc) (ls : Array Slot), fl_X6_sumOf_5 ke n z0 x1 y2 x4 S = some res → z0 < 2 → va_P D vwCl (wl 79 ad (cfC ad cI cP cB cA S)) H → va_S (Ar 79 ad) s.heap H locs → lv_has ls 5 [(0, .ref (ad (1 + z0))), (1, .int x1), (2, .long y2), (4, .int x4)] → W p l e (rmD 1) s m args below meth c H locs 0 0 (MQ below (QL D 79 ad res.1 (cfC ad cI cP cB cA res.2)) args s 0 0 (Ar 79 ad)) (F0 m 5 ls []) := by
  intro n
  induction n with
  | zero =>
    intro z0 x1 y2 x4 S H locs ls hf hb_0_0 hP hS hl
    cases hf
  | succ n ih =>
    intro z0 x1 y2 x4 S H locs ls hf hb_0_0 hP hS hl
    exact vb_X6_sumOf_5 X hr hlk _ ke ih hke z0 x1 y2 x4 S H locs ls hf hb_0_0 hP hS hl
end
set_option maxHeartbeats 4000000 in
set_option maxRecDepth 100000 in
theorem m_X6_sumOf {l : Launch} {D : va_G} {cI cP cB cA : ClassId} {ad : Nat → Nat} {tL tC : Nat} {z0 : Nat} {x1 : Int32} (hb_0_0 : z0 < 2) {S : Stt} {res : Int64 × Stt} (hf : f_X6_sumOf z0 x1 S = some res) : Ct l D cI cP cB cA 79 ad tL tC yX6_sumOf cX6_sumOf 5 (some .long) 1 [.ref (ad (1 + z0)), .int x1] (cfC ad cI cP cB cA S) (QL D 79 ad res.1 (cfC ad cI cP cB cA res.2)) := by
  refine ctOf (by decide) (Nat.le_of_ble_eq_true rfl) ?_
  intro p e s m args below meth c ls X hr hlk hP hl
  have hS : va_S (Ar 79 ad) s.heap s.heap [] := va_S.rf
  have hx := X.1.1
  have hb := X.1.2.1
  have hl : lv_has ls 5 [(0, .ref (ad (1 + z0))), (1, .int x1)] := hl
  unfold f_X6_sumOf at hf
  refine lv_lconst (v := (0 : Int64)) hx hb dX6_sumOf_0 (by decide) ?_
  refine lv_lstore_n (lv' := [(2, .long (0 : Int64)), (0, .ref (ad (1 + z0))), (1, .int x1)]) hx hb dX6_sumOf_1 rfl hl (by decide) rfl (fun ls hl => ?_)
  refine lv_iconst (v := (0 : Int32)) hx hb dX6_sumOf_2 (by decide) ?_
  refine lv_istore (lv' := [(4, .int (0 : Int32)), (2, .long (0 : Int64)), (0, .ref (ad (1 + z0))), (1, .int x1)]) hx hb dX6_sumOf_3 hl (by decide) rfl (fun ls hl => ?_)
  refine vl_X6_sumOf_5 X hr hlk _ ?_ 300 _ _ _ _ _ _ _ ls hf hb_0_0 hP hS (lv_sub hl [2, 3, 1, 0] rfl)
  intro y2 S H locs ls hf hP hS hl
  refine lv_lload_n hx hb dX6_sumOf_35 rfl (lv_at hl 0 rfl) ?_
  cases hf
  exact rtL X hr hlk hP hS dX6_sumOf_36
/-! X6_write -/
section
variable {p : Program} {l : Launch} {e : Env} {s : State} {m : MethodId} {args : Array Value} {below : List Frame} {meth : Method} {c : Code}
variable {D : va_G} {cI cP cB cA : ClassId} {ad : Nat → Nat} {tL tC : Nat}
end
set_option maxHeartbeats 4000000 in
set_option maxRecDepth 100000 in
theorem m_X6_write {l : Launch} {D : va_G} {cI cP cB cA : ClassId} {ad : Nat → Nat} {tL tC : Nat} {z0 : Nat} {x1 : Int32} {x2 : Int32} {x3 : Int32} (hb_0_0 : z0 < 2) {S : Stt} {res : Stt} (hf : f_X6_write z0 x1 x2 x3 S = some res) : Ct l D cI cP cB cA 79 ad tL tC yX6_write cX6_write 4 none 1 [.ref (ad (1 + z0)), .int x1, .int x2, .int x3] (cfC ad cI cP cB cA S) (QV D 79 ad (cfC ad cI cP cB cA res)) := by
  refine ctOf (by decide) (Nat.le_of_ble_eq_true rfl) ?_
  intro p e s m args below meth c ls X hr hlk hP hl
  have hS : va_S (Ar 79 ad) s.heap s.heap [] := va_S.rf
  have hx := X.1.1
  have hb := X.1.2.1
  have hl : lv_has ls 4 [(0, .ref (ad (1 + z0))), (1, .int x1), (2, .int x2), (3, .int x3)] := hl
  unfold f_X6_write at hf
  refine lv_aload_n hx hb dX6_write_0 rfl (lv_at hl 0 rfl) ?_
  refine g_Shelf_places X hP hb_0_0 tw_0 dX6_write_1 ?_
  refine lv_iload_n hx hb dX6_write_4 rfl (lv_at hl 1 rfl) ?_
  obtain ⟨g1, hf⟩ := grd_some hf
  refine q_grid X hP hb_0_0 g1 dX6_write_5 ?_
  refine lv_iload_n hx hb dX6_write_6 rfl (lv_at hl 2 rfl) ?_
  refine lv_iload_n hx hb dX6_write_7 rfl (lv_at hl 3 rfl) ?_
  obtain ⟨g2, hf⟩ := grd_some hf
  refine w_inner X hP hS hb_0_0 (ixb_lt g1) g2 dX6_write_8 (fun H locs hP hS => ?_)
  cases hf
  exact rtV X hr hlk hP hS dX6_write_9
/-! X7_asked -/
section
variable {p : Program} {l : Launch} {e : Env} {s : State} {m : MethodId} {args : Array Value} {below : List Frame} {meth : Method} {c : Code}
variable {D : va_G} {cI cP cB cA : ClassId} {ad : Nat → Nat} {tL tC : Nat}
end
set_option maxHeartbeats 4000000 in
set_option maxRecDepth 100000 in
theorem m_X7_asked {l : Launch} {D : va_G} {cI cP cB cA : ClassId} {ad : Nat → Nat} {tL tC : Nat} {S : Stt} {res : Int32 × Stt} (hf : f_X7_asked  S = some res) : Ct l D cI cP cB cA 79 ad tL tC yX7_asked cX7_asked 1 (some .int) 1 [.ref (ad 0)] (cfC ad cI cP cB cA S) (QI D 79 ad res.1 (cfC ad cI cP cB cA res.2)) := by
  refine ctOf (by decide) (Nat.le_of_ble_eq_true rfl) ?_
  intro p e s m args below meth c ls X hr hlk hP hl
  have hS : va_S (Ar 79 ad) s.heap s.heap [] := va_S.rf
  have hx := X.1.1
  have hb := X.1.2.1
  have hl : lv_has ls 1 [(0, .ref (ad 0))] := hl
  unfold f_X7_asked at hf
  refine lv_aload_n hx hb dX7_asked_0 rfl (lv_at hl 0 rfl) ?_
  refine g_LP_lastAsked X hP  tw_71 dX7_asked_1 ?_
  cases hf
  exact rtI X hr hlk hP hS dX7_asked_4
/-! X7_finding -/
section
variable {p : Program} {l : Launch} {e : Env} {s : State} {m : MethodId} {args : Array Value} {below : List Frame} {meth : Method} {c : Code}
variable {D : va_G} {cI cP cB cA : ClassId} {ad : Nat → Nat} {tL tC : Nat}
end
set_option maxHeartbeats 4000000 in
set_option maxRecDepth 100000 in
theorem m_X7_finding {l : Launch} {D : va_G} {cI cP cB cA : ClassId} {ad : Nat → Nat} {tL tC : Nat} {S : Stt} {res : Int32 × Stt} (hf : f_X7_finding  S = some res) : Ct l D cI cP cB cA 79 ad tL tC yX7_finding cX7_finding 1 (some .int) 1 [.ref (ad 0)] (cfC ad cI cP cB cA S) (QI D 79 ad res.1 (cfC ad cI cP cB cA res.2)) := by
  refine ctOf (by decide) (Nat.le_of_ble_eq_true rfl) ?_
  intro p e s m args below meth c ls X hr hlk hP hl
  have hS : va_S (Ar 79 ad) s.heap s.heap [] := va_S.rf
  have hx := X.1.1
  have hb := X.1.2.1
  have hl : lv_has ls 1 [(0, .ref (ad 0))] := hl
  unfold f_X7_finding at hf
  refine lv_aload_n hx hb dX7_finding_0 rfl (lv_at hl 0 rfl) ?_
  refine g_LP_latestFinding X hP  tw_70 dX7_finding_1 ?_
  cases hf
  exact rtI X hr hlk hP hS dX7_finding_4
/-! X7_findings -/
section
variable {p : Program} {l : Launch} {e : Env} {s : State} {m : MethodId} {args : Array Value} {below : List Frame} {meth : Method} {c : Code}
variable {D : va_G} {cI cP cB cA : ClassId} {ad : Nat → Nat} {tL tC : Nat}
end
set_option maxHeartbeats 4000000 in
set_option maxRecDepth 100000 in
theorem m_X7_findings {l : Launch} {D : va_G} {cI cP cB cA : ClassId} {ad : Nat → Nat} {tL tC : Nat} {x1 : Int32} {S : Stt} {res : Int32 × Stt} (hf : f_X7_findings x1 S = some res) : Ct l D cI cP cB cA 79 ad tL tC yX7_findings cX7_findings 2 (some .int) 1 [.ref (ad 0), .int x1] (cfC ad cI cP cB cA S) (QI D 79 ad res.1 (cfC ad cI cP cB cA res.2)) := by
  refine ctOf (by decide) (Nat.le_of_ble_eq_true rfl) ?_
  intro p e s m args below meth c ls X hr hlk hP hl
  have hS : va_S (Ar 79 ad) s.heap s.heap [] := va_S.rf
  have hx := X.1.1
  have hb := X.1.2.1
  have hl : lv_has ls 2 [(0, .ref (ad 0)), (1, .int x1)] := hl
  unfold f_X7_findings at hf
  refine lv_iload_n hx hb dX7_findings_0 rfl (lv_at hl 1 rfl) ?_
  refine lv_iconst (v := (1 : Int32)) hx hb dX7_findings_1 (by decide) ?_
  refine lv_icmp_lt (tgt := 10) hx hb dX7_findings_2 (by decide) (fun c1 => ?_) (fun c1 => ?_)
  · rw [if_pos c1] at hf
    refine lv_iconst (v := (-1 : Int32)) hx hb dX7_findings_10 (by decide) ?_
    refine lv_goto (tgt := 20) hx hb dX7_findings_11 (by decide) ?_
    cases hf
    exact rtI X hr hlk hP hS dX7_findings_20
  · rw [if_neg c1] at hf
    refine lv_iload_n hx hb dX7_findings_5 rfl (lv_at hl 1 rfl) ?_
    refine lv_iconst (v := (5 : Int32)) hx hb dX7_findings_6 (by decide) ?_
    refine lv_icmp_le (tgt := 14) hx hb dX7_findings_7 (by decide) (fun c2 => ?_) (fun c2 => ?_)
    · rw [if_pos c2] at hf
      refine lv_aload_n hx hb dX7_findings_14 rfl (lv_at hl 0 rfl) ?_
      refine g_LP_found X hP  tw_69 dX7_findings_15 ?_
      refine lv_iload_n hx hb dX7_findings_18 rfl (lv_at hl 1 rfl) ?_
      obtain ⟨g3, hf⟩ := grd_some hf
      refine r_found X hP  g3 dX7_findings_19 ?_
      cases hf
      exact rtI X hr hlk hP hS dX7_findings_20
    · rw [if_neg c2] at hf
      refine lv_iconst (v := (-1 : Int32)) hx hb dX7_findings_10 (by decide) ?_
      refine lv_goto (tgt := 20) hx hb dX7_findings_11 (by decide) ?_
      cases hf
      exact rtI X hr hlk hP hS dX7_findings_20
/-! X7_hasBit -/
section
variable {p : Program} {l : Launch} {e : Env} {s : State} {m : MethodId} {args : Array Value} {below : List Frame} {meth : Method} {c : Code}
variable {D : va_G} {cI cP cB cA : ClassId} {ad : Nat → Nat} {tL tC : Nat}
end
set_option maxHeartbeats 4000000 in
set_option maxRecDepth 100000 in
theorem m_X7_hasBit {l : Launch} {D : va_G} {cI cP cB cA : ClassId} {ad : Nat → Nat} {tL tC : Nat} {x0 : Int32} {x1 : Int32} {S : Stt} {res : Int32 × Stt} (hf : f_X7_hasBit x0 x1 S = some res) : Ct l D cI cP cB cA 79 ad tL tC yX7_hasBit cX7_hasBit 2 (some .boolean) 1 [.int x0, .int x1] (cfC ad cI cP cB cA S) (QI D 79 ad res.1 (cfC ad cI cP cB cA res.2)) := by
  refine ctOf (by decide) (Nat.le_of_ble_eq_true rfl) ?_
  intro p e s m args below meth c ls X hr hlk hP hl
  have hS : va_S (Ar 79 ad) s.heap s.heap [] := va_S.rf
  have hx := X.1.1
  have hb := X.1.2.1
  have hl : lv_has ls 2 [(0, .int x0), (1, .int x1)] := hl
  unfold f_X7_hasBit at hf
  refine lv_iload_n hx hb dX7_hasBit_0 rfl (lv_at hl 0 rfl) ?_
  refine lv_iload_n hx hb dX7_hasBit_1 rfl (lv_at hl 1 rfl) ?_
  refine lv_ishr hx hb dX7_hasBit_2 ?_
  refine lv_iconst (v := (1 : Int32)) hx hb dX7_hasBit_3 (by decide) ?_
  refine lv_iand hx hb dX7_hasBit_4 ?_
  refine lv_if_eq (tgt := 12) hx hb dX7_hasBit_5 (by decide) (fun c1 => ?_) (fun c1 => ?_)
  · rw [if_pos c1] at hf
    refine lv_iconst (v := (0 : Int32)) hx hb dX7_hasBit_12 (by decide) ?_
    cases hf
    exact rtZ X hr hlk hP hS (Or.inl rfl) dX7_hasBit_13
  · rw [if_neg c1] at hf
    refine lv_iconst (v := (1 : Int32)) hx hb dX7_hasBit_8 (by decide) ?_
    refine lv_goto (tgt := 13) hx hb dX7_hasBit_9 (by decide) ?_
    cases hf
    exact rtZ X hr hlk hP hS (Or.inr rfl) dX7_hasBit_13
/-! X7_isCase -/
section
variable {p : Program} {l : Launch} {e : Env} {s : State} {m : MethodId} {args : Array Value} {below : List Frame} {meth : Method} {c : Code}
variable {D : va_G} {cI cP cB cA : ClassId} {ad : Nat → Nat} {tL tC : Nat}
end
set_option maxHeartbeats 4000000 in
set_option maxRecDepth 100000 in
theorem m_X7_isCase {l : Launch} {D : va_G} {cI cP cB cA : ClassId} {ad : Nat → Nat} {tL tC : Nat} {x0 : Int32} {S : Stt} {res : Int32 × Stt} (hf : f_X7_isCase x0 S = some res) : Ct l D cI cP cB cA 79 ad tL tC yX7_isCase cX7_isCase 1 (some .boolean) 1 [.int x0] (cfC ad cI cP cB cA S) (QI D 79 ad res.1 (cfC ad cI cP cB cA res.2)) := by
  refine ctOf (by decide) (Nat.le_of_ble_eq_true rfl) ?_
  intro p e s m args below meth c ls X hr hlk hP hl
  have hS : va_S (Ar 79 ad) s.heap s.heap [] := va_S.rf
  have hx := X.1.1
  have hb := X.1.2.1
  have hl : lv_has ls 1 [(0, .int x0)] := hl
  unfold f_X7_isCase at hf
  refine lv_iload_n hx hb dX7_isCase_0 rfl (lv_at hl 0 rfl) ?_
  refine lv_if_lt (tgt := 14) hx hb dX7_isCase_1 (by decide) (fun c1 => ?_) (fun c1 => ?_)
  · rw [if_pos c1] at hf
    refine lv_iconst (v := (0 : Int32)) hx hb dX7_isCase_14 (by decide) ?_
    cases hf
    exact rtZ X hr hlk hP hS (Or.inl rfl) dX7_isCase_15
  · rw [if_neg c1] at hf
    refine lv_iload_n hx hb dX7_isCase_4 rfl (lv_at hl 0 rfl) ?_
    refine lv_bipush (v := (32 : Int32)) hx hb dX7_isCase_5 (by decide) ?_
    refine lv_icmp_ge (tgt := 14) hx hb dX7_isCase_7 (by decide) (fun c2 => ?_) (fun c2 => ?_)
    · rw [if_pos c2] at hf
      refine lv_iconst (v := (0 : Int32)) hx hb dX7_isCase_14 (by decide) ?_
      cases hf
      exact rtZ X hr hlk hP hS (Or.inl rfl) dX7_isCase_15
    · rw [if_neg c2] at hf
      refine lv_iconst (v := (1 : Int32)) hx hb dX7_isCase_10 (by decide) ?_
      refine lv_goto (tgt := 15) hx hb dX7_isCase_11 (by decide) ?_
      cases hf
      exact rtZ X hr hlk hP hS (Or.inr rfl) dX7_isCase_15
/-! X7_isDay -/
section
variable {p : Program} {l : Launch} {e : Env} {s : State} {m : MethodId} {args : Array Value} {below : List Frame} {meth : Method} {c : Code}
variable {D : va_G} {cI cP cB cA : ClassId} {ad : Nat → Nat} {tL tC : Nat}
end
set_option maxHeartbeats 4000000 in
set_option maxRecDepth 100000 in
theorem m_X7_isDay {l : Launch} {D : va_G} {cI cP cB cA : ClassId} {ad : Nat → Nat} {tL tC : Nat} {x0 : Int32} {S : Stt} {res : Int32 × Stt} (hf : f_X7_isDay x0 S = some res) : Ct l D cI cP cB cA 79 ad tL tC yX7_isDay cX7_isDay 1 (some .boolean) 1 [.int x0] (cfC ad cI cP cB cA S) (QI D 79 ad res.1 (cfC ad cI cP cB cA res.2)) := by
  refine ctOf (by decide) (Nat.le_of_ble_eq_true rfl) ?_
  intro p e s m args below meth c ls X hr hlk hP hl
  have hS : va_S (Ar 79 ad) s.heap s.heap [] := va_S.rf
  have hx := X.1.1
  have hb := X.1.2.1
  have hl : lv_has ls 1 [(0, .int x0)] := hl
  unfold f_X7_isDay at hf
  refine lv_iload_n hx hb dX7_isDay_0 rfl (lv_at hl 0 rfl) ?_
  refine lv_if_lt (tgt := 14) hx hb dX7_isDay_1 (by decide) (fun c1 => ?_) (fun c1 => ?_)
  · rw [if_pos c1] at hf
    refine lv_iconst (v := (0 : Int32)) hx hb dX7_isDay_14 (by decide) ?_
    cases hf
    exact rtZ X hr hlk hP hS (Or.inl rfl) dX7_isDay_15
  · rw [if_neg c1] at hf
    refine lv_iload_n hx hb dX7_isDay_4 rfl (lv_at hl 0 rfl) ?_
    refine lv_bipush (v := (20 : Int32)) hx hb dX7_isDay_5 (by decide) ?_
    refine lv_icmp_gt (tgt := 14) hx hb dX7_isDay_7 (by decide) (fun c2 => ?_) (fun c2 => ?_)
    · rw [if_pos c2] at hf
      refine lv_iconst (v := (0 : Int32)) hx hb dX7_isDay_14 (by decide) ?_
      cases hf
      exact rtZ X hr hlk hP hS (Or.inl rfl) dX7_isDay_15
    · rw [if_neg c2] at hf
      refine lv_iconst (v := (1 : Int32)) hx hb dX7_isDay_10 (by decide) ?_
      refine lv_goto (tgt := 15) hx hb dX7_isDay_11 (by decide) ?_
      cases hf
      exact rtZ X hr hlk hP hS (Or.inr rfl) dX7_isDay_15
/-! X7_isShelf -/
section
variable {p : Program} {l : Launch} {e : Env} {s : State} {m : MethodId} {args : Array Value} {below : List Frame} {meth : Method} {c : Code}
variable {D : va_G} {cI cP cB cA : ClassId} {ad : Nat → Nat} {tL tC : Nat}
end
set_option maxHeartbeats 4000000 in
set_option maxRecDepth 100000 in
theorem m_X7_isShelf {l : Launch} {D : va_G} {cI cP cB cA : ClassId} {ad : Nat → Nat} {tL tC : Nat} {x0 : Int32} {S : Stt} {res : Int32 × Stt} (hf : f_X7_isShelf x0 S = some res) : Ct l D cI cP cB cA 79 ad tL tC yX7_isShelf cX7_isShelf 1 (some .boolean) 1 [.int x0] (cfC ad cI cP cB cA S) (QI D 79 ad res.1 (cfC ad cI cP cB cA res.2)) := by
  refine ctOf (by decide) (Nat.le_of_ble_eq_true rfl) ?_
  intro p e s m args below meth c ls X hr hlk hP hl
  have hS : va_S (Ar 79 ad) s.heap s.heap [] := va_S.rf
  have hx := X.1.1
  have hb := X.1.2.1
  have hl : lv_has ls 1 [(0, .int x0)] := hl
  unfold f_X7_isShelf at hf
  refine lv_iload_n hx hb dX7_isShelf_0 rfl (lv_at hl 0 rfl) ?_
  refine lv_if_lt (tgt := 13) hx hb dX7_isShelf_1 (by decide) (fun c1 => ?_) (fun c1 => ?_)
  · rw [if_pos c1] at hf
    refine lv_iconst (v := (0 : Int32)) hx hb dX7_isShelf_13 (by decide) ?_
    cases hf
    exact rtZ X hr hlk hP hS (Or.inl rfl) dX7_isShelf_14
  · rw [if_neg c1] at hf
    refine lv_iload_n hx hb dX7_isShelf_4 rfl (lv_at hl 0 rfl) ?_
    refine lv_iconst (v := (3 : Int32)) hx hb dX7_isShelf_5 (by decide) ?_
    refine lv_icmp_ge (tgt := 13) hx hb dX7_isShelf_6 (by decide) (fun c2 => ?_) (fun c2 => ?_)
    · rw [if_pos c2] at hf
      refine lv_iconst (v := (0 : Int32)) hx hb dX7_isShelf_13 (by decide) ?_
      cases hf
      exact rtZ X hr hlk hP hS (Or.inl rfl) dX7_isShelf_14
    · rw [if_neg c2] at hf
      refine lv_iconst (v := (1 : Int32)) hx hb dX7_isShelf_9 (by decide) ?_
      refine lv_goto (tgt := 14) hx hb dX7_isShelf_10 (by decide) ?_
      cases hf
      exact rtZ X hr hlk hP hS (Or.inr rfl) dX7_isShelf_14
/-! X7_isVerdict -/
section
variable {p : Program} {l : Launch} {e : Env} {s : State} {m : MethodId} {args : Array Value} {below : List Frame} {meth : Method} {c : Code}
variable {D : va_G} {cI cP cB cA : ClassId} {ad : Nat → Nat} {tL tC : Nat}
end
set_option maxHeartbeats 4000000 in
set_option maxRecDepth 100000 in
theorem m_X7_isVerdict {l : Launch} {D : va_G} {cI cP cB cA : ClassId} {ad : Nat → Nat} {tL tC : Nat} {x0 : Int32} {S : Stt} {res : Int32 × Stt} (hf : f_X7_isVerdict x0 S = some res) : Ct l D cI cP cB cA 79 ad tL tC yX7_isVerdict cX7_isVerdict 1 (some .boolean) 1 [.int x0] (cfC ad cI cP cB cA S) (QI D 79 ad res.1 (cfC ad cI cP cB cA res.2)) := by
  refine ctOf (by decide) (Nat.le_of_ble_eq_true rfl) ?_
  intro p e s m args below meth c ls X hr hlk hP hl
  have hS : va_S (Ar 79 ad) s.heap s.heap [] := va_S.rf
  have hx := X.1.1
  have hb := X.1.2.1
  have hl : lv_has ls 1 [(0, .int x0)] := hl
  unfold f_X7_isVerdict at hf
  refine lv_iload_n hx hb dX7_isVerdict_0 rfl (lv_at hl 0 rfl) ?_
  refine lv_if_eq (tgt := 9) hx hb dX7_isVerdict_1 (by decide) (fun c1 => ?_) (fun c1 => ?_)
  · rw [if_pos c1] at hf
    refine lv_iconst (v := (1 : Int32)) hx hb dX7_isVerdict_9 (by decide) ?_
    refine lv_goto (tgt := 14) hx hb dX7_isVerdict_10 (by decide) ?_
    cases hf
    exact rtZ X hr hlk hP hS (Or.inr rfl) dX7_isVerdict_14
  · rw [if_neg c1] at hf
    refine lv_iload_n hx hb dX7_isVerdict_4 rfl (lv_at hl 0 rfl) ?_
    refine lv_iconst (v := (1 : Int32)) hx hb dX7_isVerdict_5 (by decide) ?_
    refine lv_icmp_ne (tgt := 13) hx hb dX7_isVerdict_6 (by decide) (fun c2 => ?_) (fun c2 => ?_)
    · rw [if_neg c2] at hf
      refine lv_iconst (v := (0 : Int32)) hx hb dX7_isVerdict_13 (by decide) ?_
      cases hf
      exact rtZ X hr hlk hP hS (Or.inl rfl) dX7_isVerdict_14
    · rw [if_pos c2] at hf
      refine lv_iconst (v := (1 : Int32)) hx hb dX7_isVerdict_9 (by decide) ?_
      refine lv_goto (tgt := 14) hx hb dX7_isVerdict_10 (by decide) ?_
      cases hf
      exact rtZ X hr hlk hP hS (Or.inr rfl) dX7_isVerdict_14
/-! X7_keptBooks -/
section
variable {p : Program} {l : Launch} {e : Env} {s : State} {m : MethodId} {args : Array Value} {below : List Frame} {meth : Method} {c : Code}
variable {D : va_G} {cI cP cB cA : ClassId} {ad : Nat → Nat} {tL tC : Nat}
set_option maxHeartbeats 4000000 in
set_option maxRecDepth 100000 in
theorem vb_X7_keptBooks_4 (X : Cx D cI cP cB cA 79 ad tL tC p s m c cX7_keptBooks 3 args RX7) (hr : meth.sig.returnType = (some .int)) (hlk : meth.locks = false) {res : Int32 × Stt} (kb : Int32 → Int32 → Stt → Option (Int32 × Stt)) (ke : Int32 → Stt → Option (Int32 × Stt)) (hkb : ∀ (x1 : Int32) (x2 : Int32) (S : Stt) (H : Heap) (locs : List Loc) (ls : Array Slot), kb x1 x2 S = some res → va_P D vwCl (wl 79 ad (cfC ad cI cP cB cA S)) H → va_S (Ar 79 ad) s.heap H locs → lv_has ls 3 [(0, .ref (ad 0)), (1, .int x1), (2, .int x2)] → W p l e (rmD 1) s m args below meth c H locs 0 0 (MQ below (QI D 79 ad res.1 (cfC ad cI cP cB cA res.2)) args s 0 0 (Ar 79 ad)) (F0 m 4 ls [])) (hke : ∀ (x1 : Int32) (S : Stt) (H : Heap) (locs : List Loc) (ls : Array Slot), ke x1 S = some res → va_P D vwCl (wl 79 ad (cfC ad cI cP cB cA S)) H → va_S (Ar 79 ad) s.heap H locs → lv_has ls 3 [(1, .int x1)] → W p l e (rmD 1) s m args below meth c H locs 0 0 (MQ below (QI D 79 ad res.1 (cfC ad cI cP cB cA res.2)) args s 0 0 (Ar 79 ad)) (F0 m 30 ls [])) : ∀ (x1 : Int32) (x2 : Int32) (S : Stt) (H : Heap) (locs : List Loc) (ls : Array Slot), fb_X7_keptBooks_4 kb ke x1 x2 S = some res → va_P D vwCl (wl 79 ad (cfC ad cI cP cB cA S)) H → va_S (Ar 79 ad) s.heap H locs → lv_has ls 3 [(0, .ref (ad 0)), (1, .int x1), (2, .int x2)] → W p l e (rmD 1) s m args below meth c H locs 0 0 (MQ below (QI D 79 ad res.1 (cfC ad cI cP cB cA res.2)) args s 0 0 (Ar 79 ad)) (F0 m 4 ls []) := by
  intro x1 x2 S H locs ls hf hP hS hl
  have hx := X.1.1
  have hb := X.1.2.1
  unfold fb_X7_keptBooks_4 at hf
  refine lv_iload_n hx hb dX7_keptBooks_4 rfl (lv_at hl 2 rfl) ?_
  refine lv_iconst (v := (3 : Int32)) hx hb dX7_keptBooks_5 (by decide) ?_
  refine lv_icmp_ge (tgt := 30) hx hb dX7_keptBooks_6 (by decide) (fun c1 => ?_) (fun c1 => ?_)
  · rw [if_pos c1] at hf
    exact hke _ _ _ _ ls hf  hP hS (lv_sub hl [1] rfl)
  · rw [if_neg c1] at hf
    refine lv_aload_n hx hb dX7_keptBooks_9 rfl (lv_at hl 0 rfl) ?_
    refine g_LP_kept X hP  tw_64 dX7_keptBooks_10 ?_
    refine lv_iload_n hx hb dX7_keptBooks_13 rfl (lv_at hl 2 rfl) ?_
    obtain ⟨g2, hf⟩ := grd_some hf
    refine q_kept X hP  g2 dX7_keptBooks_14 ?_
    refine gN_Book_count X hP (by have := ixb_lt g2; omega) tw_28 dX7_keptBooks_15 ?_
    refine lv_if_le (tgt := 24) hx hb dX7_keptBooks_18 (by decide) (fun c3 => ?_) (fun c3 => ?_)
    · rw [if_pos c3] at hf
      refine lv_iinc (v := (x2 + (1 : Int32))) (lv' := [(2, .int (x2 + (1 : Int32))), (0, .ref (ad 0)), (1, .int x1)]) hx hb dX7_keptBooks_24 hl (k := 2) rfl rfl (by decide) rfl (fun ls hl => ?_)
      refine lv_goto (tgt := 4) hx hb dX7_keptBooks_27 (by decide) ?_
      exact hkb _ _ _ _ _ ls hf  hP hS (lv_sub hl [1, 2, 0] rfl)
    · rw [if_neg c3] at hf
      refine lv_iinc (v := (x1 + (1 : Int32))) (lv' := [(1, .int (x1 + (1 : Int32))), (0, .ref (ad 0)), (2, .int x2)]) hx hb dX7_keptBooks_21 hl (k := 1) rfl rfl (by decide) rfl (fun ls hl => ?_)
      refine lv_iinc (v := (x2 + (1 : Int32))) (lv' := [(2, .int (x2 + (1 : Int32))), (1, .int (x1 + (1 : Int32))), (0, .ref (ad 0))]) hx hb dX7_keptBooks_24 hl (k := 2) rfl rfl (by decide) rfl (fun ls hl => ?_)
      refine lv_goto (tgt := 4) hx hb dX7_keptBooks_27 (by decide) ?_
      exact hkb _ _ _ _ _ ls hf  hP hS (lv_sub hl [2, 1, 0] rfl)
set_option maxHeartbeats 4000000 in
set_option maxRecDepth 100000 in
theorem vl_X7_keptBooks_4 (X : Cx D cI cP cB cA 79 ad tL tC p s m c cX7_keptBooks 3 args RX7) (hr : meth.sig.returnType = (some .int)) (hlk : meth.locks = false) {res : Int32 × Stt} (ke : Int32 → Stt → Option (Int32 × Stt)) (hke : ∀ (x1 : Int32) (S : Stt) (H : Heap) (locs : List Loc) (ls : Array Slot), ke x1 S = some res → va_P D vwCl (wl 79 ad (cfC ad cI cP cB cA S)) H → va_S (Ar 79 ad) s.heap H locs → lv_has ls 3 [(1, .int x1)] → W p l e (rmD 1) s m args below meth c H locs 0 0 (MQ below (QI D 79 ad res.1 (cfC ad cI cP cB cA res.2)) args s 0 0 (Ar 79 ad)) (F0 m 30 ls [])) : ∀ (n : Nat), ∀ (x1 : Int32) (x2 : Int32) (S : Stt) (H : Heap) (locs : List Loc) (ls : Array Slot), fl_X7_keptBooks_4 ke n x1 x2 S = some res → va_P D vwCl (wl 79 ad (cfC ad cI cP cB cA S)) H → va_S (Ar 79 ad) s.heap H locs → lv_has ls 3 [(0, .ref (ad 0)), (1, .int x1), (2, .int x2)] → W p l e (rmD 1) s m args below meth c H locs 0 0 (MQ below (QI D 79 ad res.1 (cfC ad cI cP cB cA res.2)) args s 0 0 (Ar 79 ad)) (F0 m 4 ls []) := by
  intro n
  induction n with
  | zero =>
    intro x1 x2 S H locs ls hf hP hS hl
    cases hf
  | succ n ih =>
    intro x1 x2 S H locs ls hf hP hS hl
    exact vb_X7_keptBooks_4 X hr hlk _ ke ih hke x1 x2 S H locs ls hf  hP hS hl
end
set_option maxHeartbeats 4000000 in
set_option maxRecDepth 100000 in
theorem m_X7_keptBooks {l : Launch} {D : va_G} {cI cP cB cA : ClassId} {ad : Nat → Nat} {tL tC : Nat} {S : Stt} {res : Int32 × Stt} (hf : f_X7_keptBooks  S = some res) : Ct l D cI cP cB cA 79 ad tL tC yX7_keptBooks cX7_keptBooks 3 (some .int) 1 [.ref (ad 0)] (cfC ad cI cP cB cA S) (QI D 79 ad res.1 (cfC ad cI cP cB cA res.2)) := by
  refine ctOf (by decide) (Nat.le_of_ble_eq_true rfl) ?_
  intro p e s m args below meth c ls X hr hlk hP hl
  have hS : va_S (Ar 79 ad) s.heap s.heap [] := va_S.rf
  have hx := X.1.1
  have hb := X.1.2.1
  have hl : lv_has ls 3 [(0, .ref (ad 0))] := hl
  unfold f_X7_keptBooks at hf
  refine lv_iconst (v := (0 : Int32)) hx hb dX7_keptBooks_0 (by decide) ?_
  refine lv_istore_n (lv' := [(1, .int (0 : Int32)), (0, .ref (ad 0))]) hx hb dX7_keptBooks_1 rfl hl (by decide) rfl (fun ls hl => ?_)
  refine lv_iconst (v := (0 : Int32)) hx hb dX7_keptBooks_2 (by decide) ?_
  refine lv_istore_n (lv' := [(2, .int (0 : Int32)), (1, .int (0 : Int32)), (0, .ref (ad 0))]) hx hb dX7_keptBooks_3 rfl hl (by decide) rfl (fun ls hl => ?_)
  refine vl_X7_keptBooks_4 X hr hlk _ ?_ 300 _ _ _ _ _ ls hf  hP hS (lv_sub hl [2, 1, 0] rfl)
  intro x1 S H locs ls hf hP hS hl
  refine lv_iload_n hx hb dX7_keptBooks_30 rfl (lv_at hl 0 rfl) ?_
  cases hf
  exact rtI X hr hlk hP hS dX7_keptBooks_31
/-! X7_lower -/
section
variable {p : Program} {l : Launch} {e : Env} {s : State} {m : MethodId} {args : Array Value} {below : List Frame} {meth : Method} {c : Code}
variable {D : va_G} {cI cP cB cA : ClassId} {ad : Nat → Nat} {tL tC : Nat}
end
set_option maxHeartbeats 4000000 in
set_option maxRecDepth 100000 in
theorem m_X7_lower {l : Launch} {D : va_G} {cI cP cB cA : ClassId} {ad : Nat → Nat} {tL tC : Nat} {S : Stt} {res : Int64 × Stt} (hf : f_X7_lower  S = some res) : Ct l D cI cP cB cA 79 ad tL tC yX7_lower cX7_lower 1 (some .long) 1 [.ref (ad 0)] (cfC ad cI cP cB cA S) (QL D 79 ad res.1 (cfC ad cI cP cB cA res.2)) := by
  refine ctOf (by decide) (Nat.le_of_ble_eq_true rfl) ?_
  intro p e s m args below meth c ls X hr hlk hP hl
  have hS : va_S (Ar 79 ad) s.heap s.heap [] := va_S.rf
  have hx := X.1.1
  have hb := X.1.2.1
  have hl : lv_has ls 1 [(0, .ref (ad 0))] := hl
  unfold f_X7_lower at hf
  refine lv_aload_n hx hb dX7_lower_0 rfl (lv_at hl 0 rfl) ?_
  refine g_LP_lowerNumber X hP  tw_73 dX7_lower_1 ?_
  cases hf
  exact rtL X hr hlk hP hS dX7_lower_4
/-! X7_refuse -/
section
variable {p : Program} {l : Launch} {e : Env} {s : State} {m : MethodId} {args : Array Value} {below : List Frame} {meth : Method} {c : Code}
variable {D : va_G} {cI cP cB cA : ClassId} {ad : Nat → Nat} {tL tC : Nat}
end
set_option maxHeartbeats 4000000 in
set_option maxRecDepth 100000 in
theorem m_X7_refuse {l : Launch} {D : va_G} {cI cP cB cA : ClassId} {ad : Nat → Nat} {tL tC : Nat} {x1 : Int32} {S : Stt} {res : Int32 × Stt} (hf : f_X7_refuse x1 S = some res) : Ct l D cI cP cB cA 79 ad tL tC yX7_refuse cX7_refuse 2 (some .int) 1 [.ref (ad 0), .int x1] (cfC ad cI cP cB cA S) (QI D 79 ad res.1 (cfC ad cI cP cB cA res.2)) := by
  refine ctOf (by decide) (Nat.le_of_ble_eq_true rfl) ?_
  intro p e s m args below meth c ls X hr hlk hP hl
  have hS : va_S (Ar 79 ad) s.heap s.heap [] := va_S.rf
  have hx := X.1.1
  have hb := X.1.2.1
  have hl : lv_has ls 2 [(0, .ref (ad 0)), (1, .int x1)] := hl
  unfold f_X7_refuse at hf
  refine lv_aload_n hx hb dX7_refuse_0 rfl (lv_at hl 0 rfl) ?_
  refine lv_iload_n hx hb dX7_refuse_1 rfl (lv_at hl 1 rfl) ?_
  refine p_LP_latestFinding X hP hS  tw_70 dX7_refuse_2 (fun H locs hP hS => ?_)
  refine lv_iload_n hx hb dX7_refuse_5 rfl (lv_at hl 1 rfl) ?_
  refine lv_iconst (v := (1 : Int32)) hx hb dX7_refuse_6 (by decide) ?_
  refine lv_icmp_lt (tgt := 25) hx hb dX7_refuse_7 (by decide) (fun c1 => ?_) (fun c1 => ?_)
  · rw [if_pos c1] at hf
    refine lv_bipush (v := (-3 : Int32)) hx hb dX7_refuse_25 (by decide) ?_
    cases hf
    exact rtI X hr hlk hP hS dX7_refuse_27
  · rw [if_neg c1] at hf
    refine lv_iload_n hx hb dX7_refuse_10 rfl (lv_at hl 1 rfl) ?_
    refine lv_iconst (v := (5 : Int32)) hx hb dX7_refuse_11 (by decide) ?_
    refine lv_icmp_gt (tgt := 25) hx hb dX7_refuse_12 (by decide) (fun c2 => ?_) (fun c2 => ?_)
    · rw [if_pos c2] at hf
      refine lv_bipush (v := (-3 : Int32)) hx hb dX7_refuse_25 (by decide) ?_
      cases hf
      exact rtI X hr hlk hP hS dX7_refuse_27
    · rw [if_neg c2] at hf
      refine lv_aload_n hx hb dX7_refuse_15 rfl (lv_at hl 0 rfl) ?_
      refine g_LP_found X hP  tw_69 dX7_refuse_16 ?_
      refine lv_iload_n hx hb dX7_refuse_19 rfl (lv_at hl 1 rfl) ?_
      refine lv_dup2_11 hx hb dX7_refuse_20 rfl rfl ?_
      obtain ⟨g3, hf⟩ := grd_some hf
      refine r_found X hP  g3 dX7_refuse_21 ?_
      refine lv_iconst (v := (1 : Int32)) hx hb dX7_refuse_22 (by decide) ?_
      refine lv_iadd hx hb dX7_refuse_23 ?_
      obtain ⟨g4, hf⟩ := grd_some hf
      refine w_found X hP hS  g4 dX7_refuse_24 (fun H locs hP hS => ?_)
      refine lv_bipush (v := (-3 : Int32)) hx hb dX7_refuse_25 (by decide) ?_
      cases hf
      exact rtI X hr hlk hP hS dX7_refuse_27
/-! X7_tellFraction -/
section
variable {p : Program} {l : Launch} {e : Env} {s : State} {m : MethodId} {args : Array Value} {below : List Frame} {meth : Method} {c : Code}
variable {D : va_G} {cI cP cB cA : ClassId} {ad : Nat → Nat} {tL tC : Nat}
set_option maxHeartbeats 4000000 in
set_option maxRecDepth 100000 in
theorem vb_X7_tellFraction_2 (X : Cx D cI cP cB cA 79 ad tL tC p s m c cX7_tellFraction 4 args RX7) (hr : meth.sig.returnType = none) (hlk : meth.locks = false) {res : Stt} (kb : Int32 → Int32 → Int32 → Stt → Option (Stt)) (ke : Stt → Option (Stt)) (hkb : ∀ (x1 : Int32) (x2 : Int32) (x3 : Int32) (S : Stt) (H : Heap) (locs : List Loc) (ls : Array Slot), kb x1 x2 x3 S = some res → va_P D vwCl (wl 79 ad (cfC ad cI cP cB cA S)) H → va_S (Ar 79 ad) s.heap H locs → lv_has ls 4 [(0, .ref (ad 0)), (1, .int x1), (2, .int x2), (3, .int x3)] → W p l e (rmD 1) s m args below meth c H locs 0 0 (MQ below (QV D 79 ad (cfC ad cI cP cB cA res)) args s 0 0 (Ar 79 ad)) (F0 m 2 ls [])) (hke : ∀ (S : Stt) (H : Heap) (locs : List Loc) (ls : Array Slot), ke S = some res → va_P D vwCl (wl 79 ad (cfC ad cI cP cB cA S)) H → va_S (Ar 79 ad) s.heap H locs → lv_has ls 4 [] → W p l e (rmD 1) s m args below meth c H locs 0 0 (MQ below (QV D 79 ad (cfC ad cI cP cB cA res)) args s 0 0 (Ar 79 ad)) (F0 m 45 ls [])) : ∀ (x1 : Int32) (x2 : Int32) (x3 : Int32) (S : Stt) (H : Heap) (locs : List Loc) (ls : Array Slot), fb_X7_tellFraction_2 kb ke x1 x2 x3 S = some res → va_P D vwCl (wl 79 ad (cfC ad cI cP cB cA S)) H → va_S (Ar 79 ad) s.heap H locs → lv_has ls 4 [(0, .ref (ad 0)), (1, .int x1), (2, .int x2), (3, .int x3)] → W p l e (rmD 1) s m args below meth c H locs 0 0 (MQ below (QV D 79 ad (cfC ad cI cP cB cA res)) args s 0 0 (Ar 79 ad)) (F0 m 2 ls []) := by
  intro x1 x2 x3 S H locs ls hf hP hS hl
  have hx := X.1.1
  have hb := X.1.2.1
  unfold fb_X7_tellFraction_2 at hf
  refine lv_iload_n hx hb dX7_tellFraction_2 rfl (lv_at hl 3 rfl) ?_
  refine lv_iconst (v := (1 : Int32)) hx hb dX7_tellFraction_3 (by decide) ?_
  refine lv_icmp_lt (tgt := 45) hx hb dX7_tellFraction_4 (by decide) (fun c1 => ?_) (fun c1 => ?_)
  · rw [if_pos c1] at hf
    exact hke  _ _ _ ls hf  hP hS (lv_sub hl [] rfl)
  · rw [if_neg c1] at hf
    refine lv_iload_n hx hb dX7_tellFraction_7 rfl (lv_at hl 1 rfl) ?_
    refine lv_iload_n hx hb dX7_tellFraction_8 rfl (lv_at hl 3 rfl) ?_
    obtain ⟨g2, hf⟩ := grd_some hf
    refine lv_irem hx hb dX7_tellFraction_9 (of_decide_eq_true g2) ?_
    refine lv_if_ne (tgt := 39) hx hb dX7_tellFraction_10 (by decide) (fun c3 => ?_) (fun c3 => ?_)
    · rw [if_neg c3] at hf
      refine lv_iinc (v := (x3 + (-1 : Int32))) (lv' := [(3, .int (x3 + (-1 : Int32))), (0, .ref (ad 0)), (1, .int x1), (2, .int x2)]) hx hb dX7_tellFraction_39 hl (k := 3) rfl rfl (by decide) rfl (fun ls hl => ?_)
      refine lv_goto (tgt := 2) hx hb dX7_tellFraction_42 (by decide) ?_
      exact hkb _ _ _ _ _ _ ls hf  hP hS (lv_sub hl [1, 2, 3, 0] rfl)
    · rw [if_pos c3] at hf
      refine lv_iload_n hx hb dX7_tellFraction_13 rfl (lv_at hl 2 rfl) ?_
      refine lv_iload_n hx hb dX7_tellFraction_14 rfl (lv_at hl 3 rfl) ?_
      obtain ⟨g4, hf⟩ := grd_some hf
      refine lv_irem hx hb dX7_tellFraction_15 (of_decide_eq_true g4) ?_
      refine lv_if_eq (tgt := 22) hx hb dX7_tellFraction_16 (by decide) (fun c5 => ?_) (fun c5 => ?_)
      · rw [if_pos c5] at hf
        refine lv_aload_n hx hb dX7_tellFraction_22 rfl (lv_at hl 0 rfl) ?_
        refine lv_iload_n hx hb dX7_tellFraction_23 rfl (lv_at hl 1 rfl) ?_
        refine lv_iload_n hx hb dX7_tellFraction_24 rfl (lv_at hl 3 rfl) ?_
        obtain ⟨g6, hf⟩ := grd_some hf
        refine lv_idiv hx hb dX7_tellFraction_25 (of_decide_eq_true g6) ?_
        refine lv_i2l hx hb dX7_tellFraction_26 rfl ?_
        refine p_LP_upperNumber X hP hS  tw_72 dX7_tellFraction_27 (fun H locs hP hS => ?_)
        refine lv_aload_n hx hb dX7_tellFraction_30 rfl (lv_at hl 0 rfl) ?_
        refine lv_iload_n hx hb dX7_tellFraction_31 rfl (lv_at hl 2 rfl) ?_
        refine lv_iload_n hx hb dX7_tellFraction_32 rfl (lv_at hl 3 rfl) ?_
        obtain ⟨g7, hf⟩ := grd_some hf
        refine lv_idiv hx hb dX7_tellFraction_33 (of_decide_eq_true g7) ?_
        refine lv_i2l hx hb dX7_tellFraction_34 rfl ?_
        refine p_LP_lowerNumber X hP hS  tw_73 dX7_tellFraction_35 (fun H locs hP hS => ?_)
        cases hf
        exact rtV X hr hlk hP hS dX7_tellFraction_38
      · rw [if_neg c5] at hf
        refine lv_goto (tgt := 39) hx hb dX7_tellFraction_19 (by decide) ?_
        refine lv_iinc (v := (x3 + (-1 : Int32))) (lv' := [(3, .int (x3 + (-1 : Int32))), (0, .ref (ad 0)), (1, .int x1), (2, .int x2)]) hx hb dX7_tellFraction_39 hl (k := 3) rfl rfl (by decide) rfl (fun ls hl => ?_)
        refine lv_goto (tgt := 2) hx hb dX7_tellFraction_42 (by decide) ?_
        exact hkb _ _ _ _ _ _ ls hf  hP hS (lv_sub hl [1, 2, 3, 0] rfl)
set_option maxHeartbeats 4000000 in
set_option maxRecDepth 100000 in
theorem vl_X7_tellFraction_2 (X : Cx D cI cP cB cA 79 ad tL tC p s m c cX7_tellFraction 4 args RX7) (hr : meth.sig.returnType = none) (hlk : meth.locks = false) {res : Stt} (ke : Stt → Option (Stt)) (hke : ∀ (S : Stt) (H : Heap) (locs : List Loc) (ls : Array Slot), ke S = some res → va_P D vwCl (wl 79 ad (cfC ad cI cP cB cA S)) H → va_S (Ar 79 ad) s.heap H locs → lv_has ls 4 [] → W p l e (rmD 1) s m args below meth c H locs 0 0 (MQ below (QV D 79 ad (cfC ad cI cP cB cA res)) args s 0 0 (Ar 79 ad)) (F0 m 45 ls [])) : ∀ (n : Nat), ∀ (x1 : Int32) (x2 : Int32) (x3 : Int32) (S : Stt) (H : Heap) (locs : List Loc) (ls : Array Slot), fl_X7_tellFraction_2 ke n x1 x2 x3 S = some res → va_P D vwCl (wl 79 ad (cfC ad cI cP cB cA S)) H → va_S (Ar 79 ad) s.heap H locs → lv_has ls 4 [(0, .ref (ad 0)), (1, .int x1), (2, .int x2), (3, .int x3)] → W p l e (rmD 1) s m args below meth c H locs 0 0 (MQ below (QV D 79 ad (cfC ad cI cP cB cA res)) args s 0 0 (Ar 79 ad)) (F0 m 2 ls []) := by
  intro n
  induction n with
  | zero =>
    intro x1 x2 x3 S H locs ls hf hP hS hl
    cases hf
  | succ n ih =>
    intro x1 x2 x3 S H locs ls hf hP hS hl
    exact vb_X7_tellFraction_2 X hr hlk _ ke ih hke x1 x2 x3 S H locs ls hf  hP hS hl
end
set_option maxHeartbeats 4000000 in
set_option maxRecDepth 100000 in
theorem m_X7_tellFraction {l : Launch} {D : va_G} {cI cP cB cA : ClassId} {ad : Nat → Nat} {tL tC : Nat} {x1 : Int32} {x2 : Int32} {S : Stt} {res : Stt} (hf : f_X7_tellFraction x1 x2 S = some res) : Ct l D cI cP cB cA 79 ad tL tC yX7_tellFraction cX7_tellFraction 4 none 1 [.ref (ad 0), .int x1, .int x2] (cfC ad cI cP cB cA S) (QV D 79 ad (cfC ad cI cP cB cA res)) := by
  refine ctOf (by decide) (Nat.le_of_ble_eq_true rfl) ?_
  intro p e s m args below meth c ls X hr hlk hP hl
  have hS : va_S (Ar 79 ad) s.heap s.heap [] := va_S.rf
  have hx := X.1.1
  have hb := X.1.2.1
  have hl : lv_has ls 4 [(0, .ref (ad 0)), (1, .int x1), (2, .int x2)] := hl
  unfold f_X7_tellFraction at hf
  refine lv_iload_n hx hb dX7_tellFraction_0 rfl (lv_at hl 2 rfl) ?_
  refine lv_istore_n (lv' := [(3, .int x2), (0, .ref (ad 0)), (1, .int x1), (2, .int x2)]) hx hb dX7_tellFraction_1 rfl hl (by decide) rfl (fun ls hl => ?_)
  refine vl_X7_tellFraction_2 X hr hlk _ ?_ 300 _ _ _ _ _ _ ls hf  hP hS (lv_sub hl [1, 2, 3, 0] rfl)
  intro S H locs ls hf hP hS hl
  cases hf
  exact rtV X hr hlk hP hS dX7_tellFraction_45
/-! X7_upper -/
section
variable {p : Program} {l : Launch} {e : Env} {s : State} {m : MethodId} {args : Array Value} {below : List Frame} {meth : Method} {c : Code}
variable {D : va_G} {cI cP cB cA : ClassId} {ad : Nat → Nat} {tL tC : Nat}
end
set_option maxHeartbeats 4000000 in
set_option maxRecDepth 100000 in
theorem m_X7_upper {l : Launch} {D : va_G} {cI cP cB cA : ClassId} {ad : Nat → Nat} {tL tC : Nat} {S : Stt} {res : Int64 × Stt} (hf : f_X7_upper  S = some res) : Ct l D cI cP cB cA 79 ad tL tC yX7_upper cX7_upper 1 (some .long) 1 [.ref (ad 0)] (cfC ad cI cP cB cA S) (QL D 79 ad res.1 (cfC ad cI cP cB cA res.2)) := by
  refine ctOf (by decide) (Nat.le_of_ble_eq_true rfl) ?_
  intro p e s m args below meth c ls X hr hlk hP hl
  have hS : va_S (Ar 79 ad) s.heap s.heap [] := va_S.rf
  have hx := X.1.1
  have hb := X.1.2.1
  have hl : lv_has ls 1 [(0, .ref (ad 0))] := hl
  unfold f_X7_upper at hf
  refine lv_aload_n hx hb dX7_upper_0 rfl (lv_at hl 0 rfl) ?_
  refine g_LP_upperNumber X hP  tw_72 dX7_upper_1 ?_
  cases hf
  exact rtL X hr hlk hP hS dX7_upper_4
/-! X8_ask -/
section
variable {p : Program} {l : Launch} {e : Env} {s : State} {m : MethodId} {args : Array Value} {below : List Frame} {meth : Method} {c : Code}
variable {D : va_G} {cI cP cB cA : ClassId} {ad : Nat → Nat} {tL tC : Nat}
end
set_option maxHeartbeats 4000000 in
set_option maxRecDepth 100000 in
theorem m_X8_ask {l : Launch} {D : va_G} {cI cP cB cA : ClassId} {ad : Nat → Nat} {tL tC : Nat} {x1 : Int32} {x2 : Int32} {S : Stt} {res : Int32 × Stt} (hf : f_X8_ask x1 x2 S = some res) : Ct l D cI cP cB cA 19 ad tL tC yX8_ask cX8_ask 3 (some .int) 1 [.ref (ad 0), .int x1, .int x2] (cfM ad cI S) (QI D 19 ad res.1 (cfM ad cI res.2)) := by
  refine ctOf (by decide) (Nat.le_of_ble_eq_true rfl) ?_
  intro p e s m args below meth c ls X hr hlk hP hl
  have hS : va_S (Ar 19 ad) s.heap s.heap [] := va_S.rf
  have hx := X.1.1
  have hb := X.1.2.1
  have hl : lv_has ls 3 [(0, .ref (ad 0)), (1, .int x1), (2, .int x2)] := hl
  unfold f_X8_ask at hf
  refine lv_aload_n hx hb dX8_ask_0 rfl (lv_at hl 0 rfl) ?_
  refine lv_iload_n hx hb dX8_ask_1 rfl (lv_at hl 1 rfl) ?_
  refine p_M_asked X hP hS  tw_78 dX8_ask_2 (fun H locs hP hS => ?_)
  refine lv_iload_n hx hb dX8_ask_5 rfl (lv_at hl 2 rfl) ?_
  cases hf
  exact rtI X hr hlk hP hS dX8_ask_6
/-! X8_asked -/
section
variable {p : Program} {l : Launch} {e : Env} {s : State} {m : MethodId} {args : Array Value} {below : List Frame} {meth : Method} {c : Code}
variable {D : va_G} {cI cP cB cA : ClassId} {ad : Nat → Nat} {tL tC : Nat}
end
set_option maxHeartbeats 4000000 in
set_option maxRecDepth 100000 in
theorem m_X8_asked {l : Launch} {D : va_G} {cI cP cB cA : ClassId} {ad : Nat → Nat} {tL tC : Nat} {S : Stt} {res : Int32 × Stt} (hf : f_X8_asked  S = some res) : Ct l D cI cP cB cA 19 ad tL tC yX8_asked cX8_asked 1 (some .int) 1 [.ref (ad 0)] (cfM ad cI S) (QI D 19 ad res.1 (cfM ad cI res.2)) := by
  refine ctOf (by decide) (Nat.le_of_ble_eq_true rfl) ?_
  intro p e s m args below meth c ls X hr hlk hP hl
  have hS : va_S (Ar 19 ad) s.heap s.heap [] := va_S.rf
  have hx := X.1.1
  have hb := X.1.2.1
  have hl : lv_has ls 1 [(0, .ref (ad 0))] := hl
  unfold f_X8_asked at hf
  refine lv_aload_n hx hb dX8_asked_0 rfl (lv_at hl 0 rfl) ?_
  refine g_M_asked X hP  tw_78 dX8_asked_1 ?_
  cases hf
  exact rtI X hr hlk hP hS dX8_asked_4
/-! X8_comeBack -/
section
variable {p : Program} {l : Launch} {e : Env} {s : State} {m : MethodId} {args : Array Value} {below : List Frame} {meth : Method} {c : Code}
variable {D : va_G} {cI cP cB cA : ClassId} {ad : Nat → Nat} {tL tC : Nat}
set_option maxHeartbeats 4000000 in
set_option maxRecDepth 100000 in
theorem vb_X8_comeBack_2 (X : Cx D cI cP cB cA 19 ad tL tC p s m c cX8_comeBack 2 args RX8) (hr : meth.sig.returnType = none) (hlk : meth.locks = false) {res : Stt} (kb : Int32 → Stt → Option (Stt)) (ke : Stt → Option (Stt)) (hkb : ∀ (x1 : Int32) (S : Stt) (H : Heap) (locs : List Loc) (ls : Array Slot), kb x1 S = some res → va_P D vwCl (wl 19 ad (cfM ad cI S)) H → va_S (Ar 19 ad) s.heap H locs → lv_has ls 2 [(0, .ref (ad 0)), (1, .int x1)] → W p l e (rmD 1) s m args below meth c H locs 0 0 (MQ below (QV D 19 ad (cfM ad cI res)) args s 0 0 (Ar 19 ad)) (F0 m 2 ls [])) (hke : ∀ (S : Stt) (H : Heap) (locs : List Loc) (ls : Array Slot), ke S = some res → va_P D vwCl (wl 19 ad (cfM ad cI S)) H → va_S (Ar 19 ad) s.heap H locs → lv_has ls 2 [] → W p l e (rmD 1) s m args below meth c H locs 0 0 (MQ below (QV D 19 ad (cfM ad cI res)) args s 0 0 (Ar 19 ad)) (F0 m 28 ls [])) : ∀ (x1 : Int32) (S : Stt) (H : Heap) (locs : List Loc) (ls : Array Slot), fb_X8_comeBack_2 kb ke x1 S = some res → va_P D vwCl (wl 19 ad (cfM ad cI S)) H → va_S (Ar 19 ad) s.heap H locs → lv_has ls 2 [(0, .ref (ad 0)), (1, .int x1)] → W p l e (rmD 1) s m args below meth c H locs 0 0 (MQ below (QV D 19 ad (cfM ad cI res)) args s 0 0 (Ar 19 ad)) (F0 m 2 ls []) := by
  intro x1 S H locs ls hf hP hS hl
  have hx := X.1.1
  have hb := X.1.2.1
  unfold fb_X8_comeBack_2 at hf
  refine lv_iload_n hx hb dX8_comeBack_2 rfl (lv_at hl 1 rfl) ?_
  refine lv_aload_n hx hb dX8_comeBack_3 rfl (lv_at hl 0 rfl) ?_
  refine g_M_many X hP  tw_86 dX8_comeBack_4 ?_
  refine lv_icmp_ge (tgt := 28) hx hb dX8_comeBack_7 (by decide) (fun c1 => ?_) (fun c1 => ?_)
  · rw [if_pos c1] at hf
    exact hke  _ _ _ ls hf  hP hS (lv_sub hl [] rfl)
  · rw [if_neg c1] at hf
    refine lv_aload_n hx hb dX8_comeBack_10 rfl (lv_at hl 0 rfl) ?_
    refine g_M_days X hP  tw_92 dX8_comeBack_11 ?_
    refine lv_iload_n hx hb dX8_comeBack_14 rfl (lv_at hl 1 rfl) ?_
    refine lv_aload_n hx hb dX8_comeBack_15 rfl (lv_at hl 0 rfl) ?_
    refine g_M_daysAside X hP  tw_103 dX8_comeBack_16 ?_
    refine lv_iload_n hx hb dX8_comeBack_19 rfl (lv_at hl 1 rfl) ?_
    obtain ⟨g2, hf⟩ := grd_some hf
    refine r_m_daysAside X hP  g2 dX8_comeBack_20 ?_
    obtain ⟨g3, hf⟩ := grd_some hf
    refine w_m_days X hP hS  g3 dX8_comeBack_21 (fun H locs hP hS => ?_)
    refine lv_iinc (v := (x1 + (1 : Int32))) (lv' := [(1, .int (x1 + (1 : Int32))), (0, .ref (ad 0))]) hx hb dX8_comeBack_22 hl (k := 1) rfl rfl (by decide) rfl (fun ls hl => ?_)
    refine lv_goto (tgt := 2) hx hb dX8_comeBack_25 (by decide) ?_
    exact hkb _ _ _ _ ls hf  hP hS (lv_sub hl [1, 0] rfl)
set_option maxHeartbeats 4000000 in
set_option maxRecDepth 100000 in
theorem vl_X8_comeBack_2 (X : Cx D cI cP cB cA 19 ad tL tC p s m c cX8_comeBack 2 args RX8) (hr : meth.sig.returnType = none) (hlk : meth.locks = false) {res : Stt} (ke : Stt → Option (Stt)) (hke : ∀ (S : Stt) (H : Heap) (locs : List Loc) (ls : Array Slot), ke S = some res → va_P D vwCl (wl 19 ad (cfM ad cI S)) H → va_S (Ar 19 ad) s.heap H locs → lv_has ls 2 [] → W p l e (rmD 1) s m args below meth c H locs 0 0 (MQ below (QV D 19 ad (cfM ad cI res)) args s 0 0 (Ar 19 ad)) (F0 m 28 ls [])) : ∀ (n : Nat), ∀ (x1 : Int32) (S : Stt) (H : Heap) (locs : List Loc) (ls : Array Slot), fl_X8_comeBack_2 ke n x1 S = some res → va_P D vwCl (wl 19 ad (cfM ad cI S)) H → va_S (Ar 19 ad) s.heap H locs → lv_has ls 2 [(0, .ref (ad 0)), (1, .int x1)] → W p l e (rmD 1) s m args below meth c H locs 0 0 (MQ below (QV D 19 ad (cfM ad cI res)) args s 0 0 (Ar 19 ad)) (F0 m 2 ls []) := by
  intro n
  induction n with
  | zero =>
    intro x1 S H locs ls hf hP hS hl
    cases hf
  | succ n ih =>
    intro x1 S H locs ls hf hP hS hl
    exact vb_X8_comeBack_2 X hr hlk _ ke ih hke x1 S H locs ls hf  hP hS hl
end
set_option maxHeartbeats 4000000 in
set_option maxRecDepth 100000 in
theorem m_X8_comeBack {l : Launch} {D : va_G} {cI cP cB cA : ClassId} {ad : Nat → Nat} {tL tC : Nat} {S : Stt} {res : Stt} (hf : f_X8_comeBack  S = some res) : Ct l D cI cP cB cA 19 ad tL tC yX8_comeBack cX8_comeBack 2 none 1 [.ref (ad 0)] (cfM ad cI S) (QV D 19 ad (cfM ad cI res)) := by
  refine ctOf (by decide) (Nat.le_of_ble_eq_true rfl) ?_
  intro p e s m args below meth c ls X hr hlk hP hl
  have hS : va_S (Ar 19 ad) s.heap s.heap [] := va_S.rf
  have hx := X.1.1
  have hb := X.1.2.1
  have hl : lv_has ls 2 [(0, .ref (ad 0))] := hl
  unfold f_X8_comeBack at hf
  refine lv_iconst (v := (0 : Int32)) hx hb dX8_comeBack_0 (by decide) ?_
  refine lv_istore_n (lv' := [(1, .int (0 : Int32)), (0, .ref (ad 0))]) hx hb dX8_comeBack_1 rfl hl (by decide) rfl (fun ls hl => ?_)
  refine vl_X8_comeBack_2 X hr hlk _ ?_ 300 _ _ _ _ ls hf  hP hS (lv_sub hl [1, 0] rfl)
  intro S H locs ls hf hP hS hl
  cases hf
  exact rtV X hr hlk hP hS dX8_comeBack_28
