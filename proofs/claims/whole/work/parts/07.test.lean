theorem tw_384 : Cond.initialized RX0 ∈ tbs := tbs_of (List.mem_of_getElem? (i := 58) (by decide +kernel)) rfl
theorem tw_385 : Cond.initialized RX3 ∈ tbs := tbs_of (List.mem_of_getElem? (i := 59) (by decide +kernel)) rfl
theorem cw_X0_holds : Cw yX0_holds cX0_holds 6 (some .boolean) 2 := ⟨tbs_of (List.mem_of_getElem? (i := 498) (by decide +kernel)) rfl, tw_384, by decide +kernel, by decide +kernel, by decide +kernel⟩
theorem cw_X0_isOne : Cw yX0_isOne cX0_isOne 2 (some .boolean) 1 := ⟨tbs_of (List.mem_of_getElem? (i := 483) (by decide +kernel)) rfl, tw_384, by decide +kernel, by decide +kernel, by decide +kernel⟩
theorem cw_X3_isOf : Cw yX3_isOf cX3_isOf 2 (some .boolean) 1 := ⟨tbs_of (List.mem_of_getElem? (i := 450) (by decide +kernel)) rfl, tw_385, by decide +kernel, by decide +kernel, by decide +kernel⟩
theorem tw_17 : Cond.fieldLinkNest RX0 46 "LastPage$Page" "day" "I" "LastPage" ∈ tbs := tbs_of (List.mem_of_getElem? (i := 123) (by decide +kernel)) rfl
theorem tw_171 : Cond.methodLink RX0 52 yX0_isOne ∈ tbs := tbs_of (List.mem_of_getElem? (i := 488) (by decide +kernel)) rfl
theorem tw_176 : Cond.methodLink RX0 67 yX3_isOf ∈ tbs := tbs_of (List.mem_of_getElem? (i := 499) (by decide +kernel)) rfl
theorem tw_179 : Cond.methodLink RX0 70 yX0_holds ∈ tbs := tbs_of (List.mem_of_getElem? (i := 508) (by decide +kernel)) rfl
theorem tw_2 : Cond.fieldLink RX3 9 "LastPage$Page" "kind" "I" ∈ tbs := tbs_of (List.mem_of_getElem? (i := 108) (by decide +kernel)) rfl
theorem tw_20 : Cond.fieldLink RX0 11 "LastPage$Book" "pages" "[LLastPage$Page;" ∈ tbs := tbs_of (List.mem_of_getElem? (i := 141) (by decide +kernel)) rfl
theorem tw_24 : Cond.fieldLink RX0 22 "LastPage$Book" "count" "I" ∈ tbs := tbs_of (List.mem_of_getElem? (i := 145) (by decide +kernel)) rfl
theorem tw_3 : Cond.fieldLinkNest RX0 30 "LastPage$Page" "kind" "I" "LastPage" ∈ tbs := tbs_of (List.mem_of_getElem? (i := 109) (by decide +kernel)) rfl
theorem tw_391 : Cond.initialized RJ10 ∈ tbs := tbs_of (List.mem_of_getElem? (i := 65) (by decide +kernel)) rfl
theorem tw_419 : Cond.static arraycopyName ∈ tbs := tbs_of (List.mem_of_getElem? (i := 367) (by decide +kernel)) rfl
theorem tw_420 : Cond.native arraycopyName ∈ tbs := tbs_of (List.mem_of_getElem? (i := 368) (by decide +kernel)) rfl
theorem tw_442 : Cond.instanceMethod yX3_isOf ∈ tbs := tbs_of (List.mem_of_getElem? (i := 448) (by decide +kernel)) rfl
theorem tw_450 : Cond.instanceMethod yX0_isOne ∈ tbs := tbs_of (List.mem_of_getElem? (i := 481) (by decide +kernel)) rfl
theorem tw_453 : Cond.instanceMethod yX0_holds ∈ tbs := tbs_of (List.mem_of_getElem? (i := 496) (by decide +kernel)) rfl
theorem tw_6 : Cond.fieldLinkNest RX0 33 "LastPage$Page" "points" "I" "LastPage" ∈ tbs := tbs_of (List.mem_of_getElem? (i := 112) (by decide +kernel)) rfl
theorem tw_644 : Cond.selects RX0 yX0_isOne yX0_isOne ∈ tbs := tbs_of (List.mem_of_getElem? (i := 482) (by decide +kernel)) rfl
theorem tw_658 : Cond.selects RX0 yX0_holds yX0_holds ∈ tbs := tbs_of (List.mem_of_getElem? (i := 497) (by decide +kernel)) rfl
theorem tw_678 : Cond.selects RX3 yX3_isOf yX3_isOf ∈ tbs := tbs_of (List.mem_of_getElem? (i := 449) (by decide +kernel)) rfl
theorem dX0_bound_0 : decode cX0_bound 0 = .ok (.iconst 0, 1) := by decide +kernel
theorem dX0_bound_1 : decode cX0_bound 1 = .ok (.istore_n 2, 1) := by decide +kernel
theorem dX0_bound_12 : decode cX0_bound 12 = .ok (.aload_n 0, 1) := by decide +kernel
theorem dX0_bound_13 : decode cX0_bound 13 = .ok (.iload_n 3, 1) := by decide +kernel
theorem dX0_bound_14 : decode cX0_bound 14 = .ok (.iload_n 1, 1) := by decide +kernel
theorem dX0_bound_15 : decode cX0_bound 15 = .ok (.invokevirtual 70, 3) := by decide +kernel
theorem dX0_bound_18 : decode cX0_bound 18 = .ok (.ifCond .eq 9, 3) := by decide +kernel
theorem dX0_bound_2 : decode cX0_bound 2 = .ok (.iconst 0, 1) := by decide +kernel
theorem dX0_bound_21 : decode cX0_bound 21 = .ok (.iload_n 2, 1) := by decide +kernel
theorem dX0_bound_22 : decode cX0_bound 22 = .ok (.iconst 1, 1) := by decide +kernel
theorem dX0_bound_23 : decode cX0_bound 23 = .ok (.iload_n 3, 1) := by decide +kernel
theorem dX0_bound_24 : decode cX0_bound 24 = .ok (.ishl, 1) := by decide +kernel
theorem dX0_bound_25 : decode cX0_bound 25 = .ok (.ior, 1) := by decide +kernel
theorem dX0_bound_26 : decode cX0_bound 26 = .ok (.istore_n 2, 1) := by decide +kernel
theorem dX0_bound_27 : decode cX0_bound 27 = .ok (.iinc 3 1, 3) := by decide +kernel
theorem dX0_bound_3 : decode cX0_bound 3 = .ok (.istore_n 3, 1) := by decide +kernel
theorem dX0_bound_30 : decode cX0_bound 30 = .ok (.goto (-26), 3) := by decide +kernel
theorem dX0_bound_33 : decode cX0_bound 33 = .ok (.iload_n 2, 1) := by decide +kernel
theorem dX0_bound_34 : decode cX0_bound 34 = .ok (.ireturn, 1) := by decide +kernel
theorem dX0_bound_4 : decode cX0_bound 4 = .ok (.iload_n 3, 1) := by decide +kernel
theorem dX0_bound_5 : decode cX0_bound 5 = .ok (.aload_n 0, 1) := by decide +kernel
theorem dX0_bound_6 : decode cX0_bound 6 = .ok (.getfield 22, 3) := by decide +kernel
theorem dX0_bound_9 : decode cX0_bound 9 = .ok (.if_icmp .ge 24, 3) := by decide +kernel
theorem dX0_holds_0 : decode cX0_holds 0 = .ok (.iload_n 1, 1) := by decide +kernel
theorem dX0_holds_1 : decode cX0_holds 1 = .ok (.istore_n 3, 1) := by decide +kernel
theorem dX0_holds_11 : decode cX0_holds 11 = .ok (.if_icmp .ge 86, 3) := by decide +kernel
theorem dX0_holds_14 : decode cX0_holds 14 = .ok (.aload_n 0, 1) := by decide +kernel
theorem dX0_holds_15 : decode cX0_holds 15 = .ok (.iload_n 3, 1) := by decide +kernel
theorem dX0_holds_16 : decode cX0_holds 16 = .ok (.invokevirtual 52, 3) := by decide +kernel
theorem dX0_holds_19 : decode cX0_holds 19 = .ok (.ifCond .eq 78, 3) := by decide +kernel
theorem dX0_holds_2 : decode cX0_holds 2 = .ok (.iconst 0, 1) := by decide +kernel
theorem dX0_holds_22 : decode cX0_holds 22 = .ok (.aload_n 0, 1) := by decide +kernel
theorem dX0_holds_23 : decode cX0_holds 23 = .ok (.getfield 11, 3) := by decide +kernel
theorem dX0_holds_26 : decode cX0_holds 26 = .ok (.iload_n 3, 1) := by decide +kernel
theorem dX0_holds_27 : decode cX0_holds 27 = .ok (.aaload, 1) := by decide +kernel
theorem dX0_holds_28 : decode cX0_holds 28 = .ok (.astore 5, 2) := by decide +kernel
theorem dX0_holds_3 : decode cX0_holds 3 = .ok (.istore 4, 2) := by decide +kernel
theorem dX0_holds_30 : decode cX0_holds 30 = .ok (.aload 5, 2) := by decide +kernel
theorem dX0_holds_32 : decode cX0_holds 32 = .ok (.getfield 30, 3) := by decide +kernel
theorem dX0_holds_35 : decode cX0_holds 35 = .ok (.iconst 5, 1) := by decide +kernel
theorem dX0_holds_36 : decode cX0_holds 36 = .ok (.if_icmp .eq 14, 3) := by decide +kernel
theorem dX0_holds_39 : decode cX0_holds 39 = .ok (.iload_n 2, 1) := by decide +kernel
theorem dX0_holds_40 : decode cX0_holds 40 = .ok (.aload 5, 2) := by decide +kernel
theorem dX0_holds_42 : decode cX0_holds 42 = .ok (.getfield 46, 3) := by decide +kernel
theorem dX0_holds_45 : decode cX0_holds 45 = .ok (.if_icmp .ge 5, 3) := by decide +kernel
theorem dX0_holds_48 : decode cX0_holds 48 = .ok (.iconst 0, 1) := by decide +kernel
theorem dX0_holds_49 : decode cX0_holds 49 = .ok (.ireturn, 1) := by decide +kernel
theorem dX0_holds_5 : decode cX0_holds 5 = .ok (.iload 4, 2) := by decide +kernel
theorem dX0_holds_50 : decode cX0_holds 50 = .ok (.aload 5, 2) := by decide +kernel
theorem dX0_holds_52 : decode cX0_holds 52 = .ok (.iconst 2, 1) := by decide +kernel
theorem dX0_holds_53 : decode cX0_holds 53 = .ok (.invokevirtual 67, 3) := by decide +kernel
theorem dX0_holds_56 : decode cX0_holds 56 = .ok (.ifCond .ne 29, 3) := by decide +kernel
theorem dX0_holds_59 : decode cX0_holds 59 = .ok (.aload 5, 2) := by decide +kernel
theorem dX0_holds_61 : decode cX0_holds 61 = .ok (.getfield 30, 3) := by decide +kernel
theorem dX0_holds_64 : decode cX0_holds 64 = .ok (.iconst 4, 1) := by decide +kernel
theorem dX0_holds_65 : decode cX0_holds 65 = .ok (.if_icmp .ne 14, 3) := by decide +kernel
theorem dX0_holds_68 : decode cX0_holds 68 = .ok (.iload_n 2, 1) := by decide +kernel
theorem dX0_holds_69 : decode cX0_holds 69 = .ok (.aload 5, 2) := by decide +kernel
theorem dX0_holds_7 : decode cX0_holds 7 = .ok (.aload_n 0, 1) := by decide +kernel
theorem dX0_holds_71 : decode cX0_holds 71 = .ok (.getfield 46, 3) := by decide +kernel
theorem dX0_holds_74 : decode cX0_holds 74 = .ok (.iconst 2, 1) := by decide +kernel
theorem dX0_holds_75 : decode cX0_holds 75 = .ok (.iadd, 1) := by decide +kernel
theorem dX0_holds_76 : decode cX0_holds 76 = .ok (.if_icmp .gt 7, 3) := by decide +kernel
theorem dX0_holds_79 : decode cX0_holds 79 = .ok (.iconst 1, 1) := by decide +kernel
theorem dX0_holds_8 : decode cX0_holds 8 = .ok (.getfield 22, 3) := by decide +kernel
theorem dX0_holds_80 : decode cX0_holds 80 = .ok (.goto 4, 3) := by decide +kernel
theorem dX0_holds_83 : decode cX0_holds 83 = .ok (.iconst 0, 1) := by decide +kernel
theorem dX0_holds_84 : decode cX0_holds 84 = .ok (.ireturn, 1) := by decide +kernel
theorem dX0_holds_85 : decode cX0_holds 85 = .ok (.aload 5, 2) := by decide +kernel
theorem dX0_holds_87 : decode cX0_holds 87 = .ok (.getfield 33, 3) := by decide +kernel
theorem dX0_holds_90 : decode cX0_holds 90 = .ok (.istore_n 3, 1) := by decide +kernel
theorem dX0_holds_91 : decode cX0_holds 91 = .ok (.iinc 4 1, 3) := by decide +kernel
theorem dX0_holds_94 : decode cX0_holds 94 = .ok (.goto (-89), 3) := by decide +kernel
theorem dX0_holds_97 : decode cX0_holds 97 = .ok (.iconst 0, 1) := by decide +kernel
theorem dX0_holds_98 : decode cX0_holds 98 = .ok (.ireturn, 1) := by decide +kernel
theorem dX0_isOne_0 : decode cX0_isOne 0 = .ok (.iload_n 1, 1) := by decide +kernel
theorem dX0_isOne_1 : decode cX0_isOne 1 = .ok (.ifCond .lt 15, 3) := by decide +kernel
theorem dX0_isOne_12 : decode cX0_isOne 12 = .ok (.iconst 1, 1) := by decide +kernel
theorem dX0_isOne_13 : decode cX0_isOne 13 = .ok (.goto 4, 3) := by decide +kernel
theorem dX0_isOne_16 : decode cX0_isOne 16 = .ok (.iconst 0, 1) := by decide +kernel
theorem dX0_isOne_17 : decode cX0_isOne 17 = .ok (.ireturn, 1) := by decide +kernel
theorem dX0_isOne_4 : decode cX0_isOne 4 = .ok (.iload_n 1, 1) := by decide +kernel
theorem dX0_isOne_5 : decode cX0_isOne 5 = .ok (.aload_n 0, 1) := by decide +kernel
theorem dX0_isOne_6 : decode cX0_isOne 6 = .ok (.getfield 22, 3) := by decide +kernel
theorem dX0_isOne_9 : decode cX0_isOne 9 = .ok (.if_icmp .ge 7, 3) := by decide +kernel
theorem dX3_isOf_0 : decode cX3_isOf 0 = .ok (.iload_n 1, 1) := by decide +kernel
theorem dX3_isOf_1 : decode cX3_isOf 1 = .ok (.lookupswitch 71 #[(1, 27), (2, 49)], 27) := by decide +kernel
theorem dX3_isOf_28 : decode cX3_isOf 28 = .ok (.aload_n 0, 1) := by decide +kernel
theorem dX3_isOf_29 : decode cX3_isOf 29 = .ok (.getfield 9, 3) := by decide +kernel
theorem dX3_isOf_32 : decode cX3_isOf 32 = .ok (.iconst 1, 1) := by decide +kernel
theorem dX3_isOf_33 : decode cX3_isOf 33 = .ok (.if_icmp .eq 11, 3) := by decide +kernel
theorem dX3_isOf_36 : decode cX3_isOf 36 = .ok (.aload_n 0, 1) := by decide +kernel
theorem dX3_isOf_37 : decode cX3_isOf 37 = .ok (.getfield 9, 3) := by decide +kernel
theorem dX3_isOf_40 : decode cX3_isOf 40 = .ok (.iconst 4, 1) := by decide +kernel
theorem dX3_isOf_41 : decode cX3_isOf 41 = .ok (.if_icmp .ne 7, 3) := by decide +kernel
theorem dX3_isOf_44 : decode cX3_isOf 44 = .ok (.iconst 1, 1) := by decide +kernel
theorem dX3_isOf_45 : decode cX3_isOf 45 = .ok (.goto 4, 3) := by decide +kernel
theorem dX3_isOf_48 : decode cX3_isOf 48 = .ok (.iconst 0, 1) := by decide +kernel
theorem dX3_isOf_49 : decode cX3_isOf 49 = .ok (.ireturn, 1) := by decide +kernel
theorem dX3_isOf_50 : decode cX3_isOf 50 = .ok (.aload_n 0, 1) := by decide +kernel
theorem dX3_isOf_51 : decode cX3_isOf 51 = .ok (.getfield 9, 3) := by decide +kernel
theorem dX3_isOf_54 : decode cX3_isOf 54 = .ok (.iconst 2, 1) := by decide +kernel
theorem dX3_isOf_55 : decode cX3_isOf 55 = .ok (.if_icmp .eq 11, 3) := by decide +kernel
theorem dX3_isOf_58 : decode cX3_isOf 58 = .ok (.aload_n 0, 1) := by decide +kernel
theorem dX3_isOf_59 : decode cX3_isOf 59 = .ok (.getfield 9, 3) := by decide +kernel
theorem dX3_isOf_62 : decode cX3_isOf 62 = .ok (.iconst 5, 1) := by decide +kernel
theorem dX3_isOf_63 : decode cX3_isOf 63 = .ok (.if_icmp .ne 7, 3) := by decide +kernel
theorem dX3_isOf_66 : decode cX3_isOf 66 = .ok (.iconst 1, 1) := by decide +kernel
theorem dX3_isOf_67 : decode cX3_isOf 67 = .ok (.goto 4, 3) := by decide +kernel
theorem dX3_isOf_70 : decode cX3_isOf 70 = .ok (.iconst 0, 1) := by decide +kernel
theorem dX3_isOf_71 : decode cX3_isOf 71 = .ok (.ireturn, 1) := by decide +kernel
theorem dX3_isOf_72 : decode cX3_isOf 72 = .ok (.aload_n 0, 1) := by decide +kernel
theorem dX3_isOf_73 : decode cX3_isOf 73 = .ok (.getfield 9, 3) := by decide +kernel
theorem dX3_isOf_76 : decode cX3_isOf 76 = .ok (.iload_n 1, 1) := by decide +kernel
theorem dX3_isOf_77 : decode cX3_isOf 77 = .ok (.if_icmp .ne 7, 3) := by decide +kernel
theorem dX3_isOf_80 : decode cX3_isOf 80 = .ok (.iconst 1, 1) := by decide +kernel
theorem dX3_isOf_81 : decode cX3_isOf 81 = .ok (.goto 4, 3) := by decide +kernel
theorem dX3_isOf_84 : decode cX3_isOf 84 = .ok (.iconst 0, 1) := by decide +kernel
theorem dX3_isOf_85 : decode cX3_isOf 85 = .ok (.ireturn, 1) := by decide +kernel
def zb (v : Int32) : Bool := decide (v = 0 ∨ v = 1)
theorem zb_or {v : Int32} (h : zb v = true) : v = 0 ∨ v = 1 := of_decide_eq_true h
def cpb (sp dp n : Int32) (a b : Nat) : Bool := decide (¬ sp < 0 ∧ ¬ dp < 0 ∧ ¬ n < 0 ∧ sp.toNatClampNeg + n.toNatClampNeg ≤ a ∧ dp.toNatClampNeg + n.toNatClampNeg ≤ b)
theorem sw_out2 {x : Int32} (h1 : ¬ x = 1) (h2 : ¬ x = 2) : Op.lookupswitch.offset #[((1 : Int), (27 : Int)), (2, 49)].toList 71 x.toInt = 71 := by
  have a1 : ¬ x.toInt = 1 := fun q => h1 (Int32.toInt_inj.mp q)
  have a2 : ¬ x.toInt = 2 := fun q => h2 (Int32.toInt_inj.mp q)
  have b1 : ¬ (1 : Int) = x.toInt := fun q => a1 q.symm
  have b2 : ¬ (2 : Int) = x.toInt := fun q => a2 q.symm
  simp [Op.lookupswitch.offset, a1, a2, b1, b2]
theorem putA_get (S : Stt) (F a : Nat) (f : Nat → Int32) : (putA S F a f).1 F a = f := by simp [putA]
section CPY
variable {p : Program} {l : Launch} {e : Env} {R : Room} {s : State} {m : MethodId} {args : Array Value} {below : List Frame} {meth : Method} {c : Code} {H : Heap} {locs : List Loc} {cells slots : Nat} {Q : State → Prop}
variable {D : va_G} {cI cP cB cA : ClassId} {ad : Nat → Nat} {tL tC : Nat} {cc : ByteArray} {nL : Nat} {own : String} {pc : Nat} {ls : Array Slot} {rest : List Value} {S : Stt}
theorem cpy_inner_inner (X : Cx D cI cP cB cA 79 ad tL tC p s m c cc nL args own) (hP : va_P D vwCl (wl 79 ad (cfC ad cI cP cB cA S)) H) (hS : va_S (Ar 79 ad) s.heap H locs) (hls : ls.size = nL) {z r r2 : Nat} (h0 : z < 2) (h1 : r < shl z) (h2 : z < 2) (h3 : r2 < shl z) {sp dp n : Int32} (hg : cpb sp dp n (pll z) (pll z) = true) {ix : Nat} (hl : Cond.methodLink own ix arraycopyName ∈ tbs) (hfr : 1 ≤ R.frames) (hlo : (rest.map fun v => v.category).sum + (nativeFrameWords "java/lang/System" "arraycopy" 5 + 11) ≤ R.locals) (hd : decode cc pc = .ok (.invokestatic ix, 3)) (kk : ∀ (H1 : Heap) (locs1 : List Loc), va_P D vwCl (wl 79 ad (cfC ad cI cP cB cA (putA S (20 + z) r2 (va_cpy (S.1 (20 + z) r) (S.1 (20 + z) r2) sp.toNatClampNeg dp.toNatClampNeg n.toNatClampNeg)))) H1 → va_S (Ar 79 ad) s.heap H1 locs1 → W p l e R s m args below meth c H1 locs1 cells slots Q (F0 m (pc + 3) ls (rest))) : W p l e R s m args below meth c H locs cells slots Q (F0 m pc ls (.int n :: .int dp :: .ref (ad (24 + 6 * z + r2)) :: .int sp :: .ref (ad (24 + 6 * z + r)) :: rest)) := by
  obtain ⟨g1, g2, g3, g4, g5⟩ := of_decide_eq_true hg
  exact va_copyi (D := D) (f := S.1 (20 + z) r) (g := S.1 (20 + z) r2) (ty := .int) X.1.1 X.1.2.1 (X.1.2.2.1.trans hls.symm) X.1.2.2.2.1 (X.1.2.2.2.2 _ hl) (X.1.2.2.2.2 _ tw_420) (X.1.2.2.2.2 _ tw_419) (X.1.2.2.2.2 _ tw_391) X.2.1 hP (wl_D X.2.2.2.2) hS (24 + 6 * z + r) (24 + 6 * z + r2) 0 0 (wl_at (Nat.lt_trans (shl_s h0 h1) (by decide)) (cf_inner h0 h1)) (wl_at (Nat.lt_trans (shl_s h0 h3) (by decide)) (cf_inner h0 h3)) rfl rfl rfl g1 g2 g3 g4 g5 (fun _ _ => rfl) hfr hlo hd (fun H1 locs1 y1 _ y3 => kk H1 locs1 (by rw [wl_set (cf' := cfC ad cI cP cB cA (putA S (20 + z) r2 (va_cpy (S.1 (20 + z) r) (S.1 (20 + z) r2) sp.toNatClampNeg dp.toNatClampNeg n.toNatClampNeg))) (by rw [cf_inner h0 h3, putA_get]) (fun j _ hj => cfC_putA (fun i => by rcases (show z = 0 ∨ z = 1 by omega) with rfl | rfl <;> exact hj))] at y1; exact y1) y3)
theorem cpy_ptried_pplaces (X : Cx D cI cP cB cA 79 ad tL tC p s m c cc nL args own) (hP : va_P D vwCl (wl 79 ad (cfC ad cI cP cB cA S)) H) (hS : va_S (Ar 79 ad) s.heap H locs) (hls : ls.size = nL) {sp dp n : Int32} (hg : cpb sp dp n 8 8 = true) {ix : Nat} (hl : Cond.methodLink own ix arraycopyName ∈ tbs) (hfr : 1 ≤ R.frames) (hlo : (rest.map fun v => v.category).sum + (nativeFrameWords "java/lang/System" "arraycopy" 5 + 11) ≤ R.locals) (hd : decode cc pc = .ok (.invokestatic ix, 3)) (kk : ∀ (H1 : Heap) (locs1 : List Loc), va_P D vwCl (wl 79 ad (cfC ad cI cP cB cA (putA S 45 0 (va_cpy (S.1 44 0) (S.1 45 0) sp.toNatClampNeg dp.toNatClampNeg n.toNatClampNeg)))) H1 → va_S (Ar 79 ad) s.heap H1 locs1 → W p l e R s m args below meth c H1 locs1 cells slots Q (F0 m (pc + 3) ls (rest))) : W p l e R s m args below meth c H locs cells slots Q (F0 m pc ls (.int n :: .int dp :: .ref (ad 19) :: .int sp :: .ref (ad 18) :: rest)) := by
  obtain ⟨g1, g2, g3, g4, g5⟩ := of_decide_eq_true hg
  exact va_copyi (D := D) (f := S.1 44 0) (g := S.1 45 0) (ty := .int) X.1.1 X.1.2.1 (X.1.2.2.1.trans hls.symm) X.1.2.2.2.1 (X.1.2.2.2.2 _ hl) (X.1.2.2.2.2 _ tw_420) (X.1.2.2.2.2 _ tw_419) (X.1.2.2.2.2 _ tw_391) X.2.1 hP (wl_D X.2.2.2.2) hS 18 19 0 0 (wl_at (by decide) cf_ptried) (wl_at (by decide) cf_pplaces) rfl rfl rfl g1 g2 g3 g4 g5 (fun _ _ => rfl) hfr hlo hd (fun H1 locs1 y1 _ y3 => kk H1 locs1 (by rw [wl_set (cf' := cfC ad cI cP cB cA (putA S 45 0 (va_cpy (S.1 44 0) (S.1 45 0) sp.toNatClampNeg dp.toNatClampNeg n.toNatClampNeg))) (by rw [cf_pplaces, putA_get]) (fun j _ hj => cfC_putA (fun i => hj))] at y1; exact y1) y3)
theorem cpy_otried_obest (X : Cx D cI cP cB cA 79 ad tL tC p s m c cc nL args own) (hP : va_P D vwCl (wl 79 ad (cfC ad cI cP cB cA S)) H) (hS : va_S (Ar 79 ad) s.heap H locs) (hls : ls.size = nL) {sp dp n : Int32} (hg : cpb sp dp n 6 6 = true) {ix : Nat} (hl : Cond.methodLink own ix arraycopyName ∈ tbs) (hfr : 1 ≤ R.frames) (hlo : (rest.map fun v => v.category).sum + (nativeFrameWords "java/lang/System" "arraycopy" 5 + 11) ≤ R.locals) (hd : decode cc pc = .ok (.invokestatic ix, 3)) (kk : ∀ (H1 : Heap) (locs1 : List Loc), va_P D vwCl (wl 79 ad (cfC ad cI cP cB cA (putA S 51 0 (va_cpy (S.1 50 0) (S.1 51 0) sp.toNatClampNeg dp.toNatClampNeg n.toNatClampNeg)))) H1 → va_S (Ar 79 ad) s.heap H1 locs1 → W p l e R s m args below meth c H1 locs1 cells slots Q (F0 m (pc + 3) ls (rest))) : W p l e R s m args below meth c H locs cells slots Q (F0 m pc ls (.int n :: .int dp :: .ref (ad 21) :: .int sp :: .ref (ad 20) :: rest)) := by
  obtain ⟨g1, g2, g3, g4, g5⟩ := of_decide_eq_true hg
  exact va_copyi (D := D) (f := S.1 50 0) (g := S.1 51 0) (ty := .int) X.1.1 X.1.2.1 (X.1.2.2.1.trans hls.symm) X.1.2.2.2.1 (X.1.2.2.2.2 _ hl) (X.1.2.2.2.2 _ tw_420) (X.1.2.2.2.2 _ tw_419) (X.1.2.2.2.2 _ tw_391) X.2.1 hP (wl_D X.2.2.2.2) hS 20 21 0 0 (wl_at (by decide) cf_otried) (wl_at (by decide) cf_obest) rfl rfl rfl g1 g2 g3 g4 g5 (fun _ _ => rfl) hfr hlo hd (fun H1 locs1 y1 _ y3 => kk H1 locs1 (by rw [wl_set (cf' := cfC ad cI cP cB cA (putA S 51 0 (va_cpy (S.1 50 0) (S.1 51 0) sp.toNatClampNeg dp.toNatClampNeg n.toNatClampNeg))) (by rw [cf_obest, putA_get]) (fun j _ hj => cfC_putA (fun i => hj))] at y1; exact y1) y3)
end CPY
