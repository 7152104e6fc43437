/-! the law: its loop, its start -/
section LAWL
variable {p : Program} {l : Launch} {e : Env} {s : State} {m : MethodId} {below : List Frame} {meth : Method} {c : Code}
variable {D : va_G} {cI cP cB cA : ClassId} {tL tC b L : Nat} {xs : Nat → Int32}
theorem nI_m6 {L : Nat} (hL : L ≤ 384) : (nI L - 6).toInt = (L : Int) - 6 := by
  rw [show (6 : Int32) = nI 6 from rfl]
  exact pk_sub_toInt (by omega) (by omega)
set_option maxHeartbeats 4000000 in
set_option maxRecDepth 100000 in
theorem law_switch (X : Lw D cI cP cB cA tL tC p s m meth c b L xs) (hL : L ≤ 384) {i : Nat} (hi : i + 6 ≤ L) {S M : Stt} {H : Heap} {locs : List Loc} {ls : Array Slot} (hR : Rel S M) (hW : Wd D cI cP cB cA s S M H locs) (hl : lv_has ls 4 [(0, .ref b), (1, .ref (aC s.heap.size 0)), (2, .ref (aM s.heap.size 0)), (3, .int (nI i))]) (kk : Nxt p l e s m below meth c D cI cP cB cA b ls) (z : Int32) : W p l e room_1 s m #[Value.ref b] below meth c H locs 98 1876 (lw_Z below #[Value.ref b] s) (F0 m 33 ls [.int z]) := by
  have hx := X.1.1.1
  have hb := X.1.1.2.1
  by_cases c0 : z = (0 : Int32)
  · refine W.eq (g2 := F0 m 33 ls [.int (0 : Int32)]) (by rw [c0]) ?_
    refine lv_tableIn (x := (0 : Int32)) (off := 203) (tgt := 236) hx hb dL_law_33 (by decide) (by decide) rfl (by decide) ?_
    exact case_0 X hL hi hR hW hl kk
  by_cases c1 : z = (1 : Int32)
  · refine W.eq (g2 := F0 m 33 ls [.int (1 : Int32)]) (by rw [c1]) ?_
    refine lv_tableIn (x := (1 : Int32)) (off := 236) (tgt := 269) hx hb dL_law_33 (by decide) (by decide) rfl (by decide) ?_
    exact case_1 X hL hi hR hW hl kk
  by_cases c2 : z = (2 : Int32)
  · refine W.eq (g2 := F0 m 33 ls [.int (2 : Int32)]) (by rw [c2]) ?_
    refine lv_tableIn (x := (2 : Int32)) (off := 279) (tgt := 312) hx hb dL_law_33 (by decide) (by decide) rfl (by decide) ?_
    exact case_2 X hL hi hR hW hl kk
  by_cases c3 : z = (3 : Int32)
  · refine W.eq (g2 := F0 m 33 ls [.int (3 : Int32)]) (by rw [c3]) ?_
    refine lv_tableIn (x := (3 : Int32)) (off := 312) (tgt := 345) hx hb dL_law_33 (by decide) (by decide) rfl (by decide) ?_
    exact case_3 X hL hi hR hW hl kk
  by_cases c4 : z = (4 : Int32)
  · refine W.eq (g2 := F0 m 33 ls [.int (4 : Int32)]) (by rw [c4]) ?_
    refine lv_tableIn (x := (4 : Int32)) (off := 335) (tgt := 368) hx hb dL_law_33 (by decide) (by decide) rfl (by decide) ?_
    exact case_4 X hL hi hR hW hl kk
  by_cases c5 : z = (5 : Int32)
  · refine W.eq (g2 := F0 m 33 ls [.int (5 : Int32)]) (by rw [c5]) ?_
    refine lv_tableIn (x := (5 : Int32)) (off := 398) (tgt := 431) hx hb dL_law_33 (by decide) (by decide) rfl (by decide) ?_
    exact case_5 X hL hi hR hW hl kk
  by_cases c6 : z = (6 : Int32)
  · refine W.eq (g2 := F0 m 33 ls [.int (6 : Int32)]) (by rw [c6]) ?_
    refine lv_tableIn (x := (6 : Int32)) (off := 421) (tgt := 454) hx hb dL_law_33 (by decide) (by decide) rfl (by decide) ?_
    exact case_6 X hL hi hR hW hl kk
  by_cases c7 : z = (7 : Int32)
  · refine W.eq (g2 := F0 m 33 ls [.int (7 : Int32)]) (by rw [c7]) ?_
    refine lv_tableIn (x := (7 : Int32)) (off := 454) (tgt := 487) hx hb dL_law_33 (by decide) (by decide) rfl (by decide) ?_
    exact case_7 X hL hi hR hW hl kk
  by_cases c8 : z = (8 : Int32)
  · refine W.eq (g2 := F0 m 33 ls [.int (8 : Int32)]) (by rw [c8]) ?_
    refine lv_tableIn (x := (8 : Int32)) (off := 497) (tgt := 530) hx hb dL_law_33 (by decide) (by decide) rfl (by decide) ?_
    exact case_8 X hL hi hR hW hl kk
  by_cases c9 : z = (9 : Int32)
  · refine W.eq (g2 := F0 m 33 ls [.int (9 : Int32)]) (by rw [c9]) ?_
    refine lv_tableIn (x := (9 : Int32)) (off := 520) (tgt := 553) hx hb dL_law_33 (by decide) (by decide) rfl (by decide) ?_
    exact case_9 X hL hi hR hW hl kk
  by_cases c10 : z = (10 : Int32)
  · refine W.eq (g2 := F0 m 33 ls [.int (10 : Int32)]) (by rw [c10]) ?_
    refine lv_tableIn (x := (10 : Int32)) (off := 543) (tgt := 576) hx hb dL_law_33 (by decide) (by decide) rfl (by decide) ?_
    exact case_10 X hL hi hR hW hl kk
  by_cases c11 : z = (11 : Int32)
  · refine W.eq (g2 := F0 m 33 ls [.int (11 : Int32)]) (by rw [c11]) ?_
    refine lv_tableIn (x := (11 : Int32)) (off := 576) (tgt := 609) hx hb dL_law_33 (by decide) (by decide) rfl (by decide) ?_
    exact case_11 X hL hi hR hW hl kk
  by_cases c12 : z = (12 : Int32)
  · refine W.eq (g2 := F0 m 33 ls [.int (12 : Int32)]) (by rw [c12]) ?_
    refine lv_tableIn (x := (12 : Int32)) (off := 609) (tgt := 642) hx hb dL_law_33 (by decide) (by decide) rfl (by decide) ?_
    exact case_12 X hL hi hR hW hl kk
  by_cases c13 : z = (13 : Int32)
  · refine W.eq (g2 := F0 m 33 ls [.int (13 : Int32)]) (by rw [c13]) ?_
    refine lv_tableIn (x := (13 : Int32)) (off := 642) (tgt := 675) hx hb dL_law_33 (by decide) (by decide) rfl (by decide) ?_
    exact case_13 X hL hi hR hW hl kk
  by_cases c14 : z = (14 : Int32)
  · refine W.eq (g2 := F0 m 33 ls [.int (14 : Int32)]) (by rw [c14]) ?_
    refine lv_tableIn (x := (14 : Int32)) (off := 675) (tgt := 708) hx hb dL_law_33 (by decide) (by decide) rfl (by decide) ?_
    exact case_14 X hL hi hR hW hl kk
  by_cases c15 : z = (15 : Int32)
  · refine W.eq (g2 := F0 m 33 ls [.int (15 : Int32)]) (by rw [c15]) ?_
    refine lv_tableIn (x := (15 : Int32)) (off := 698) (tgt := 731) hx hb dL_law_33 (by decide) (by decide) rfl (by decide) ?_
    exact case_15 X hL hi hR hW hl kk
  by_cases c16 : z = (16 : Int32)
  · refine W.eq (g2 := F0 m 33 ls [.int (16 : Int32)]) (by rw [c16]) ?_
    refine lv_tableIn (x := (16 : Int32)) (off := 731) (tgt := 764) hx hb dL_law_33 (by decide) (by decide) rfl (by decide) ?_
    exact case_16 X hL hi hR hW hl kk
  by_cases c17 : z = (17 : Int32)
  · refine W.eq (g2 := F0 m 33 ls [.int (17 : Int32)]) (by rw [c17]) ?_
    refine lv_tableIn (x := (17 : Int32)) (off := 744) (tgt := 777) hx hb dL_law_33 (by decide) (by decide) rfl (by decide) ?_
    exact case_17 X hL hi hR hW hl kk
  by_cases c18 : z = (18 : Int32)
  · refine W.eq (g2 := F0 m 33 ls [.int (18 : Int32)]) (by rw [c18]) ?_
    refine lv_tableIn (x := (18 : Int32)) (off := 767) (tgt := 800) hx hb dL_law_33 (by decide) (by decide) rfl (by decide) ?_
    exact case_18 X hL hi hR hW hl kk
  by_cases c19 : z = (19 : Int32)
  · refine W.eq (g2 := F0 m 33 ls [.int (19 : Int32)]) (by rw [c19]) ?_
    refine lv_tableIn (x := (19 : Int32)) (off := 790) (tgt := 823) hx hb dL_law_33 (by decide) (by decide) rfl (by decide) ?_
    exact case_19 X hL hi hR hW hl kk
  by_cases c20 : z = (20 : Int32)
  · refine W.eq (g2 := F0 m 33 ls [.int (20 : Int32)]) (by rw [c20]) ?_
    refine lv_tableIn (x := (20 : Int32)) (off := 813) (tgt := 846) hx hb dL_law_33 (by decide) (by decide) rfl (by decide) ?_
    exact case_20 X hL hi hR hW hl kk
  by_cases c21 : z = (21 : Int32)
  · refine W.eq (g2 := F0 m 33 ls [.int (21 : Int32)]) (by rw [c21]) ?_
    refine lv_tableIn (x := (21 : Int32)) (off := 846) (tgt := 879) hx hb dL_law_33 (by decide) (by decide) rfl (by decide) ?_
    exact case_21 X hL hi hR hW hl kk
  by_cases c22 : z = (22 : Int32)
  · refine W.eq (g2 := F0 m 33 ls [.int (22 : Int32)]) (by rw [c22]) ?_
    refine lv_tableIn (x := (22 : Int32)) (off := 869) (tgt := 902) hx hb dL_law_33 (by decide) (by decide) rfl (by decide) ?_
    exact case_22 X hL hi hR hW hl kk
  by_cases c23 : z = (23 : Int32)
  · refine W.eq (g2 := F0 m 33 ls [.int (23 : Int32)]) (by rw [c23]) ?_
    refine lv_tableIn (x := (23 : Int32)) (off := 882) (tgt := 915) hx hb dL_law_33 (by decide) (by decide) rfl (by decide) ?_
    exact case_23 X hL hi hR hW hl kk
  by_cases c24 : z = (24 : Int32)
  · refine W.eq (g2 := F0 m 33 ls [.int (24 : Int32)]) (by rw [c24]) ?_
    refine lv_tableIn (x := (24 : Int32)) (off := 915) (tgt := 948) hx hb dL_law_33 (by decide) (by decide) rfl (by decide) ?_
    exact case_24 X hL hi hR hW hl kk
  by_cases c25 : z = (25 : Int32)
  · refine W.eq (g2 := F0 m 33 ls [.int (25 : Int32)]) (by rw [c25]) ?_
    refine lv_tableIn (x := (25 : Int32)) (off := 958) (tgt := 991) hx hb dL_law_33 (by decide) (by decide) rfl (by decide) ?_
    exact case_25 X hL hi hR hW hl kk
  by_cases c26 : z = (26 : Int32)
  · refine W.eq (g2 := F0 m 33 ls [.int (26 : Int32)]) (by rw [c26]) ?_
    refine lv_tableIn (x := (26 : Int32)) (off := 991) (tgt := 1024) hx hb dL_law_33 (by decide) (by decide) rfl (by decide) ?_
    exact case_26 X hL hi hR hW hl kk
  by_cases c27 : z = (27 : Int32)
  · refine W.eq (g2 := F0 m 33 ls [.int (27 : Int32)]) (by rw [c27]) ?_
    refine lv_tableIn (x := (27 : Int32)) (off := 1014) (tgt := 1047) hx hb dL_law_33 (by decide) (by decide) rfl (by decide) ?_
    exact case_27 X hL hi hR hW hl kk
  by_cases c28 : z = (28 : Int32)
  · refine W.eq (g2 := F0 m 33 ls [.int (28 : Int32)]) (by rw [c28]) ?_
    refine lv_tableIn (x := (28 : Int32)) (off := 1027) (tgt := 1060) hx hb dL_law_33 (by decide) (by decide) rfl (by decide) ?_
    exact case_28 X hL hi hR hW hl kk
  by_cases c29 : z = (29 : Int32)
  · refine W.eq (g2 := F0 m 33 ls [.int (29 : Int32)]) (by rw [c29]) ?_
    refine lv_tableIn (x := (29 : Int32)) (off := 1060) (tgt := 1093) hx hb dL_law_33 (by decide) (by decide) rfl (by decide) ?_
    exact case_29 X hL hi hR hW hl kk
  by_cases c30 : z = (30 : Int32)
  · refine W.eq (g2 := F0 m 33 ls [.int (30 : Int32)]) (by rw [c30]) ?_
    refine lv_tableIn (x := (30 : Int32)) (off := 1093) (tgt := 1126) hx hb dL_law_33 (by decide) (by decide) rfl (by decide) ?_
    exact case_30 X hL hi hR hW hl kk
  by_cases c31 : z = (31 : Int32)
  · refine W.eq (g2 := F0 m 33 ls [.int (31 : Int32)]) (by rw [c31]) ?_
    refine lv_tableIn (x := (31 : Int32)) (off := 1126) (tgt := 1159) hx hb dL_law_33 (by decide) (by decide) rfl (by decide) ?_
    exact case_31 X hL hi hR hW hl kk
  by_cases c32 : z = (32 : Int32)
  · refine W.eq (g2 := F0 m 33 ls [.int (32 : Int32)]) (by rw [c32]) ?_
    refine lv_tableIn (x := (32 : Int32)) (off := 1149) (tgt := 1182) hx hb dL_law_33 (by decide) (by decide) rfl (by decide) ?_
    exact case_32 X hL hi hR hW hl kk
  by_cases c33 : z = (33 : Int32)
  · refine W.eq (g2 := F0 m 33 ls [.int (33 : Int32)]) (by rw [c33]) ?_
    refine lv_tableIn (x := (33 : Int32)) (off := 1182) (tgt := 1215) hx hb dL_law_33 (by decide) (by decide) rfl (by decide) ?_
    exact case_33 X hL hi hR hW hl kk
  by_cases c34 : z = (34 : Int32)
  · refine W.eq (g2 := F0 m 33 ls [.int (34 : Int32)]) (by rw [c34]) ?_
    refine lv_tableIn (x := (34 : Int32)) (off := 1195) (tgt := 1228) hx hb dL_law_33 (by decide) (by decide) rfl (by decide) ?_
    exact case_34 X hL hi hR hW hl kk
  by_cases c35 : z = (35 : Int32)
  · refine W.eq (g2 := F0 m 33 ls [.int (35 : Int32)]) (by rw [c35]) ?_
    refine lv_tableIn (x := (35 : Int32)) (off := 1228) (tgt := 1261) hx hb dL_law_33 (by decide) (by decide) rfl (by decide) ?_
    exact case_35 X hL hi hR hW hl kk
  by_cases c36 : z = (36 : Int32)
  · refine W.eq (g2 := F0 m 33 ls [.int (36 : Int32)]) (by rw [c36]) ?_
    refine lv_tableIn (x := (36 : Int32)) (off := 1251) (tgt := 1284) hx hb dL_law_33 (by decide) (by decide) rfl (by decide) ?_
    exact case_36 X hL hi hR hW hl kk
  by_cases c37 : z = (37 : Int32)
  · refine W.eq (g2 := F0 m 33 ls [.int (37 : Int32)]) (by rw [c37]) ?_
    refine lv_tableIn (x := (37 : Int32)) (off := 1264) (tgt := 1297) hx hb dL_law_33 (by decide) (by decide) rfl (by decide) ?_
    exact case_37 X hL hi hR hW hl kk
  by_cases c38 : z = (38 : Int32)
  · refine W.eq (g2 := F0 m 33 ls [.int (38 : Int32)]) (by rw [c38]) ?_
    refine lv_tableIn (x := (38 : Int32)) (off := 1287) (tgt := 1320) hx hb dL_law_33 (by decide) (by decide) rfl (by decide) ?_
    exact case_38 X hL hi hR hW hl kk
  by_cases c39 : z = (39 : Int32)
  · refine W.eq (g2 := F0 m 33 ls [.int (39 : Int32)]) (by rw [c39]) ?_
    refine lv_tableIn (x := (39 : Int32)) (off := 1340) (tgt := 1373) hx hb dL_law_33 (by decide) (by decide) rfl (by decide) ?_
    exact case_39 X hL hi hR hW hl kk
  by_cases c40 : z = (40 : Int32)
  · refine W.eq (g2 := F0 m 33 ls [.int (40 : Int32)]) (by rw [c40]) ?_
    refine lv_tableIn (x := (40 : Int32)) (off := 1373) (tgt := 1406) hx hb dL_law_33 (by decide) (by decide) rfl (by decide) ?_
    exact case_40 X hL hi hR hW hl kk
  by_cases c41 : z = (41 : Int32)
  · refine W.eq (g2 := F0 m 33 ls [.int (41 : Int32)]) (by rw [c41]) ?_
    refine lv_tableIn (x := (41 : Int32)) (off := 1386) (tgt := 1419) hx hb dL_law_33 (by decide) (by decide) rfl (by decide) ?_
    exact case_41 X hL hi hR hW hl kk
  by_cases c42 : z = (42 : Int32)
  · refine W.eq (g2 := F0 m 33 ls [.int (42 : Int32)]) (by rw [c42]) ?_
    refine lv_tableIn (x := (42 : Int32)) (off := 1400) (tgt := 1433) hx hb dL_law_33 (by decide) (by decide) rfl (by decide) ?_
    exact case_42 X hL hi hR hW hl kk
  by_cases c43 : z = (43 : Int32)
  · refine W.eq (g2 := F0 m 33 ls [.int (43 : Int32)]) (by rw [c43]) ?_
    refine lv_tableIn (x := (43 : Int32)) (off := 1414) (tgt := 1447) hx hb dL_law_33 (by decide) (by decide) rfl (by decide) ?_
    exact case_43 X hL hi hR hW hl kk
  by_cases c44 : z = (44 : Int32)
  · refine W.eq (g2 := F0 m 33 ls [.int (44 : Int32)]) (by rw [c44]) ?_
    refine lv_tableIn (x := (44 : Int32)) (off := 1437) (tgt := 1470) hx hb dL_law_33 (by decide) (by decide) rfl (by decide) ?_
    exact case_44 X hL hi hR hW hl kk
  by_cases c45 : z = (45 : Int32)
  · refine W.eq (g2 := F0 m 33 ls [.int (45 : Int32)]) (by rw [c45]) ?_
    refine lv_tableIn (x := (45 : Int32)) (off := 1450) (tgt := 1483) hx hb dL_law_33 (by decide) (by decide) rfl (by decide) ?_
    exact case_45 X hL hi hR hW hl kk
  by_cases c46 : z = (46 : Int32)
  · refine W.eq (g2 := F0 m 33 ls [.int (46 : Int32)]) (by rw [c46]) ?_
    refine lv_tableIn (x := (46 : Int32)) (off := 1473) (tgt := 1506) hx hb dL_law_33 (by decide) (by decide) rfl (by decide) ?_
    exact case_46 X hL hi hR hW hl kk
  have z9 : ∀ k : Int32, ¬ z = k → ¬ z.toInt = k.toInt := fun k h q => h (Int32.toInt_inj.mp q)
  have a0 : ¬ z.toInt = 0 := z9 (0 : Int32) c0
  have a1 : ¬ z.toInt = 1 := z9 (1 : Int32) c1
  have a2 : ¬ z.toInt = 2 := z9 (2 : Int32) c2
  have a3 : ¬ z.toInt = 3 := z9 (3 : Int32) c3
  have a4 : ¬ z.toInt = 4 := z9 (4 : Int32) c4
  have a5 : ¬ z.toInt = 5 := z9 (5 : Int32) c5
  have a6 : ¬ z.toInt = 6 := z9 (6 : Int32) c6
  have a7 : ¬ z.toInt = 7 := z9 (7 : Int32) c7
  have a8 : ¬ z.toInt = 8 := z9 (8 : Int32) c8
  have a9 : ¬ z.toInt = 9 := z9 (9 : Int32) c9
  have a10 : ¬ z.toInt = 10 := z9 (10 : Int32) c10
  have a11 : ¬ z.toInt = 11 := z9 (11 : Int32) c11
  have a12 : ¬ z.toInt = 12 := z9 (12 : Int32) c12
  have a13 : ¬ z.toInt = 13 := z9 (13 : Int32) c13
  have a14 : ¬ z.toInt = 14 := z9 (14 : Int32) c14
  have a15 : ¬ z.toInt = 15 := z9 (15 : Int32) c15
  have a16 : ¬ z.toInt = 16 := z9 (16 : Int32) c16
  have a17 : ¬ z.toInt = 17 := z9 (17 : Int32) c17
  have a18 : ¬ z.toInt = 18 := z9 (18 : Int32) c18
  have a19 : ¬ z.toInt = 19 := z9 (19 : Int32) c19
  have a20 : ¬ z.toInt = 20 := z9 (20 : Int32) c20
  have a21 : ¬ z.toInt = 21 := z9 (21 : Int32) c21
  have a22 : ¬ z.toInt = 22 := z9 (22 : Int32) c22
  have a23 : ¬ z.toInt = 23 := z9 (23 : Int32) c23
  have a24 : ¬ z.toInt = 24 := z9 (24 : Int32) c24
  have a25 : ¬ z.toInt = 25 := z9 (25 : Int32) c25
  have a26 : ¬ z.toInt = 26 := z9 (26 : Int32) c26
  have a27 : ¬ z.toInt = 27 := z9 (27 : Int32) c27
  have a28 : ¬ z.toInt = 28 := z9 (28 : Int32) c28
  have a29 : ¬ z.toInt = 29 := z9 (29 : Int32) c29
  have a30 : ¬ z.toInt = 30 := z9 (30 : Int32) c30
  have a31 : ¬ z.toInt = 31 := z9 (31 : Int32) c31
  have a32 : ¬ z.toInt = 32 := z9 (32 : Int32) c32
  have a33 : ¬ z.toInt = 33 := z9 (33 : Int32) c33
  have a34 : ¬ z.toInt = 34 := z9 (34 : Int32) c34
  have a35 : ¬ z.toInt = 35 := z9 (35 : Int32) c35
  have a36 : ¬ z.toInt = 36 := z9 (36 : Int32) c36
  have a37 : ¬ z.toInt = 37 := z9 (37 : Int32) c37
  have a38 : ¬ z.toInt = 38 := z9 (38 : Int32) c38
  have a39 : ¬ z.toInt = 39 := z9 (39 : Int32) c39
  have a40 : ¬ z.toInt = 40 := z9 (40 : Int32) c40
  have a41 : ¬ z.toInt = 41 := z9 (41 : Int32) c41
  have a42 : ¬ z.toInt = 42 := z9 (42 : Int32) c42
  have a43 : ¬ z.toInt = 43 := z9 (43 : Int32) c43
  have a44 : ¬ z.toInt = 44 := z9 (44 : Int32) c44
  have a45 : ¬ z.toInt = 45 := z9 (45 : Int32) c45
  have a46 : ¬ z.toInt = 46 := z9 (46 : Int32) c46
  have z8 : z.toInt < 0 ∨ 46 < z.toInt := by omega
  refine lv_tableOut (tgt := 1520) hx hb dL_law_33 z8 (by decide) ?_
  exact kk S M H locs hR hW
set_option maxHeartbeats 4000000 in
set_option maxRecDepth 100000 in
theorem law_loop (X : Lw D cI cP cB cA tL tC p s m meth c b L xs) (hL : L ≤ 384) : ∀ (k i : Nat) (S M : Stt) (H : Heap) (locs : List Loc) (ls : Array Slot), i ≤ L → L < i + k → Rel S M → Wd D cI cP cB cA s S M H locs → lv_has ls 4 [(0, .ref b), (1, .ref (aC s.heap.size 0)), (2, .ref (aM s.heap.size 0)), (3, .int (nI i))] → W p l e room_1 s m #[Value.ref b] below meth c H locs 98 1876 (lw_Z below #[Value.ref b] s) (F0 m 18 ls []) := by
  have hx := X.1.1.1
  have hb := X.1.1.2.1
  intro k
  induction k with
  | zero => intro i S M H locs ls h1 h2; omega
  | succ k ih =>
    intro i S M H locs ls h1 h2 hR hW hl
    refine lv_iload_n hx hb dL_law_18 rfl (lv_at hl 3 rfl) ?_
    refine lv_aload_n hx hb dL_law_19 rfl (lv_at hl 0 rfl) ?_
    refine lawN X hW dL_law_20 ?_
    refine lv_bipush (v := (6 : Int32)) hx hb dL_law_21 (by decide) ?_
    refine lv_isub hx hb dL_law_23 ?_
    refine lv_icmp_gt (tgt := 1526) hx hb dL_law_24 (by decide) (fun c9 => ?_) (fun c9 => ?_)
    · refine lv_iconst (v := (1 : Int32)) hx hb dL_law_1526 (by decide) ?_
      refine va_forget hW.2.2.2.2 ?_
      refine W.widen (k := 600000) (n := 7302250) (Nat.le_of_ble_eq_true rfl) (Nat.le_of_ble_eq_true rfl) ?_
      exact lw_ret hx hb X.2.2.2.2.1 X.2.2.2.2.2 dL_law_1527
    · have hi : i + 6 ≤ L := by
        have c8 : ¬ (nI L - 6 < nI i) := c9
        rw [Int32.lt_iff_toInt_lt, nI_m6 hL, nI_toInt (by omega)] at c8
        omega
      refine lv_aload_n hx hb dL_law_27 rfl (lv_at hl 0 rfl) ?_
      refine lv_iload_n hx hb dL_law_28 rfl (lv_at hl 3 rfl) ?_
      refine lawS X hW (vp_in_nI (by omega) (by omega)) dL_law_29 ?_
      refine lv_bipush (v := (63 : Int32)) hx hb dL_law_30 (by decide) ?_
      refine lv_iand hx hb dL_law_32 ?_
      refine law_switch X hL hi hR hW hl (fun S M H locs hR hW => ?_) _
      refine lv_iinc (v := nI (i + 6)) (lv' := [(3, .int (nI (i + 6))), (0, .ref b), (1, .ref (aC s.heap.size 0)), (2, .ref (aM s.heap.size 0))]) hx hb dL_law_1520 hl (k := 3) rfl (nI_add i 6) (by decide) rfl (fun ls hl => ?_)
      refine lv_goto (tgt := 18) hx hb dL_law_1523 (by decide) ?_
      exact ih (i + 6) S M H locs ls hi (by omega) hR hW (lv_sub hl [1, 2, 3, 0] rfl)
end LAWL
set_option maxHeartbeats 4000000 in
set_option maxRecDepth 100000 in
theorem whole_start {p : Program} {e : Env} {s : State} {m : MethodId} {below : List Frame} {meth : Method} {c : Code} (l : Launch) {b L : Nat} {xs : Nat → Int32} (hL : L ≤ 384) (C0 : lw_At p s m meth c b L xs) : W p l e room_1 s m #[Value.ref b] below meth c s.heap [] 0 0 (lw_Z below #[Value.ref b] s) (entryFrame m ([Value.ref b] : List Value).toArray 4) := by
  obtain ⟨hx, hb, hr, hml, hown, hts, hX, hbl, hlocks, hgv⟩ := C0
  obtain ⟨tL, tC, hSta⟩ := law_sta hts hgv
  obtain ⟨D, cI, cP, cB, cA, hK⟩ := law_K hts
  have X : Cz D cI cP cB cA p s m c code 4 #[Value.ref b] RL := ⟨⟨hx, hb, hml, hown, hK.2.1.use _⟩, hK⟩
  have hI : Im D s.heap.size [] s.heap := ⟨rfl, fun o e h => by simp at h⟩
  have hS : va_S (fr9 s.heap.size) s.heap s.heap [] := va_S.rf
  have hl := lv_entry ([.ref b]) (n := 4) (Nat.le_of_ble_eq_true rfl)
  rw [lg_entry_eq]
  generalize (lg_sl ([.ref b]) ++ List.replicate (4 - (lg_sl ([.ref b])).length) Slot.unset).toArray = ls at hl ⊢
  have hl : lv_has ls 4 [(0, .ref b)] := hl
  refine zNew (ci := 7) (L := []) X hI hS rfl inX7 tyX7 tyX7_ok dfX7 tz_cl14 tz_is15 tw_381 (Nat.le_of_ble_eq_true rfl) (Nat.le_of_ble_eq_true rfl) dL_law_0 (fun H hI hS => ?_)
  refine lv_dup hx hb dL_law_3 rfl ?_
  refine zCallI (L := []) (e0 := .inr (7, [.null, .null, .null, .null, .null, .null, .null, .null, .null, .null, .int 0, .int 0, .long 0, .long 0])) (rest := [.ref (aC s.heap.size 0)]) X hI hS [] (n_X7_init (b := s.heap.size)) cw_X7_init tw_107 tw_394 rfl ⟨Nat.le_of_ble_eq_true rfl, Nat.le_of_ble_eq_true rfl⟩ rfl rfl hl.1 (Nat.le_of_ble_eq_true rfl) dL_law_4 ⟨Nat.le_of_ble_eq_true rfl, Nat.le_of_ble_eq_true rfl⟩ (fun H locs hI hS => ?_)
  have hI : Im D s.heap.size (lstC cI cP cB cA s.heap.size) H := hI
  refine lv_astore_n (lv' := [(1, .ref (aC s.heap.size 0)), (0, .ref b)]) hx hb dL_law_7 rfl hl (by decide) rfl (fun ls hl => ?_)
  refine zNew (ci := 8) (L := lstC cI cP cB cA s.heap.size) X hI hS rfl inX8 tyX8 tyX8_ok dfX8 tz_cl799 tz_is800 tw_390 (Nat.le_of_ble_eq_true rfl) (Nat.le_of_ble_eq_true rfl) dL_law_8 (fun H hI hS => ?_)
  refine lv_dup hx hb dL_law_11 rfl ?_
  refine zCallI (L := lstC cI cP cB cA s.heap.size) (e0 := .inr (8, [.int 0, .null, .int 0, .long 0, .long 0, .null, .null, .null, .null, .null, .int 0, .null, .null, .null, .null, .null, .null, .int 0, .int 0, .null, .int 0, .null, .int 0, .null, .int 0, .null, .int 0, .null, .int 0, .null, .long 0])) (rest := [.ref (aM s.heap.size 0)]) X hI hS [] (n_X8_init (b := s.heap.size + 79)) cw_X8_init tw_284 tw_543 rfl ⟨Nat.le_of_ble_eq_true rfl, Nat.le_of_ble_eq_true rfl⟩ rfl rfl hl.1 (Nat.le_of_ble_eq_true rfl) dL_law_12 ⟨Nat.le_of_ble_eq_true rfl, Nat.le_of_ble_eq_true rfl⟩ (fun H locs hI hS => ?_)
  have hI : Im D s.heap.size (lstC cI cP cB cA s.heap.size ++ lstM cI (s.heap.size + 79)) H := hI
  refine lv_astore_n (lv' := [(2, .ref (aM s.heap.size 0)), (1, .ref (aC s.heap.size 0)), (0, .ref b)]) hx hb dL_law_15 rfl hl (by decide) rfl (fun ls hl => ?_)
  refine lv_iconst (v := (0 : Int32)) hx hb dL_law_16 (by decide) ?_
  refine lv_istore_n (lv' := [(3, .int (0 : Int32)), (2, .ref (aM s.heap.size 0)), (1, .ref (aC s.heap.size 0)), (0, .ref b)]) hx hb dL_law_17 rfl hl (by decide) rfl (fun ls hl => ?_)
  refine W.widen (k := 98) (n := 1876) (Nat.le_of_ble_eq_true rfl) (Nat.le_of_ble_eq_true rfl) ?_
  have hl : lv_has ls 4 [(0, .ref b), (1, .ref (aC s.heap.size 0)), (2, .ref (aM s.heap.size 0)), (3, .int (nI 0))] := lv_sub hl [3, 2, 1, 0] rfl
  refine law_loop (D := D) (cI := cI) (cP := cP) (cB := cB) (cA := cA) (tL := tL) (tC := tC) (xs := xs) ⟨X, hSta, hX, hbl, hr, hlocks⟩ hL (L + 1) 0 S0 M0 H locs ls (Nat.zero_le _) (by omega) Rel0 ⟨worldC (fun o e h => hI.2 o e ?_), worldM (fun o e h => ?_), hS⟩ hl
  · have h9 := (List.getElem?_eq_some_iff.mp h).1
    rw [List.getElem?_append_left h9]
    exact h
  · have h9 := hI.2 (79 + o) e (by rw [List.getElem?_append_right (show (lstC cI cP cB cA s.heap.size).length ≤ 79 + o from Nat.le_add_right 79 o), show 79 + o - (lstC cI cP cB cA s.heap.size).length = o from Nat.add_sub_cancel_left 79 o]; exact h)
    rw [← Nat.add_assoc] at h9
    exact h9
