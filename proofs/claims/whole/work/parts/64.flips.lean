/-! kinds -/
def setK (Q : Nat → Nat → Nat) (i k : Nat) : Nat → Nat → Nat := fun a j => if a = 0 ∧ j = i then k else Q a j
theorem setK_i (Q : Nat → Nat → Nat) (i k : Nat) : setK Q i k 0 i = k := if_pos ⟨rfl, rfl⟩
theorem setK_a {Q : Nat → Nat → Nat} {i k a j : Nat} (h : a ≠ 0) : setK Q i k a j = Q a j := if_neg (fun q => h q.1)
theorem setK_j {Q : Nat → Nat → Nat} {i k a j : Nat} (h : j ≠ i) : setK Q i k a j = Q a j := if_neg (fun q => h q.2)
theorem BkV.kindE {n : Nat} {Q : Nat → Nat → Nat} (h : BkV n Q) {i k : Nat} (hk : k = 0 ∨ k = 1 ∨ k = 4) : BkV n (setK Q i k) := by
  refine ⟨h.1, fun j hj => ?_⟩
  obtain ⟨v0, v1, v2, v3, v4, v5⟩ := h.2 j hj
  unfold PgV
  rw [setK_a (show (1 : Nat) ≠ 0 by omega), setK_a (show (2 : Nat) ≠ 0 by omega), setK_a (show (3 : Nat) ≠ 0 by omega), setK_a (show (4 : Nat) ≠ 0 by omega), setK_a (show (5 : Nat) ≠ 0 by omega)]
  by_cases c : j = i
  · subst c
    rw [setK_i]
    exact ⟨by omega, (fun q => absurd q (by omega)), v2, v3, (fun q => absurd q (by omega)), v5⟩
  · rw [setK_j c]
    exact ⟨v0, v1, v2, v3, v4, v5⟩
theorem changeKind_eq {S : Stt} {b n i k : Nat} {Q : Nat → Nat → Nat} (hV : BkV n Q) (hB : BC S b n Q) (hi : i < n) (hk : k = 0 ∨ k = 1 ∨ k = 4) : ∃ S', f_X0_changeKind b (nI i) (nI k) S = some S' ∧ KB b S S' ∧ BC S' b n (setK Q i k) ∧ RkC S' b n (setK Q i k) := by
  have hn := hV.1
  have hB1 : BC (put S 10 b i (nI k)) b n (setK Q i k) := by
    refine ⟨by rw [put_at, if_neg (by omega)]; exact hB.1, fun j hj => ?_⟩
    obtain ⟨p0, p1, p2, p3, p4, p5, p6⟩ := hB.2 j hj
    unfold PgC
    rw [setK_a (show (1 : Nat) ≠ 0 by omega), setK_a (show (2 : Nat) ≠ 0 by omega), setK_a (show (3 : Nat) ≠ 0 by omega), setK_a (show (4 : Nat) ≠ 0 by omega), setK_a (show (5 : Nat) ≠ 0 by omega), put_at, put_at, if_neg (show ¬ (11 = 10 ∧ b = b ∧ j = i) by omega), put_at, if_neg (show ¬ (12 = 10 ∧ b = b ∧ j = i) by omega), put_at, if_neg (show ¬ (13 = 10 ∧ b = b ∧ j = i) by omega), put_at, if_neg (show ¬ (14 = 10 ∧ b = b ∧ j = i) by omega), put_at, if_neg (show ¬ (15 = 10 ∧ b = b ∧ j = i) by omega), put_at, if_neg (show ¬ (16 = 10 ∧ b = b ∧ j = i) by omega)]
    by_cases c : j = i
    · subst c
      rw [setK_i, if_pos ⟨rfl, rfl, rfl⟩]
      exact ⟨rfl, (fun q => absurd q (by omega)), p2, p3, (fun q => absurd q (by omega)), p5, p6⟩
    · rw [setK_j c, if_neg (fun q => c q.2.2)]
      exact ⟨p0, p1, p2, p3, p4, p5, p6⟩
  obtain ⟨S', r1, r2, r3, r4⟩ := rank_eq (hV.kindE hk) hB1
  refine ⟨S', ?_, ⟨fun F a j q => ?_, ?_⟩, ?_, r4⟩
  · unfold f_X0_changeKind
    rw [isOneB_eq hB.1 (by omega) (by omega), obind, if_b2i, if_pos (decide_eq_true hi), ixb_nI (show i < 6 by omega) (by omega), grd_t, cl_nI (by omega)]
    dsimp only
    rw [r1, obind]
  · rw [r2 F a j (by omega), put_at, if_neg (by omega)]
  · rw [r3]; rfl
  · exact ⟨by rw [r2 17 b 0 (by omega)]; exact hB1.1, fun j hj => (hB1.2 j hj).frame (fun F q1 q2 => r2 F b j (by omega))⟩
def KT (S S' : Stt) : Prop := (∀ F a i, ¬ (10 ≤ F ∧ F ≤ 18 ∧ a = 1) → ¬ (30 ≤ F ∧ F ≤ 33) → S'.1 F a i = S.1 F a i) ∧ S'.2 = S.2
theorem KT.tr {S S' S2 : Stt} (h : KT S S') (h2 : KT S' S2) : KT S S2 := ⟨fun F a i q1 q2 => (h2.1 F a i q1 q2).trans (h.1 F a i q1 q2), h2.2.trans h.2⟩
theorem KT.same {S S' : Stt} (h : KT S S') : Same S S' := ⟨fun F a i q => h.1 F a i (by omega) (by omega), h.2⟩
theorem KT.bc {S S' : Stt} {n : Nat} {Q : Nat → Nat → Nat} (h : KT S S') (hB : BC S 0 n Q) : BC S' 0 n Q := hB.frame (fun F i q1 q2 => h.1 F 0 i (by omega) (by omega))
theorem KT.rk {S S' : Stt} {n : Nat} {Q : Nat → Nat → Nat} (h : KT S S') (hB : RkC S 0 n Q) : RkC S' 0 n Q := hB.frame (fun F i q1 q2 => h.1 F 0 i (by omega) (by omega))
def bk1 (Q : Nat → Nat → Nat) (n i d m : Nat) (x : Int32) (k : Nat) : Int32 := if iso (setK Q i k) n n d m = x then (1 : Int32) <<< (nI k &&& 31) else 0
theorem bitIf_eq {S : Stt} {n i d m k : Nat} {Q : Nat → Nat → Nat} (hV : BkV n Q) (hB : BC S 0 n Q) (hDP : DP n Q) (hi : i < n) (hd : d ≤ 20) (hm : m < 32) (hk : k = 0 ∨ k = 1 ∨ k = 4) (x : Int32) : ∃ S', f_X7_bitIfKind (nI k) (nI i) (nI m) (nI d) x S = some (bk1 Q n i d m x k, S') ∧ KT S S' := by
  have hn := hV.1
  obtain ⟨S1, a1, a2, a3, a4⟩ := become_eq (S := S) (b0 := 1) (b1 := 0) (by omega) hn hB.1
  obtain ⟨S2, b1, b2, b3, b4⟩ := changeKind_eq hV (become_bc hB a3 a4) hi hk
  have hDD : DD n (setK Q i k) := fun a b ha hb e _ => hDP.2 a b ha hb e
  obtain ⟨S3, c1, c2, c3⟩ := hear_eq (hV.kindE hk) b3 b4 hDD hd
  have st := stateOf_eq (hV.kindE hk) c3 hm
  unfold bk1
  obtain ⟨v, hv⟩ : ∃ v, iso (setK Q i k) n n d m = v := ⟨_, rfl⟩
  rw [hv] at st
  rw [hv]
  refine ⟨S3, ?_, ⟨fun F a j q1 q2 => ?_, ?_⟩⟩
  · unfold f_X7_bitIfKind
    rw [a1, obind, b1, obind, c1, obind, st, obind]
    dsimp only
    by_cases c : v = x
    · rw [if_pos c, if_pos c]
    · rw [if_neg c, if_neg c]
  · rw [c2.1 F a j q2, b2.1 F a j q1, a2.1 F a j q1]
  · rw [c2.2, b2.2, a2.2]
def KI (i : Nat) (M M' : Stt) : Prop := (∀ F a j, ¬ (F = 0 ∧ a = 22 ∧ j = 0) → ¬ (F = 7 ∧ a = 0 ∧ j = i) → M'.1 F a j = M.1 F a j) ∧ M'.2 = M.2
theorem KI.bm {M M' : Stt} {n i k : Nat} {Q : Nat → Nat → Nat} (h : KI i M M') (hB : BM M n Q) (hk : k = 0 ∨ k = 1 ∨ k = 4) : BM (put M' 7 0 i (nI k)) n (setK Q i k) := by
  refine ⟨by rw [put_at, if_neg (by omega), h.1 0 10 0 (by omega) (by omega)]; exact hB.1, fun j hj => ?_⟩
  obtain ⟨p0, p1, p2, p3, p4, p5⟩ := hB.2 j hj
  unfold PgM
  rw [setK_a (show (1 : Nat) ≠ 0 by omega), setK_a (show (2 : Nat) ≠ 0 by omega), setK_a (show (3 : Nat) ≠ 0 by omega), setK_a (show (4 : Nat) ≠ 0 by omega), setK_a (show (5 : Nat) ≠ 0 by omega), put_at, put_at, if_neg (show ¬ (10 = 7 ∧ 0 = 0 ∧ j = i) by omega), put_at, if_neg (show ¬ (8 = 7 ∧ 0 = 0 ∧ j = i) by omega), put_at, if_neg (show ¬ (9 = 7 ∧ 0 = 0 ∧ j = i) by omega), put_at, if_neg (show ¬ (11 = 7 ∧ 0 = 0 ∧ j = i) by omega), put_at, if_neg (show ¬ (12 = 7 ∧ 0 = 0 ∧ j = i) by omega), h.1 8 0 j (by omega) (by omega), h.1 9 0 j (by omega) (by omega), h.1 10 0 j (by omega) (by omega), h.1 11 0 j (by omega) (by omega), h.1 12 0 j (by omega) (by omega)]
  by_cases c : j = i
  · subst c
    rw [setK_i, if_pos ⟨rfl, rfl, rfl⟩]
    exact ⟨rfl, (fun q => absurd q (by omega)), p2, p3, (fun q => absurd q (by omega)), p5⟩
  · rw [setK_j c, if_neg (fun q => c q.2.2), h.1 7 0 j (by omega) (by omega)]
    exact ⟨p0, p1, p2, p3, p4, p5⟩
/-- the bit of a kind: 0, 1 and 4 alone -/
def bk2 (Q : Nat → Nat → Nat) (n i d m : Nat) (x : Int32) (k : Nat) : Int32 := if k = 0 ∨ k = 1 ∨ k = 4 then bk1 Q n i d m x k else 0
theorem kinds_step {M M' : Stt} {n i d m k : Nat} {Q : Nat → Nat → Nat} (hV : BkV n Q) (hB : BM M n Q) (hL : M.1 0 20 0 = -9) (hi : i < n) (hd : d ≤ 20) (hm : m < 32) (hk : k ≤ 4) (hI : KI i M M') (x4 x5 x6 : Int32) (kb : Int32 → Int32 → Int32 → Int32 → Int32 → Int32 → Int32 → Stt → Option (Int32 × Stt)) (ke : Int32 → Int32 → Int32 → Stt → Option (Int32 × Stt)) : ∃ M2, fb_X8_kinds_71 kb ke (nI i) (nI m) (nI d) x4 x5 x6 (nI k) M' = kb (nI i) (nI m) (nI d) x4 x5 (x6 ||| bk2 Q n i d m x4 k) (nI (k + 1)) M2 ∧ KI i M M2 := by
  have hn := hV.1
  unfold fb_X8_kinds_71
  rw [n9 4, nI_iflt (by omega) (by omega), if_neg (by omega), ixb_nI (show i < 6 by omega) (by omega), grd_t, cl_nI (by omega), n9 1, nI_if (by omega) (by omega), nI_if (by omega) (by omega)]
  show ∃ M2, (if nI k = nI 0 then _ else _) = _ ∧ _
  rw [nI_if (by omega) (by omega)]
  have hP : KI i M (put M' 7 0 i (nI k)) := ⟨fun F a j q1 q2 => by rw [put_at, if_neg q2, hI.1 F a j q1 q2], hI.2⟩
  by_cases ck : k = 0 ∨ k = 1 ∨ k = 4
  · have hB2 := hI.bm hB ck
    obtain ⟨M2, b1, b2⟩ := isOn_eq (hV.kindE ck) hB2 (show LoR (put M' 7 0 i (nI k)) n n from Or.inl ⟨by rw [put_at, if_neg (by omega), hI.1 0 20 0 (by omega) (by omega)]; exact hL, Nat.le_refl _⟩) hd hm
    have hI2 : KI i M M2 := ⟨fun F a j q1 q2 => by rw [b2.1 F a j q1, hP.1 F a j q1 q2], by rw [b2.2]; exact hP.2⟩
    refine ⟨M2, ?_, hI2⟩
    have e2 : bk2 Q n i d m x4 k = bk1 Q n i d m x4 k := if_pos ck
    have go : fj_X8_kinds_102_71 kb ke (nI i) (nI m) (nI d) x4 x5 x6 (nI k) (put M' 7 0 i (nI k)) = kb (nI i) (nI m) (nI d) x4 x5 (x6 ||| bk2 Q n i d m x4 k) (nI (k + 1)) M2 := by
      unfold fj_X8_kinds_102_71 fj_X8_kinds_107_71
      rw [e2]
      unfold bk1
      obtain ⟨v, hv⟩ : ∃ v, iso (setK Q i k) n n d m = v := ⟨_, rfl⟩
      rw [hv] at b1
      rw [hv, if_neg n10, b1, obind, nI_1]
      dsimp only
      by_cases c : v = x4
      · rw [if_pos c, if_pos c]
      · rw [if_neg c, if_neg c]
    rw [go]
    rcases ck with rfl | rfl | rfl <;> rfl
  · refine ⟨put M' 7 0 i (nI k), ?_, hP⟩
    have e2 : bk2 Q n i d m x4 k = 0 := if_neg ck
    rw [e2, if_neg (by omega), if_neg (by omega), if_neg (by omega)]
    unfold fj_X8_kinds_107_71
    rw [if_pos rfl, nI_1]
def bkS (Q : Nat → Nat → Nat) (n i d m : Nat) (x : Int32) : Nat → Int32
  | 0 => 0
  | k + 1 => bkS Q n i d m x k ||| bk2 Q n i d m x k
theorem kinds_loop {M : Stt} {n i d m : Nat} {Q : Nat → Nat → Nat} (hV : BkV n Q) (hB : BM M n Q) (hL : M.1 0 20 0 = -9) (hi : i < n) (hd : d ≤ 20) (hm : m < 32) (x4 x5 : Int32) (ke : Int32 → Int32 → Int32 → Stt → Option (Int32 × Stt)) : ∀ (k j fuel : Nat) (M' : Stt), j + k = 5 → k < fuel → KI i M M' → ∃ M2, fl_X8_kinds_71 ke fuel (nI i) (nI m) (nI d) x4 x5 (bkS Q n i d m x4 j) (nI j) M' = ke (nI i) x5 (bkS Q n i d m x4 5) M2 ∧ KI i M M2 := by
  intro k
  induction k with
  | zero =>
    intro j fuel M' h1 h2 hI
    obtain ⟨g, rfl⟩ : ∃ g, fuel = g + 1 := ⟨fuel - 1, by omega⟩
    refine ⟨M', ?_, hI⟩
    rw [fls_X8_kinds_71]
    unfold fb_X8_kinds_71
    rw [n9 4, nI_iflt (by omega) (by omega), if_pos (by omega), show j = 5 by omega]
  | succ k ih =>
    intro j fuel M' h1 h2 hI
    obtain ⟨g, rfl⟩ : ∃ g, fuel = g + 1 := ⟨fuel - 1, by omega⟩
    obtain ⟨M1, a1, a2⟩ := kinds_step hV hB hL hi hd hm (show j ≤ 4 by omega) hI x4 x5 (bkS Q n i d m x4 j) (fl_X8_kinds_71 ke g) ke
    obtain ⟨M2, b1, b2⟩ := ih (j + 1) g M1 (by omega) (by omega) a2
    refine ⟨M2, ?_, b2⟩
    rw [fls_X8_kinds_71, a1]
    exact b1
theorem sim_kinds (x1 x2 x3 x4 : Int32) : SimI (f_X7_kinds x1 x2 x3 x4) (f_X8_kinds x1 x2 x3 x4) := by
  intro S M h
  obtain ⟨n, Q, hV, hB, hR, hM, hDP, hL, hr⟩ := h.bk
  have hn := hV.1
  unfold f_X7_kinds f_X8_kinds
  rcases page2 x1 hn hB.1 hM.1 with ⟨a1, a2⟩ | ⟨i, hi, rfl, a1, a2⟩
  · exact ⟨-1, S, M, by rw [a1, obind, if_pos rfl], by rw [a2, obind, if_pos rfl], h⟩
  rw [a1, a2, obind, obind, if_neg n10, if_neg n10]
  rcases case2 x2 with ⟨c1, c2⟩ | ⟨m, hm, rfl, c1, c2⟩
  · exact ⟨-1, S, M, by rw [c1, obind, if_pos rfl], by rw [c2, obind, if_pos rfl], h⟩
  rw [c1, c2, obind, obind, if_neg n10, if_neg n10]
  rcases day2 x3 with ⟨d1, d2⟩ | ⟨d, hd, rfl, d1, d2⟩
  · exact ⟨-1, S, M, by rw [d1, obind, if_pos rfl], by rw [d2, obind, if_pos rfl], h⟩
  rw [d1, d2, obind, obind, if_neg n10, if_neg n10]
  rcases verd2 x4 with ⟨e1, e2⟩ | ⟨v, hv, rfl, e1, e2⟩
  · exact ⟨-1, S, M, by rw [e1, obind, if_pos rfl], by rw [in_no e2, obind, if_pos rfl], h⟩
  rw [e1, in_yes e2, obind, obind, if_neg n10, if_neg n10, ixb_nI (show i < 6 by omega) (by omega), grd_t, grd_t, cl_nI (by omega)]
  dsimp only
  obtain ⟨p0, -⟩ := hB.2 i hi
  obtain ⟨m0, -⟩ := hM.2 i hi
  have v0 := (hV.2 i hi).1
  rw [p0, m0]
  by_cases ck : Q 0 i = 0 ∨ Q 0 i = 1 ∨ Q 0 i = 4
  · obtain ⟨S1, s1, t1⟩ := bitIf_eq hV hB hDP hi hd hm (show (0 : Nat) = 0 ∨ (0 : Nat) = 1 ∨ (0 : Nat) = 4 by omega) (nI v)
    obtain ⟨S2, s2, t2⟩ := bitIf_eq hV (t1.bc hB) hDP hi hd hm (show (1 : Nat) = 0 ∨ (1 : Nat) = 1 ∨ (1 : Nat) = 4 by omega) (nI v)
    obtain ⟨S3, s3, t3⟩ := bitIf_eq hV (t2.bc (t1.bc hB)) hDP hi hd hm (show (4 : Nat) = 0 ∨ (4 : Nat) = 1 ∨ (4 : Nat) = 4 by omega) (nI v)
    have eC : fj_X7_kinds_72 (nI i) (nI m) (nI d) (nI v) S = some (bk1 Q n i d m (nI v) 0 ||| bk1 Q n i d m (nI v) 1 ||| bk1 Q n i d m (nI v) 4, S3) := by
      unfold fj_X7_kinds_72
      rw [n9 0, n9 1, n9 4, s1, obind]
      dsimp only
      rw [s2, obind]
      dsimp only
      rw [s3, obind]
    obtain ⟨M1, g1, g2⟩ := kinds_loop hV hM h.2.2.2.2.2.2 hi hd hm (nI v) (nI (Q 0 i)) (fun x1 x5 x6 S => grd (ixb x1 6) (some (x6, (put S 7 0 x1.toNatClampNeg x5)))) 5 0 300 M (by omega) (by omega) ⟨fun _ _ _ _ _ => rfl, rfl⟩
    have eM : fl_X8_kinds_71 (fun x1 x5 x6 S => grd (ixb x1 6) (some (x6, (put S 7 0 x1.toNatClampNeg x5)))) 300 (nI i) (nI m) (nI d) (nI v) (nI (Q 0 i)) (0 : Int32) (0 : Int32) M = some (bkS Q n i d m (nI v) 5, put M1 7 0 i (nI (Q 0 i))) := by
      refine g1.trans ?_
      rw [ixb_nI (show i < 6 by omega) (by omega), grd_t, cl_nI (by omega)]
    have eb : bkS Q n i d m (nI v) 5 = bk1 Q n i d m (nI v) 0 ||| bk1 Q n i d m (nI v) 1 ||| bk1 Q n i d m (nI v) 4 := by
      show ((((0 ||| bk1 Q n i d m (nI v) 0) ||| bk1 Q n i d m (nI v) 1) ||| 0) ||| 0) ||| bk1 Q n i d m (nI v) 4 = _
      simp
    refine ⟨bk1 Q n i d m (nI v) 0 ||| bk1 Q n i d m (nI v) 1 ||| bk1 Q n i d m (nI v) 4, S3, put M1 7 0 i (nI (Q 0 i)), ?_, ?_, h.same (t1.same.tr (t2.same.tr t3.same)) ⟨fun F a j q => ?_, ?_, ?_⟩⟩
    · rw [eC]
      rcases ck with q | q | q <;> rw [q] <;> rfl
    · rw [eM, eb]
      rcases ck with q | q | q <;> rw [q] <;> rfl
    · rw [put_at]
      by_cases c : F = 7 ∧ a = 0 ∧ j = i
      · rw [if_pos c]
        obtain ⟨rfl, rfl, rfl⟩ := c
        exact m0.symm
      · rw [if_neg c, g2.1 F a j (by omega) c]
    · rw [put_2, g2.2]
    · rw [put_2, g2.2]
  · obtain ⟨S', M', e1, e2, e3⟩ := h.refuse (k := 3) (by omega) (by omega)
    have n0 : ¬ nI (Q 0 i) = 0 := nI_ne0 (by omega) (by omega)
    have n1 : ¬ nI (Q 0 i) = 1 := fun q => ck (Or.inr (Or.inl ((nI_eq (b := 1) (by omega) (by omega)).mp q)))
    have n4 : ¬ nI (Q 0 i) = 4 := fun q => ck (Or.inr (Or.inr ((nI_eq (b := 4) (by omega) (by omega)).mp q)))
    refine ⟨-3, S', M', ?_, ?_, e3⟩
    · rw [if_neg n0, if_neg n1, if_neg n4, show f_X7_refuse 3 S = some (-3, S') from e1, obind]
    · rw [if_neg n0, if_neg n1, if_neg n4, show f_X8_meet 3 M = some (-3, M') from e2, obind]
