/-! the reference's judgements -/
theorem fa_or (a b : Nat) : nI a ||| nI b = nI (a ||| b) := by
  apply Int32.toBitVec_inj.1
  show BitVec.ofNat 32 a ||| BitVec.ofNat 32 b = BitVec.ofNat 32 (a ||| b)
  apply BitVec.eq_of_getLsbD_eq
  intro i hi
  simp [hi]
def so (m f5 f6 : Nat) : Nat := (m ||| (if m.testBit f5 = true then 32 else 0)) ||| (if m.testBit f6 = true then 64 else 0)
theorem t32 : ∀ i, i < 7 → (32 : Nat).testBit i = decide (i = 5) := by decide
theorem t64 : ∀ i, i < 7 → (64 : Nat).testBit i = decide (i = 6) := by decide
theorem so_bit {m f5 f6 i : Nat} (hm : m < 32) (hi : i < 7) : (so m f5 f6).testBit i = if i = 5 then m.testBit f5 else if i = 6 then m.testBit f6 else m.testBit i := by
  have h5 : ∀ j, 5 ≤ j → m.testBit j = false := fun j hj => Nat.testBit_lt_two_pow (Nat.lt_of_lt_of_le (show m < 2 ^ 5 from hm) (Nat.pow_le_pow_right (by omega) hj))
  unfold so
  rw [Nat.testBit_or, Nat.testBit_or]
  have e1 : (if m.testBit f5 = true then 32 else 0 : Nat).testBit i = (m.testBit f5 && decide (i = 5)) := by
    cases m.testBit f5
    · rw [if_neg (by decide), Nat.zero_testBit, Bool.false_and]
    · rw [if_pos rfl, t32 i hi, Bool.true_and]
  have e2 : (if m.testBit f6 = true then 64 else 0 : Nat).testBit i = (m.testBit f6 && decide (i = 6)) := by
    cases m.testBit f6
    · rw [if_neg (by decide), Nat.zero_testBit, Bool.false_and]
    · rw [if_pos rfl, t64 i hi, Bool.true_and]
  rw [e1, e2]
  by_cases c5 : i = 5
  · subst c5
    rw [h5 5 (by omega)]
    simp
  · by_cases c6 : i = 6
    · subst c6
      rw [h5 6 (by omega)]
      simp
    · simp [c5, c6]
theorem soOf_eq {m f5 f6 : Nat} (h5 : f5 < 5) (h6 : f6 < 5) (M : Stt) : f_X8_soOf (nI m) (nI f5) (nI f6) M = some (nI (so m f5 f6), M) := by
  unfold f_X8_soOf
  rw [has_eq _ (by omega), obind, if_b2i, b_nI _ _ (by omega)]
  have key : ∀ c : Nat, fj_X8_soOf_15 (nI m) (nI f6) (nI m) (nI c) M = some (nI ((m ||| c) ||| (if m.testBit f6 = true then 64 else 0)), M) := by
    intro c
    unfold fj_X8_soOf_15
    rw [has_eq _ (by omega), obind, if_b2i, b_nI _ _ (by omega), fa_or]
    by_cases e : m.testBit f6 = true
    · rw [if_pos e, if_pos e, n9 64, fa_or]
    · rw [if_neg e, if_neg e, n9 0, fa_or]
  unfold so
  by_cases e : m.testBit f5 = true
  · rw [if_pos e, if_pos e]; exact key 32
  · rw [if_neg e, if_neg e]; exact key 0
theorem fitW_iff {w m f5 f6 : Nat} (hm : m < 32) : fitW w m f5 f6 = true ↔ ∀ i, i < 7 → w.testBit i = true → (so m f5 f6).testBit i = true := by
  have hP : fitP w m = ((!(w.testBit 0) || m.testBit 0) && ((!(w.testBit 1) || m.testBit 1) && ((!(w.testBit 2) || m.testBit 2) && ((!(w.testBit 3) || m.testBit 3) && ((!(w.testBit 4) || m.testBit 4) && true))))) := rfl
  unfold fitW
  rw [hP]
  constructor
  · intro h i hi hw
    rw [so_bit hm hi]
    simp only [Bool.and_eq_true, Bool.or_eq_true, Bool.not_eq_true'] at h
    obtain ⟨⟨⟨a0, a1, a2, a3, a4, -⟩, a5⟩, a6⟩ := h
    rcases (show i = 0 ∨ i = 1 ∨ i = 2 ∨ i = 3 ∨ i = 4 ∨ i = 5 ∨ i = 6 by omega) with rfl | rfl | rfl | rfl | rfl | rfl | rfl <;> simp_all
  · intro h
    have g : ∀ i, i < 7 → (!(w.testBit i) || (so m f5 f6).testBit i) = true := by
      intro i hi
      cases e : w.testBit i
      · rfl
      · rw [h i hi e]; rfl
    have s0 := g 0 (by omega); have s1 := g 1 (by omega); have s2 := g 2 (by omega); have s3 := g 3 (by omega); have s4 := g 4 (by omega); have s5 := g 5 (by omega); have s6 := g 6 (by omega)
    rw [so_bit hm (by omega)] at s0 s1 s2 s3 s4 s5 s6
    simp only [Bool.and_eq_true]
    exact ⟨⟨⟨s0, s1, s2, s3, s4, trivial⟩, s5⟩, s6⟩
theorem fit_and {w m f5 f6 : Nat} (hw : w < 128) (hm : m < 32) : (nI w &&& (nI (so m f5 f6) ^^^ (-1)) = 0) ↔ fitW w m f5 f6 = true := by
  rw [fitW_iff hm]
  have hbit : ∀ i, i < 32 → bt (nI w &&& (nI (so m f5 f6) ^^^ (-1))) i = (w.testBit i && !(so m f5 f6).testBit i) := fun i hi => by
    rw [b_and, b_nI _ _ hi, b_not _ hi, b_nI _ _ hi]
  constructor
  · intro h i hi hwi
    have := hbit i (by omega)
    rw [h, b_0, hwi, Bool.true_and] at this
    cases e : (so m f5 f6).testBit i
    · rw [e] at this; cases this
    · rfl
  · intro h
    apply b_ext
    intro i hi
    rw [hbit i hi, b_0]
    by_cases c : i < 7
    · cases e : w.testBit i
      · rfl
      · rw [h i c e]; rfl
    · rw [Nat.testBit_lt_two_pow (Nat.lt_of_lt_of_le (show w < 2 ^ 7 from hw) (Nat.pow_le_pow_right (by omega) (by omega)))]
      rfl
theorem judgeBy_loop {M : Stt} {n lo : Nat} {Q : Nat → Nat → Nat} (hV : BkV n Q) (hB : BM M n Q) {d f5 f6 m : Nat} (hm : m < 32) : ∀ (k i fuel : Nat) (x3 : Int32), i + k = n → k < fuel → ((jd Q n lo d f5 f6 m i = 99 ∧ x3 = -9) ∨ (jd Q n lo d f5 f6 m i < i ∧ x3 = nI (jd Q n lo d f5 f6 m i))) → fl_X8_judgeBy_6 (fun x3 S => some (x3, S)) fuel (nI (so m f5 f6)) (bits (bnd Q n lo d) n) x3 (nI i) M = some (if jd Q n lo d f5 f6 m n = 99 then -9 else nI (jd Q n lo d f5 f6 m n), M) := by
  have hn := hV.1
  intro k
  induction k with
  | zero =>
    intro i fuel x3 h1 h2 h3
    obtain ⟨g, rfl⟩ : ∃ g, fuel = g + 1 := ⟨fuel - 1, by omega⟩
    rw [fls_X8_judgeBy_6]
    unfold fb_X8_judgeBy_6
    rw [hB.1, nI_ifle (by omega) (by omega), if_pos (by omega)]
    have hi : i = n := by omega
    subst hi
    rcases h3 with ⟨q1, q2⟩ | ⟨q1, q2⟩
    · rw [if_pos q1, q2]
    · rw [if_neg (by omega), q2]
  | succ k ih =>
    intro i fuel x3 h1 h2 h3
    obtain ⟨g, rfl⟩ : ∃ g, fuel = g + 1 := ⟨fuel - 1, by omega⟩
    have hi : i < n := by omega
    obtain ⟨p0, p1, p2, p3, p4, p5⟩ := hB.2 i hi
    obtain ⟨v0, v1, v2, v3, v4, v5⟩ := hV.2 i hi
    rw [fls_X8_judgeBy_6]
    unfold fb_X8_judgeBy_6
    have stay : fitB Q n lo d f5 f6 m i = false → fj_X8_judgeBy_53_6 (fl_X8_judgeBy_6 (fun x3 S => some (x3, S)) g) (fun x3 S => some (x3, S)) (nI (so m f5 f6)) (bits (bnd Q n lo d) n) x3 (nI i) M = some (if jd Q n lo d f5 f6 m n = 99 then -9 else nI (jd Q n lo d f5 f6 m n), M) := by
      intro hq
      unfold fj_X8_judgeBy_53_6 fj_X8_judgeBy_54_6
      rw [if_pos rfl, nI_1]
      refine ih (i + 1) g x3 (by omega) (by omega) ?_
      have e : jd Q n lo d f5 f6 m (i + 1) = jd Q n lo d f5 f6 m i := by rw [jd, if_neg (by rw [hq]; decide)]
      rw [e]
      rcases h3 with h3 | ⟨q1, q2⟩
      · exact Or.inl h3
      · exact Or.inr ⟨by omega, q2⟩
    rw [hB.1, nI_ifle (by omega) (by omega), if_neg (by omega), has_eq _ (by omega), obind, if_b2i, b_bits _ n i (by omega) (by omega), decide_eq_true hi, Bool.true_and, ixb_nI (show i < 6 by omega) (by omega), grd_t, grd_t, cl_nI (by omega)]
    by_cases c1 : bnd Q n lo d i = true
    · rw [if_pos c1]
      show (if M.1 7 0 i = 3 then _ else (if M.1 9 0 i &&& (nI (so m f5 f6) ^^^ (-1)) = 0 then _ else _)) = _
      rw [p0, p3, n9 3, nI_if (by omega) (by omega)]
      by_cases c2 : Q 0 i = 3
      · rw [if_pos c2]
        exact stay (by unfold fitB; rw [decide_eq_false (by omega), Bool.false_and, Bool.and_false])
      · rw [if_neg c2]
        by_cases c3 : fitW (Q 3 i) m f5 f6 = true
        · rw [if_pos ((fit_and v3 hm).mpr c3)]
          have hq : fitB Q n lo d f5 f6 m i = true := by unfold fitB; rw [c1, c3, decide_eq_true c2]; rfl
          unfold fj_X8_judgeBy_54_6
          rw [if_neg n10, nI_1]
          rcases h3 with ⟨q1, q2⟩ | ⟨q1, q2⟩
          · rw [if_pos q2]
            refine ih (i + 1) g _ (by omega) (by omega) (Or.inr ?_)
            have e : jd Q n lo d f5 f6 m (i + 1) = i := by rw [jd, if_pos hq, if_pos (Or.inl q1)]
            rw [e]
            exact ⟨by omega, rfl⟩
          · have hj : jd Q n lo d f5 f6 m i < n := by omega
            have w1 := wt_le Q i
            have w2 := wt_le Q (jd Q n lo d f5 f6 m i)
            rw [if_neg (by rw [q2]; exact nI_ne_neg (by omega) neg9), weightOf_eq (show i < 6 by omega) (hB.2 i hi) (hV.2 i hi), obind, q2]
            show Option.bind (f_X8_weightOf (nI (jd Q n lo d f5 f6 m i)) M) _ = _
            rw [weightOf_eq (show _ < 6 by omega) (hB.2 _ hj) (hV.2 _ hj), obind]
            show (if nI (wt Q i) ≤ nI (wt Q (jd Q n lo d f5 f6 m i)) then _ else _) = _
            rw [nI_ifle (by omega) (by omega)]
            by_cases c4 : wt Q i ≤ wt Q (jd Q n lo d f5 f6 m i)
            · rw [if_pos c4]
              refine ih (i + 1) g _ (by omega) (by omega) (Or.inr ?_)
              have e : jd Q n lo d f5 f6 m (i + 1) = jd Q n lo d f5 f6 m i := by rw [jd, if_pos hq, if_neg (by omega)]
              rw [e]
              exact ⟨by omega, rfl⟩
            · rw [if_neg c4]
              refine ih (i + 1) g _ (by omega) (by omega) (Or.inr ?_)
              have e : jd Q n lo d f5 f6 m (i + 1) = i := by rw [jd, if_pos hq, if_pos (Or.inr (by omega))]
              rw [e]
              exact ⟨by omega, rfl⟩
        · rw [if_neg (fun q => c3 ((fit_and v3 hm).mp q))]
          exact stay (by unfold fitB; rw [show fitW (Q 3 i) m f5 f6 = false by cases h : fitW (Q 3 i) m f5 f6 <;> simp_all, Bool.and_false, Bool.and_false])
    · rw [if_neg c1]
      exact stay (by unfold fitB; rw [show bnd Q n lo d i = false by cases h : bnd Q n lo d i <;> simp_all, Bool.false_and])
theorem judgeBy_eq {M : Stt} {n lo : Nat} {Q : Nat → Nat → Nat} (hV : BkV n Q) (hB : BM M n Q) {d f5 f6 m : Nat} (hm : m < 32) : f_X8_judgeBy (nI (so m f5 f6)) (bits (bnd Q n lo d) n) M = some (if jd Q n lo d f5 f6 m n = 99 then -9 else nI (jd Q n lo d f5 f6 m n), M) := by
  have hn := hV.1
  exact judgeBy_loop hV hB hm n 0 300 (-9) (by omega) (by omega) (Or.inl ⟨rfl, rfl⟩)
theorem givenBy_eq {M : Stt} {n lo : Nat} {Q : Nat → Nat → Nat} (hV : BkV n Q) (hB : BM M n Q) {d f5 f6 m : Nat} (hm : m < 32) (h5 : f5 < 5) (h6 : f6 < 5) : f_X8_givenBy (nI m) (nI f5) (nI f6) (bits (bnd Q n lo d) n) M = some (nI (gv Q n lo d f5 f6 m), M) := by
  have hn := hV.1
  unfold f_X8_givenBy
  rw [soOf_eq h5 h6, obind, judgeBy_eq hV hB hm, obind]
  unfold gv
  rcases jd_spec Q n lo d f5 f6 m n hn with ⟨a1, a2⟩ | ⟨a1, a2, a3⟩
  · rw [if_pos a1, if_pos a1, if_pos rfl]; rfl
  · rw [if_neg (show ¬ jd Q n lo d f5 f6 m n = 99 by omega), if_neg (show ¬ jd Q n lo d f5 f6 m n = 99 by omega), if_neg (nI_ne_neg (by omega) neg9), ixb_nI (by omega) (by omega), grd_t, cl_nI (by omega), (hB.2 _ a1).2.2.1]
theorem gv_le {n lo : Nat} {Q : Nat → Nat → Nat} (hV : BkV n Q) (d f5 f6 m : Nat) : gv Q n lo d f5 f6 m ≤ 1 := by
  unfold gv
  rcases jd_spec Q n lo d f5 f6 m n hV.1 with ⟨a1, a2⟩ | ⟨a1, a2, a3⟩
  · rw [if_pos a1]; omega
  · rw [if_neg (by have := hV.1; omega)]
    exact (hV.2 _ a1).2.2.1
