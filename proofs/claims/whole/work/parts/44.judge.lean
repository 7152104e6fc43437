/-! which page judges a case -/
def fitW (w m f5 f6 : Nat) : Bool := fitP w m && (!(w.testBit 5) || m.testBit f5) && (!(w.testBit 6) || m.testBit f6)
theorem casesThatFit_eq {S : Stt} {b i : Nat} {Q : Nat → Nat → Nat} (hC : PgC S b i Q) (hV : PgV Q i) {f5 f6 : Nat} (h5 : f5 < 5) (h6 : f6 < 5) : ∃ x, f_X3_casesThatFit b i (nI f5) (nI f6) S = some (x, S) ∧ ∀ m, m < 32 → bt x m = (decide (Q 0 i ≠ 3) && fitW (Q 3 i) m f5 f6) := by
  obtain ⟨p0, p1, p2, p3, p4, p5, p6⟩ := hC
  obtain ⟨v0, v1, v2, v3, v4, v5⟩ := hV
  unfold f_X3_casesThatFit
  rw [p0, n9 3, nI_if (by omega) (by omega)]
  by_cases c : Q 0 i = 3
  · rw [if_pos c]
    refine ⟨0, rfl, fun m hm => ?_⟩
    rw [b_0, decide_eq_false (by omega), Bool.false_and]
  · rw [if_neg c, p3, n9 5, hasBit_eq _ (by omega), obind, if_b2i, b_nI _ _ (by omega), ixb_nI h5 (by omega), grd_t, cl_nI (by omega)]
    have key : ∀ (x : Int32) (q : Bool), (∀ m, m < 32 → bt x m = (fitP (Q 3 i) m && (!((Q 3 i).testBit 5) || m.testBit f5))) → ∃ y, fj_X3_casesThatFit_34 b i (nI f6) x S = some (y, S) ∧ ∀ m, m < 32 → bt y m = (decide (Q 0 i ≠ 3) && fitW (Q 3 i) m f5 f6) := by
      intro x _ hx
      unfold fj_X3_casesThatFit_34
      rw [p3, n9 6, hasBit_eq _ (by omega), obind, if_b2i, b_nI _ _ (by omega), ixb_nI h6 (by omega), grd_t, cl_nI (by omega)]
      by_cases c6 : (Q 3 i).testBit 6 = true
      · rw [if_pos c6]
        refine ⟨_, rfl, fun m hm => ?_⟩
        rw [b_and, hx m hm, b_litC f6 h6 m hm, decide_eq_true c, Bool.true_and]
        unfold fitW
        rw [c6]
        simp
      · rw [if_neg c6]
        refine ⟨_, rfl, fun m hm => ?_⟩
        rw [hx m hm, decide_eq_true c, Bool.true_and]
        unfold fitW
        rw [show (Q 3 i).testBit 6 = false by cases h : (Q 3 i).testBit 6 <;> simp_all]
        simp
    by_cases c5 : (Q 3 i).testBit 5 = true
    · rw [if_pos c5]
      refine key _ true (fun m hm => ?_)
      rw [b_and, p6 m hm, b_litC f5 h5 m hm, c5]
      simp
    · rw [if_neg c5]
      refine key _ true (fun m hm => ?_)
      rw [p6 m hm, show (Q 3 i).testBit 5 = false by cases h : (Q 3 i).testBit 5 <;> simp_all]
      simp
/-- page i binds, is no definition, and all its words are so in case m -/
def fitB (Q : Nat → Nat → Nat) (n lo d f5 f6 m i : Nat) : Bool := bnd Q n lo d i && (decide (Q 0 i ≠ 3) && fitW (Q 3 i) m f5 f6)
/-- the page that judges: of those that fit the one that weighs most, of alike ones the first; 99: none -/
def jd (Q : Nat → Nat → Nat) (n lo d f5 f6 m : Nat) : Nat → Nat
  | 0 => 99
  | k + 1 => if fitB Q n lo d f5 f6 m k = true then (if jd Q n lo d f5 f6 m k = 99 ∨ wt Q (jd Q n lo d f5 f6 m k) < wt Q k then k else jd Q n lo d f5 f6 m k) else jd Q n lo d f5 f6 m k
def gv (Q : Nat → Nat → Nat) (n lo d f5 f6 m : Nat) : Nat := if jd Q n lo d f5 f6 m n = 99 then 0 else Q 2 (jd Q n lo d f5 f6 m n)
theorem jd_spec (Q : Nat → Nat → Nat) (n lo d f5 f6 m : Nat) : ∀ k, k ≤ 6 → (jd Q n lo d f5 f6 m k = 99 ∧ ∀ i, i < k → fitB Q n lo d f5 f6 m i = false) ∨ (jd Q n lo d f5 f6 m k < k ∧ fitB Q n lo d f5 f6 m (jd Q n lo d f5 f6 m k) = true ∧ ∀ i, i < k → fitB Q n lo d f5 f6 m i = true → i = jd Q n lo d f5 f6 m k ∨ Bef Q (jd Q n lo d f5 f6 m k) i) := by
  intro k
  induction k with
  | zero => intro _; exact Or.inl ⟨rfl, fun i hi => absurd hi (by omega)⟩
  | succ k ih =>
    intro hk
    have ih := ih (by omega)
    rw [jd]
    by_cases c : fitB Q n lo d f5 f6 m k = true
    · rw [if_pos c]
      rcases ih with ⟨q1, q2⟩ | ⟨q1, q2, q3⟩
      · rw [if_pos (Or.inl q1)]
        refine Or.inr ⟨by omega, c, fun i hi hf => ?_⟩
        by_cases e : i = k
        · exact Or.inl e
        · have := q2 i (by omega)
          rw [this] at hf
          cases hf
      · by_cases c2 : wt Q (jd Q n lo d f5 f6 m k) < wt Q k
        · rw [if_pos (Or.inr c2)]
          refine Or.inr ⟨by omega, c, fun i hi hf => ?_⟩
          by_cases e : i = k
          · exact Or.inl e
          · rcases q3 i (by omega) hf with h | h
            · exact Or.inr (Or.inl (by rw [h]; exact c2))
            · have := h.le
              exact Or.inr (Or.inl (by omega))
        · rw [if_neg (by omega)]
          refine Or.inr ⟨by omega, q2, fun i hi hf => ?_⟩
          by_cases e : i = k
          · subst e
            right
            by_cases e2 : wt Q i < wt Q (jd Q n lo d f5 f6 m i)
            · exact Or.inl e2
            · exact Or.inr ⟨by omega, q1⟩
          · exact q3 i (by omega) hf
    · rw [if_neg c]
      rcases ih with ⟨q1, q2⟩ | ⟨q1, q2, q3⟩
      · refine Or.inl ⟨q1, fun i hi => ?_⟩
        by_cases e : i = k
        · subst e; cases h : fitB Q n lo d f5 f6 m i <;> simp_all
        · exact q2 i (by omega)
      · refine Or.inr ⟨by omega, q2, fun i hi hf => ?_⟩
        by_cases e : i = k
        · subst e; exact absurd hf c
        · exact q3 i (by omega) hf
/-- the first that fits, by rank -/
def ffr (Q : Nat → Nat → Nat) (n lo d f5 f6 m : Nat) (ρ : Nat → Nat) : Nat → Nat
  | 0 => 99
  | k + 1 => if ffr Q n lo d f5 f6 m ρ k = 99 ∧ fitB Q n lo d f5 f6 m (ρ k) = true then ρ k else ffr Q n lo d f5 f6 m ρ k
theorem ffr_spec (Q : Nat → Nat → Nat) (n lo d f5 f6 m : Nat) (ρ : Nat → Nat) (hρ : ∀ k, k < n → ρ k < n) (hn : n ≤ 6) : ∀ k, k ≤ n → (ffr Q n lo d f5 f6 m ρ k = 99 ∧ ∀ j, j < k → fitB Q n lo d f5 f6 m (ρ j) = false) ∨ ∃ j, j < k ∧ ffr Q n lo d f5 f6 m ρ k = ρ j ∧ fitB Q n lo d f5 f6 m (ρ j) = true ∧ ∀ j', j' < j → fitB Q n lo d f5 f6 m (ρ j') = false := by
  intro k
  induction k with
  | zero => intro _; exact Or.inl ⟨rfl, fun i hi => absurd hi (by omega)⟩
  | succ k ih =>
    intro hk
    rw [ffr]
    rcases ih (by omega) with ⟨q1, q2⟩ | ⟨j, q1, q2, q3, q4⟩
    · by_cases c : fitB Q n lo d f5 f6 m (ρ k) = true
      · rw [if_pos ⟨q1, c⟩]
        exact Or.inr ⟨k, by omega, rfl, c, q2⟩
      · rw [if_neg (fun q => c q.2)]
        refine Or.inl ⟨q1, fun j hj => ?_⟩
        by_cases e : j = k
        · subst e; cases h : fitB Q n lo d f5 f6 m (ρ j) <;> simp_all
        · exact q2 j (by omega)
    · have := hρ j (by omega)
      rw [if_neg (by omega)]
      exact Or.inr ⟨j, by omega, q2, q3, q4⟩
theorem ffr_jd (Q : Nat → Nat → Nat) (n lo d f5 f6 m : Nat) (ρ : Nat → Nat) (hn : n ≤ 6) (h1 : ∀ k, k < n → ρ k < n) (h2 : ∀ k k', k < k' → k' < n → Bef Q (ρ k) (ρ k')) : ffr Q n lo d f5 f6 m ρ n = jd Q n lo d f5 f6 m n := by
  have inj : ∀ i j, i < j → j < n → ρ i ≠ ρ j := fun i j q1 q2 e => by
    have := h2 i j q1 q2
    rw [e] at this
    rcases this with h | h <;> omega
  rcases jd_spec Q n lo d f5 f6 m n hn with ⟨a1, a2⟩ | ⟨a1, a2, a3⟩
  · rcases ffr_spec Q n lo d f5 f6 m ρ h1 hn n (Nat.le_refl _) with ⟨b1, b2⟩ | ⟨j, b1, b2, b3, b4⟩
    · rw [a1, b1]
    · have := a2 (ρ j) (h1 j b1)
      rw [this] at b3
      cases b3
  · obtain ⟨k, hk, ek⟩ := fb_onto h1 inj a1
    rcases ffr_spec Q n lo d f5 f6 m ρ h1 hn n (Nat.le_refl _) with ⟨b1, b2⟩ | ⟨j, b1, b2, b3, b4⟩
    · have := b2 k hk
      rw [ek, a2] at this
      cases this
    · rw [b2]
      rcases a3 (ρ j) (h1 j b1) b3 with h | h
      · exact h
      · exfalso
        rcases Nat.lt_trichotomy j k with q | q | q
        · have := h2 j k q hk
          rw [ek] at this
          unfold Bef at h this
          omega
        · subst q
          rw [ek] at h
          unfold Bef at h
          omega
        · have := b4 k q
          rw [ek, a2] at this
          cases this
/-- all cases at once -/
theorem casesOne_loop {S : Stt} {b n : Nat} {Q : Nat → Nat → Nat} (hV : BkV n Q) (hB : BC S b n Q) {ρ : Nat → Nat} (hρ : ∀ k, k < n → S.1 18 b k = nI (ρ k) ∧ ρ k < n) {d f5 f6 : Nat} (h5 : f5 < 5) (h6 : f6 < 5) : ∀ (k i fuel : Nat) (x4 x5 : Int32), i + k = n → k < fuel → (∀ m, m < 32 → bt x4 m = decide (ffr Q n n d f5 f6 m ρ i ≠ 99 ∧ Q 2 (ffr Q n n d f5 f6 m ρ i) = 1)) → (∀ m, m < 32 → bt x5 m = decide (ffr Q n n d f5 f6 m ρ i = 99)) →
    ∃ x, fl_X0_casesOne_9 (fun x4 S => some (x4, S)) fuel b (bits (bnd Q n n d) n) (nI f5) (nI f6) x4 x5 (nI i) S = some (x, S) ∧ ∀ m, m < 32 → bt x m = decide (ffr Q n n d f5 f6 m ρ n ≠ 99 ∧ Q 2 (ffr Q n n d f5 f6 m ρ n) = 1) := by
  have hn := hV.1
  intro k
  induction k with
  | zero =>
    intro i fuel x4 x5 h1 h2 h3 h4
    obtain ⟨g, rfl⟩ : ∃ g, fuel = g + 1 := ⟨fuel - 1, by omega⟩
    have hi : i = n := by omega
    subst hi
    refine ⟨x4, ?_, h3⟩
    rw [fls_X0_casesOne_9]
    unfold fb_X0_casesOne_9
    rw [hB.1, if_pos (nI_le (Nat.le_refl _) (by omega))]
  | succ k ih =>
    intro i fuel x4 x5 h1 h2 h3 h4
    obtain ⟨g, rfl⟩ : ∃ g, fuel = g + 1 := ⟨fuel - 1, by omega⟩
    obtain ⟨r1, r2⟩ := hρ i (by omega)
    rw [fls_X0_casesOne_9]
    unfold fb_X0_casesOne_9
    rw [hB.1, nI_ifle (by omega) (by omega), if_neg (by omega), ixb_nI (show i < 6 by omega) (by omega), grd_t, cl_nI (show i < 2 ^ 31 by omega), r1, hasBit_eq _ (by omega), obind, if_b2i, b_bits _ n (ρ i) (by omega) (by omega), decide_eq_true r2, Bool.true_and, nI_1]
    by_cases c1 : bnd Q n n d (ρ i) = true
    · rw [if_pos c1]
      obtain ⟨p0, p1, p2, p3, p4, p5, p6⟩ := hB.2 (ρ i) r2
      have v2 := (hV.2 (ρ i) r2).2.2.1
      obtain ⟨y, ey, hy⟩ := casesThatFit_eq (hB.2 (ρ i) r2) (hV.2 (ρ i) r2) h5 h6
      show ∃ x, grd (ixb (S.1 18 b i) 6) (Option.bind (f_X3_casesThatFit b (S.1 18 b i).toNatClampNeg (nI f5) (nI f6) S) (fun q8 => if q8.2.1 12 b (S.1 18 b i).toNatClampNeg = 1 then _ else _)) = some (x, S) ∧ _
      rw [r1, ixb_nI (show ρ i < 6 by omega) (by omega), grd_t, cl_nI (show ρ i < 2 ^ 31 by omega), ey, obind]
      show ∃ x, (if S.1 12 b (ρ i) = 1 then _ else _) = some (x, S) ∧ _
      rw [p2]
      have fit : ∀ m, m < 32 → bt (y &&& x5) m = decide (ffr Q n n d f5 f6 m ρ i = 99 ∧ fitB Q n n d f5 f6 m (ρ i) = true) := by
        intro m hm
        rw [b_and, hy m hm, h4 m hm]
        unfold fitB
        rw [c1, Bool.true_and]
        cases (decide (Q 0 (ρ i) ≠ 3) && fitW (Q 3 (ρ i)) m f5 f6) <;> by_cases e : ffr Q n n d f5 f6 m ρ i = 99 <;> simp [e]
      have hop : ∀ m, m < 32 → bt (x5 &&& ((y &&& x5) ^^^ (-1))) m = decide (ffr Q n n d f5 f6 m ρ (i + 1) = 99) := by
        intro m hm
        rw [b_and, b_not _ hm, fit m hm, h4 m hm, ffr]
        by_cases e : ffr Q n n d f5 f6 m ρ i = 99
        · by_cases e2 : fitB Q n n d f5 f6 m (ρ i) = true
          · rw [if_pos ⟨e, e2⟩, decide_eq_true e, decide_eq_true (And.intro e e2), decide_eq_false (show ¬ ρ i = 99 by omega)]; rfl
          · rw [if_neg (fun q => e2 q.2), decide_eq_true e, decide_eq_false (fun q => e2 q.2)]; rfl
        · rw [if_neg (fun q => e q.1), decide_eq_false e, decide_eq_false (fun q => e q.1)]; rfl
      have hon : ∀ (x : Int32), (Q 2 (ρ i) = 1 → ∀ m, m < 32 → bt x m = (bt x4 m || bt (y &&& x5) m)) → (¬ Q 2 (ρ i) = 1 → x = x4) → ∀ m, m < 32 → bt x m = decide (ffr Q n n d f5 f6 m ρ (i + 1) ≠ 99 ∧ Q 2 (ffr Q n n d f5 f6 m ρ (i + 1)) = 1) := by
        intro x hx1 hx2 m hm
        rw [ffr]
        by_cases e : ffr Q n n d f5 f6 m ρ i = 99 ∧ fitB Q n n d f5 f6 m (ρ i) = true
        · rw [if_pos e]
          by_cases e3 : Q 2 (ρ i) = 1
          · rw [hx1 e3 m hm, fit m hm, decide_eq_true e, Bool.or_true, decide_eq_true (show ρ i ≠ 99 ∧ Q 2 (ρ i) = 1 from ⟨by omega, e3⟩)]
          · rw [hx2 e3, h3 m hm, decide_eq_false (fun q => q.1 e.1), decide_eq_false (fun q => e3 q.2)]
        · rw [if_neg e]
          by_cases e3 : Q 2 (ρ i) = 1
          · rw [hx1 e3 m hm, fit m hm, decide_eq_false e, Bool.or_false, h3 m hm]
          · rw [hx2 e3, h3 m hm]
      by_cases e3 : Q 2 (ρ i) = 1
      · rw [n9 1, nI_if (by omega) (by omega), if_pos e3]
        unfold fj_X0_casesOne_77_9
        rw [nI_1]
        exact ih (i + 1) g _ _ (by omega) (by omega) (hon _ (fun _ m hm => b_or _ _ _) (fun q => absurd e3 q)) hop
      · rw [n9 1, nI_if (by omega) (by omega), if_neg e3]
        unfold fj_X0_casesOne_77_9
        rw [nI_1]
        exact ih (i + 1) g _ _ (by omega) (by omega) (hon _ (fun q => absurd q e3) (fun _ => rfl)) hop
    · rw [if_neg c1]
      have e : ∀ m, ffr Q n n d f5 f6 m ρ (i + 1) = ffr Q n n d f5 f6 m ρ i := by
        intro m
        rw [ffr, if_neg]
        rintro ⟨-, q⟩
        unfold fitB at q
        rw [show bnd Q n n d (ρ i) = false by cases h : bnd Q n n d (ρ i) <;> simp_all] at q
        cases q
      refine ih (i + 1) g x4 x5 (by omega) (by omega) (fun m hm => ?_) (fun m hm => ?_)
      · rw [e]; exact h3 m hm
      · rw [e]; exact h4 m hm
theorem casesOne_eq {S : Stt} {b n : Nat} {Q : Nat → Nat → Nat} (hV : BkV n Q) (hB : BC S b n Q) (hR : RkC S b n Q) {d f5 f6 : Nat} (h5 : f5 < 5) (h6 : f6 < 5) : ∃ x, f_X0_casesOne b (bits (bnd Q n n d) n) (nI f5) (nI f6) S = some (x, S) ∧ ∀ m, m < 32 → bt x m = decide (gv Q n n d f5 f6 m = 1) := by
  have hn := hV.1
  obtain ⟨ρ, r1, r2⟩ := hR
  obtain ⟨x, e, hx⟩ := casesOne_loop hV hB r1 (d := d) h5 h6 n 0 300 0 (-1) (by omega) (by omega) (fun m hm => by rw [b_0]; rfl) (fun m hm => by rw [b_m1 m hm]; rfl)
  refine ⟨x, e, fun m hm => ?_⟩
  rw [hx m hm, ffr_jd Q n n d f5 f6 m ρ hn (fun k hk => (r1 k hk).2) r2]
  unfold gv
  by_cases c : jd Q n n d f5 f6 m n = 99
  · rw [if_pos c, decide_eq_false (fun q => q.1 c)]; rfl
  · rw [if_neg c]
    by_cases c2 : Q 2 (jd Q n n d f5 f6 m n) = 1
    · rw [decide_eq_true (show _ ∧ _ from ⟨c, c2⟩), decide_eq_true c2]
    · rw [decide_eq_false (fun q => c2 q.2), decide_eq_false c2]
