/-! what pages weigh, and their order by it -/
def bcF (x : Int32) : Int32 := ((f_J6_bitCount_0f7a4 x ((fun _ _ _ => 0), (fun _ => 0))).map Prod.fst).getD 0
theorem bitCount_eq (x : Int32) (S : Stt) : f_J6_bitCount_0f7a4 x S = some (bcF x, S) := rfl
theorem bc_128 : ∀ w, w < 128 → bcF (nI w) = nI (pcnt w) := by decide +kernel
theorem pck_le (w : Nat) : ∀ k, pck w k ≤ k := by
  intro k
  induction k with
  | zero => exact Nat.le_refl 0
  | succ k ih => rw [pck]; split <;> omega
theorem wt_le (Q : Nat → Nat → Nat) (i : Nat) : wt Q i ≤ 18 := by
  have := pck_le (Q 3 i) 8
  unfold wt pcnt
  split <;> omega
theorem weight_eq {S : Stt} {b i : Nat} {Q : Nat → Nat → Nat} (hC : PgC S b i Q) (hV : PgV Q i) : f_X3_weight b i S = some (nI (wt Q i), S) := by
  obtain ⟨p0, p1, p2, p3, p4, p5, p6⟩ := hC
  obtain ⟨v0, v1, v2, v3, v4, v5⟩ := hV
  unfold f_X3_weight
  rw [p3, bitCount_eq, obind, isOf1_eq p0 v0, obind, if_b2i, bc_128 _ v3]
  unfold wt
  by_cases c : Q 0 i = 1 ∨ Q 0 i = 4
  · rw [decide_eq_true c, if_pos rfl, if_pos c, n9 10, nI_add]
  · rw [decide_eq_false c, if_neg (by decide), if_neg c, n9 0, nI_add]
theorem sizeOf_loop (w : Nat) (M : Stt) : ∀ (k i fuel : Nat), i + k = 8 → k < fuel → fl_X8_sizeOf_4 (fun x1 S => some (x1, S)) fuel (nI w) (nI (pck w i)) (nI i) M = some (nI (pcnt w), M) := by
  intro k
  induction k with
  | zero =>
    intro i fuel h1 h2
    obtain ⟨g, rfl⟩ : ∃ g, fuel = g + 1 := ⟨fuel - 1, by omega⟩
    rw [fls_X8_sizeOf_4]
    unfold fb_X8_sizeOf_4
    rw [n9 8, nI_ifle (by omega) (by omega), if_pos (by omega), show i = 8 by omega]
    rfl
  | succ k ih =>
    intro i fuel h1 h2
    obtain ⟨g, rfl⟩ : ∃ g, fuel = g + 1 := ⟨fuel - 1, by omega⟩
    have ih2 := ih (i + 1) g (by omega) (by omega)
    rw [fls_X8_sizeOf_4]
    unfold fb_X8_sizeOf_4
    rw [n9 8, nI_ifle (by omega) (by omega), if_neg (by omega), shr1 _ (by omega), b_nI _ _ (by omega), nI_1]
    rw [pck] at ih2
    have e : nI (pck w i) + b2i (w.testBit i) = nI (pck w i + if w.testBit i = true then 1 else 0) := by
      cases w.testBit i
      · rw [show b2i false = nI 0 from rfl, nI_add]; rfl
      · rw [show b2i true = nI 1 from rfl, nI_add]; rfl
    rw [e]
    exact ih2
theorem sizeOf8_eq (w : Nat) (M : Stt) : f_X8_sizeOf (nI w) M = some (nI (pcnt w), M) := sizeOf_loop w M 8 0 300 (by omega) (by omega)
theorem isA1_eq {M : Stt} {i k : Nat} (hi : i < 6) (h : M.1 7 0 i = nI k) (hk : k ≤ 5) : f_X8_isA (nI i) 1 M = some (b2i (decide (k = 1 ∨ k = 4)), M) := by
  unfold f_X8_isA fj_X8_isA_25
  rw [ixb_nI hi (by omega), grd_t, grd_t, cl_nI (by omega), h, if_pos rfl, n9 4]
  show (if nI k = nI 1 then _ else (if nI k = nI 4 then _ else (if (1 : Int32) = 2 then _ else _))) = _
  rw [nI_if (by omega) (by omega), nI_if (by omega) (by omega), if_neg (show ¬ (1 : Int32) = 2 by decide)]
  by_cases c : k = 1
  · rw [if_pos c, decide_eq_true (Or.inl c)]; rfl
  · by_cases c2 : k = 4
    · rw [if_neg c, if_pos c2, decide_eq_true (Or.inr c2)]; rfl
    · rw [if_neg c, if_neg c2, decide_eq_false (by omega)]; rfl
theorem weightOf_eq {M : Stt} {i : Nat} {Q : Nat → Nat → Nat} (hi : i < 6) (hC : PgM M i Q) (hV : PgV Q i) : f_X8_weightOf (nI i) M = some (nI (wt Q i), M) := by
  obtain ⟨p0, p1, p2, p3, p4, p5⟩ := hC
  obtain ⟨v0, v1, v2, v3, v4, v5⟩ := hV
  unfold f_X8_weightOf
  rw [ixb_nI hi (by omega), grd_t, cl_nI (by omega), p3, sizeOf8_eq, obind, isA1_eq hi p0 v0, obind, if_b2i]
  unfold wt
  by_cases c : Q 0 i = 1 ∨ Q 0 i = 4
  · rw [decide_eq_true c, if_pos rfl, if_pos c, n9 10, nI_add]
  · rw [decide_eq_false c, if_neg (by decide), if_neg c, n9 0, nI_add]
/-- the first i pages are ranked in the first i places -/
def RkI (S : Stt) (b i : Nat) (Q : Nat → Nat → Nat) (ρ : Nat → Nat) : Prop := (∀ k, k < i → S.1 18 b k = nI (ρ k) ∧ ρ k < i) ∧ ∀ k k', k < k' → k' < i → Bef Q (ρ k) (ρ k')
theorem nIm1 {k : Nat} (h : 0 < k) : nI k - 1 = nI (k - 1) := by
  rw [n9 1, pk_sub (by omega)]
theorem nIm2 {k : Nat} (h : 0 < k) : nI k + (-1) = nI (k - 1) := sb_m1 h
/-- the inner loop: those that weigh less go one place on -/
theorem rank_in {b n i : Nat} {Q : Nat → Nat → Nat} (hV : BkV n Q) (hi : i < n) (ρ : Nat → Nat) (hρ : ∀ k, k < i → ρ k < i) (kk : Nat → Int32 → Int32 → Stt → Option Stt) : ∀ (k fuel : Nat) (S : Stt), k ≤ i → k < fuel → (∀ j, j < n → PgC S b j Q) → (∀ j, j < k → S.1 18 b j = nI (ρ j)) → (∀ j, k < j → j ≤ i → S.1 18 b j = nI (ρ (j - 1))) → (∀ j, k ≤ j → j < i → wt Q (ρ j) < wt Q i) →
    ∃ S' k0, fl_X0_rank_12 kk fuel b (nI i) (nI k) S = kk b (nI i) (nI k0) S' ∧ k0 ≤ i ∧ (∀ F a j, ¬ (F = 18 ∧ a = b) → S'.1 F a j = S.1 F a j) ∧ S'.2 = S.2 ∧ (∀ j, j < k0 → S'.1 18 b j = nI (ρ j)) ∧ (∀ j, k0 < j → j ≤ i → S'.1 18 b j = nI (ρ (j - 1))) ∧ (∀ j, k0 ≤ j → j < i → wt Q (ρ j) < wt Q i) ∧ (0 < k0 → wt Q i ≤ wt Q (ρ (k0 - 1))) := by
  have hn := hV.1
  intro k
  induction k with
  | zero =>
    intro fuel S h1 h2 h3 h4 h5 h6
    obtain ⟨g, rfl⟩ : ∃ g, fuel = g + 1 := ⟨fuel - 1, by omega⟩
    refine ⟨S, 0, ?_, by omega, fun _ _ _ _ => rfl, rfl, h4, h5, h6, fun q => absurd q (by omega)⟩
    rw [fls_X0_rank_12]
    unfold fb_X0_rank_12
    rw [if_pos (by decide)]
  | succ k ih =>
    intro fuel S h1 h2 h3 h4 h5 h6
    obtain ⟨g, rfl⟩ : ∃ g, fuel = g + 1 := ⟨fuel - 1, by omega⟩
    have hk : ρ k < i := hρ k (by omega)
    have e18 : S.1 18 b k = nI (ρ k) := h4 k (by omega)
    have w1 := wt_le Q (ρ k)
    have w2 := wt_le Q i
    have step : fl_X0_rank_12 kk (g + 1) b (nI i) (nI (k + 1)) S = if wt Q i ≤ wt Q (ρ k) then kk b (nI i) (nI (k + 1)) S else fl_X0_rank_12 kk g b (nI i) (nI k) (put S 18 b (k + 1) (nI (ρ k))) := by
      rw [fls_X0_rank_12]
      unfold fb_X0_rank_12
      rw [if_neg (nI_nle (by omega) (by omega)), nIm1 (by omega), nIm2 (by omega), Nat.add_sub_cancel, ixb_nI (show k < 6 by omega) (by omega), grd_t, cl_nI (show k < 2 ^ 31 by omega), e18, ixb_nI (show ρ k < 6 by omega) (by omega), grd_t, cl_nI (show ρ k < 2 ^ 31 by omega), weight_eq (h3 _ (by omega)) (hV.2 _ (by omega)), obind, ixb_nI (show i < 6 by omega) (by omega), grd_t, cl_nI (show i < 2 ^ 31 by omega), weight_eq (h3 _ hi) (hV.2 _ hi), obind]
      show (if nI (wt Q i) ≤ nI (wt Q (ρ k)) then kk b (nI i) (nI (k + 1)) S else grd true (grd (ixb (nI (k + 1)) 6) (fl_X0_rank_12 kk g b (nI i) (nI k) (put S 18 b (nI (k + 1)).toNatClampNeg (S.1 18 b k))))) = _
      rw [grd_t, ixb_nI (show k + 1 < 6 by omega) (by omega), grd_t, cl_nI (show k + 1 < 2 ^ 31 by omega), e18]
      exact nI_ifle (by omega) (by omega) _ _
    rw [step]
    by_cases c : wt Q i ≤ wt Q (ρ k)
    · rw [if_pos c]
      exact ⟨S, k + 1, rfl, h1, fun _ _ _ _ => rfl, rfl, h4, h5, h6, fun _ => c⟩
    · rw [if_neg c]
      obtain ⟨S', k0, e, a1, a2, a3, a4, a5, a6, a7⟩ := ih g (put S 18 b (k + 1) (nI (ρ k))) (by omega) (by omega) (fun j hj => (h3 j hj).frame (fun F q1 q2 => by
          rw [put_at, if_neg (by omega)])) (fun j hj => by rw [put_at, if_neg (by omega)]; exact h4 j (by omega)) (fun j q1 q2 => by
          rw [put_at]
          by_cases q : j = k + 1
          · subst q
            rw [if_pos ⟨rfl, rfl, rfl⟩]
            rfl
          · rw [if_neg (by omega)]
            exact h5 j (by omega) q2) (fun j q1 q2 => by
          by_cases q : j = k
          · subst q; omega
          · exact h6 j (by omega) q2)
      refine ⟨S', k0, e, a1, fun F a j q => ?_, a3, a4, a5, a6, a7⟩
      rw [a2 F a j q, put_at, if_neg (fun r => q ⟨r.1, r.2.1⟩)]
theorem Bef.le {Q : Nat → Nat → Nat} {i j : Nat} (h : Bef Q i j) : wt Q j ≤ wt Q i := by
  rcases h with h | h
  · omega
  · omega
theorem rank_out {b n : Nat} {Q : Nat → Nat → Nat} (hV : BkV n Q) : ∀ (k i fuel : Nat) (S : Stt) (ρ : Nat → Nat), i + k = n → k < fuel → BC S b n Q → RkI S b i Q ρ → ∃ S', fl_X0_rank_2 (fun S => some S) fuel b (nI i) S = some S' ∧ (∀ F a j, ¬ (F = 18 ∧ a = b) → S'.1 F a j = S.1 F a j) ∧ S'.2 = S.2 ∧ RkC S' b n Q := by
  have hn := hV.1
  intro k
  induction k with
  | zero =>
    intro i fuel S ρ h1 h2 hB hR
    obtain ⟨g, rfl⟩ : ∃ g, fuel = g + 1 := ⟨fuel - 1, by omega⟩
    have hi : i = n := by omega
    subst hi
    refine ⟨S, ?_, fun _ _ _ _ => rfl, rfl, ρ, hR⟩
    rw [fls_X0_rank_2]
    unfold fb_X0_rank_2
    rw [hB.1, if_pos (nI_le (Nat.le_refl _) (by omega))]
  | succ k ih =>
    intro i fuel S ρ h1 h2 hB hR
    obtain ⟨g, rfl⟩ : ∃ g, fuel = g + 1 := ⟨fuel - 1, by omega⟩
    obtain ⟨S', k0, e, a1, a2, a3, a4, a5, a6, a7⟩ := rank_in (b := b) hV (show i < n by omega) ρ (fun j hj => (hR.1 j hj).2) (fun b0 x1 x2 S => grd (ixb x2 6) ((fl_X0_rank_2 (fun S => some S) g) b0 (x1 + (1 : Int32)) (put S 18 b0 x2.toNatClampNeg x1))) i 300 S (Nat.le_refl _) (by omega) hB.2 (fun j hj => (hR.1 j hj).1) (fun j q1 q2 => absurd q1 (by omega)) (fun j q1 q2 => absurd q2 (by omega))
    have hB2 : BC (put S' 18 b k0 (nI i)) b n Q := by
      refine ⟨?_, fun j hj => (hB.2 j hj).frame (fun F q1 q2 => ?_)⟩
      · rw [put_at, if_neg (by omega), a2 17 b 0 (by omega)]; exact hB.1
      · rw [put_at, if_neg (by omega), a2 F b j (by omega)]
    have hR2 : RkI (put S' 18 b k0 (nI i)) b (i + 1) Q (fun j => if j < k0 then ρ j else if j = k0 then i else ρ (j - 1)) := by
      refine ⟨fun j hj => ?_, fun j j' q1 q2 => ?_⟩
      · dsimp only
        rw [put_at]
        by_cases c1 : j < k0
        · rw [if_pos c1, if_neg (by omega), a4 j c1]
          exact ⟨rfl, by have := (hR.1 j (by omega)).2; omega⟩
        · rw [if_neg c1]
          by_cases c2 : j = k0
          · rw [if_pos c2, if_pos ⟨rfl, rfl, c2⟩]
            exact ⟨rfl, by omega⟩
          · rw [if_neg c2, if_neg (fun q => c2 q.2.2), a5 j (by omega) (by omega)]
            exact ⟨rfl, by have := (hR.1 (j - 1) (by omega)).2; omega⟩
      · dsimp only
        by_cases c1 : j' < k0
        · rw [if_pos (show j < k0 by omega), if_pos c1]
          exact hR.2 j j' q1 (by omega)
        · rw [if_neg c1]
          by_cases c2 : j' = k0
          · rw [if_pos c2, if_pos (show j < k0 by omega)]
            have b1 := (hR.1 j (by omega)).2
            have b2 := a7 (by omega)
            have b3 : wt Q (ρ (k0 - 1)) ≤ wt Q (ρ j) := by
              by_cases q : j = k0 - 1
              · rw [q]; exact Nat.le_refl _
              · exact (hR.2 j (k0 - 1) (by omega) (by omega)).le
            by_cases q : wt Q i < wt Q (ρ j)
            · exact Or.inl q
            · exact Or.inr ⟨by omega, b1⟩
          · rw [if_neg c2]
            by_cases c3 : j < k0
            · rw [if_pos c3]
              exact hR.2 j (j' - 1) (by omega) (by omega)
            · rw [if_neg c3]
              by_cases c4 : j = k0
              · rw [if_pos c4]
                exact Or.inl (a6 (j' - 1) (by omega) (by omega))
              · rw [if_neg c4]
                exact hR.2 (j - 1) (j' - 1) (by omega) (by omega)
    obtain ⟨S2, e2, d1, d2, d3⟩ := ih (i + 1) g (put S' 18 b k0 (nI i)) _ (by omega) (by omega) hB2 hR2
    refine ⟨S2, ?_, fun F a j q => ?_, ?_, d3⟩
    · rw [fls_X0_rank_2]
      unfold fb_X0_rank_2
      rw [hB.1, nI_ifle (by omega) (by omega), if_neg (by omega), e, ixb_nI (show k0 < 6 by omega) (by omega), grd_t, cl_nI (by omega), nI_1]
      exact e2
    · rw [d1 F a j q, put_at, if_neg (fun r => q ⟨r.1, r.2.1⟩), a2 F a j q]
    · rw [d2]
      exact a3
theorem rank_eq {S : Stt} {b n : Nat} {Q : Nat → Nat → Nat} (hV : BkV n Q) (hB : BC S b n Q) : ∃ S', f_X0_rank b S = some S' ∧ (∀ F a j, ¬ (F = 18 ∧ a = b) → S'.1 F a j = S.1 F a j) ∧ S'.2 = S.2 ∧ RkC S' b n Q := by
  have hn := hV.1
  exact rank_out hV n 0 300 S (fun _ => 0) (by omega) (by omega) hB ⟨fun k hk => absurd hk (by omega), fun k k' q1 q2 => absurd q2 (by omega)⟩
