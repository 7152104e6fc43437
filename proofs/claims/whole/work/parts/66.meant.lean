/-! meant -/
def Jg (v : Nat → Int32) (j : Nat) : Prop := (∃ m, m < 32 ∧ v (3 * j) = nI m) ∧ (∃ d, d ≤ 20 ∧ v (3 * j + 1) = nI d) ∧ ∃ y, y ≤ 1 ∧ v (3 * j + 2) = nI y
theorem not_nI {x : Int32} {k : Nat} (hk : k < 2 ^ 30) (h : ¬ (0 ≤ x ∧ x ≤ nI k)) {m : Nat} (hm : m ≤ k) : ¬ x = nI m := fun q => h (by rw [q]; exact ⟨nI_pos' (by omega), nI_le hm (by omega)⟩)
theorem case3 (x : Int32) : ((∀ S, f_X7_isCase x S = some (0, S)) ∧ (∀ M, f_X8_isCase x M = some (0, M)) ∧ ∀ m, m < 32 → ¬ x = nI m) ∨ ∃ d, d < 32 ∧ x = nI d ∧ (∀ S, f_X7_isCase x S = some (1, S)) ∧ (∀ M, f_X8_isCase x M = some (1, M)) := by
  rcases case2 x with ⟨a, b⟩ | h
  · refine Or.inl ⟨a, b, fun m hm q => ?_⟩
    subst q
    rcases ixle (nI m) (k := 31) (by omega) with ⟨z, -⟩ | ⟨d, hd, e, h1, h2, h3⟩
    · exact z ⟨nI_pos' (by omega), nI_le (by omega) (by omega)⟩
    · have := b ((fun _ _ _ => 0), (fun _ => 0))
      unfold f_X8_isCase at this
      rw [in_eq, obind, n9 31, if_pos h3] at this
      cases this
  · exact Or.inr h
theorem day3 (x : Int32) : ((∀ S, f_X7_isDay x S = some (0, S)) ∧ (∀ M, f_X8_isDay x M = some (0, M)) ∧ ∀ m, m ≤ 20 → ¬ x = nI m) ∨ ∃ d, d ≤ 20 ∧ x = nI d ∧ (∀ S, f_X7_isDay x S = some (1, S)) ∧ (∀ M, f_X8_isDay x M = some (1, M)) := by
  rcases day2 x with ⟨a, b⟩ | h
  · refine Or.inl ⟨a, b, fun m hm q => ?_⟩
    subst q
    rcases ixle (nI m) (k := 20) (by omega) with ⟨z, -⟩ | ⟨d, hd, e, h1, h2, h3⟩
    · exact z ⟨nI_pos' (by omega), nI_le (by omega) (by omega)⟩
    · have := b ((fun _ _ _ => 0), (fun _ => 0))
      unfold f_X8_isDay at this
      rw [in_eq, obind, n9 20, if_pos h3] at this
      cases this
  · exact Or.inr h
theorem tells_loopC {S : Stt} {r t : Nat} (hr : r < 6) (ht : 3 * t ≤ 40) (hs : S.1 19 0 r = nI (3 * t)) : ∀ (k i fuel : Nat), i + k = t → k < fuel → ∃ c : Bool, fl_X7_tellsJudgements_2 (fun S => some ((1 : Int32), S)) fuel (nI r) (nI (3 * i)) S = some (b2i c, S) ∧ (c = true ↔ ∀ j, i ≤ j → j < t → Jg (S.1 20 r) j) := by
  intro k
  induction k with
  | zero =>
    intro i fuel h1 h2
    obtain ⟨g, rfl⟩ : ∃ g, fuel = g + 1 := ⟨fuel - 1, by omega⟩
    refine ⟨true, ?_, fun _ j q1 q2 => absurd q2 (by omega), fun _ => rfl⟩
    rw [fls_X7_tellsJudgements_2]
    unfold fb_X7_tellsJudgements_2
    rw [sizeOf_eq (z := 0) hr, obind, hs]
    dsimp only
    rw [n9 2, nI_add, if_pos (nI_le (by omega) (by omega))]
    rfl
  | succ k ih =>
    intro i fuel h1 h2
    obtain ⟨g, rfl⟩ : ∃ g, fuel = g + 1 := ⟨fuel - 1, by omega⟩
    obtain ⟨c, a1, a2⟩ := ih (i + 1) g (by omega) (by omega)
    rw [fls_X7_tellsJudgements_2]
    unfold fb_X7_tellsJudgements_2
    rw [sizeOf_eq (z := 0) hr, obind, hs]
    dsimp only
    rw [n9 2, n9 1, n9 3, nI_add, nI_add, nI_add, if_neg (nI_ge (by omega) (by omega)), placeOf_eq (z := 0) hr (show 3 * i < 40 by omega), obind]
    dsimp only
    show ∃ c : Bool, ((f_X7_isCase (S.1 20 r (3 * i)) S).bind _) = _ ∧ _
    rcases case3 (S.1 20 r (3 * i)) with ⟨b1, -, b3⟩ | ⟨m, hm, em, b1, -⟩
    · refine ⟨false, by rw [b1, obind, if_pos rfl]; rfl, fun q => (by cases q), fun q => ?_⟩
      obtain ⟨⟨m, hm, e⟩, -⟩ := q i (Nat.le_refl _) (by omega)
      exact absurd e (b3 m hm)
    rw [b1, obind, if_neg n10]
    dsimp only
    rw [placeOf_eq (z := 0) hr (show 3 * i + 1 < 40 by omega), obind]
    dsimp only
    show ∃ c : Bool, ((f_X7_isDay (S.1 20 r (3 * i + 1)) S).bind _) = _ ∧ _
    rcases day3 (S.1 20 r (3 * i + 1)) with ⟨b1, -, b3⟩ | ⟨d, hd, ed, b1, -⟩
    · refine ⟨false, by rw [b1, obind, if_pos rfl]; rfl, fun q => (by cases q), fun q => ?_⟩
      obtain ⟨-, ⟨m, hm, e⟩, -⟩ := q i (Nat.le_refl _) (by omega)
      exact absurd e (b3 m hm)
    rw [b1, obind, if_neg n10]
    dsimp only
    rw [placeOf_eq (z := 0) hr (show 3 * i + 2 < 40 by omega), obind]
    dsimp only
    show ∃ c : Bool, ((f_X7_isVerdict (S.1 20 r (3 * i + 2)) S).bind _) = _ ∧ _
    rcases verd2 (S.1 20 r (3 * i + 2)) with ⟨b1, b3⟩ | ⟨y, hy, ey, b1, -⟩
    · refine ⟨false, by rw [b1, obind, if_pos rfl]; rfl, fun q => (by cases q), fun q => ?_⟩
      obtain ⟨-, -, m, hm, e⟩ := q i (Nat.le_refl _) (by omega)
      exact absurd e (not_nI (k := 1) (by omega) b3 hm)
    rw [b1, obind, if_neg n10]
    refine ⟨c, a1, a2.trans ⟨fun q j q1 q2 => ?_, fun q j q1 q2 => q j (by omega) q2⟩⟩
    by_cases cj : j = i
    · subst cj; exact ⟨⟨m, hm, em⟩, ⟨d, hd, ed⟩, y, hy, ey⟩
    · exact q j (by omega) q2
theorem tells_loopM {M : Stt} {r t : Nat} (hr : r < 6) (ht : 3 * t ≤ 40) (hs : M.1 2 0 r = nI (3 * t)) (ke : Int32 → Stt → Option (Int32 × Stt)) : ∀ (k i fuel : Nat), i + k = t → k < fuel → ∃ c : Bool, fl_X8_meant_31 ke fuel (nI r) (nI (3 * i)) M = (if c = true then ke (nI r) M else f_X8_meet 3 M) ∧ (c = true ↔ ∀ j, i ≤ j → j < t → Jg (fun k => M.1 3 0 (40 * r + k)) j) := by
  intro k
  induction k with
  | zero =>
    intro i fuel h1 h2
    obtain ⟨g, rfl⟩ : ∃ g, fuel = g + 1 := ⟨fuel - 1, by omega⟩
    refine ⟨true, ?_, fun _ j q1 q2 => absurd q2 (by omega), fun _ => rfl⟩
    rw [fls_X8_meant_31]
    unfold fb_X8_meant_31
    rw [ixb_nI hr (by omega), grd_t, cl_nI (by omega), hs, if_pos (nI_le (by omega) (by omega)), if_pos rfl]
  | succ k ih =>
    intro i fuel h1 h2
    obtain ⟨g, rfl⟩ : ∃ g, fuel = g + 1 := ⟨fuel - 1, by omega⟩
    obtain ⟨c, a1, a2⟩ := ih (i + 1) g (by omega) (by omega)
    rw [fls_X8_meant_31]
    unfold fb_X8_meant_31
    rw [ixb_nI hr (by omega), grd_t, cl_nI (by omega), hs, if_neg (nI_ge (by omega) (by omega)), rowAt_eq hr (by omega), obind]
    dsimp only
    rcases case3 (M.1 3 0 (40 * r + 3 * i)) with ⟨-, b1, b3⟩ | ⟨m, hm, em, -, b1⟩
    · refine ⟨false, by rw [b1, obind, if_pos rfl, bid, if_neg (by decide)], fun q => (by cases q), fun q => ?_⟩
      obtain ⟨⟨m, hm, e⟩, -⟩ := q i (Nat.le_refl _) (by omega)
      exact absurd e (b3 m hm)
    rw [b1, obind, if_neg n10]
    dsimp only
    rw [n9 1, nI_add, rowAt_eq hr (by omega), obind]
    dsimp only
    rcases day3 (M.1 3 0 (40 * r + (3 * i + 1))) with ⟨-, b1, b3⟩ | ⟨d, hd, ed, -, b1⟩
    · refine ⟨false, by rw [b1, obind, if_pos rfl, bid, if_neg (by decide)], fun q => (by cases q), fun q => ?_⟩
      obtain ⟨-, ⟨m, hm, e⟩, -⟩ := q i (Nat.le_refl _) (by omega)
      exact absurd e (b3 m hm)
    rw [b1, obind, if_neg n10]
    dsimp only
    rw [n9 2, nI_add, rowAt_eq hr (by omega), obind]
    dsimp only
    rcases verd2 (M.1 3 0 (40 * r + (3 * i + 2))) with ⟨-, b3⟩ | ⟨y, hy, ey, -, b1⟩
    · refine ⟨false, by rw [in_no (b := nI 1) b3, obind, if_pos rfl, bid, if_neg (by decide)], fun q => (by cases q), fun q => ?_⟩
      obtain ⟨-, -, m, hm, e⟩ := q i (Nat.le_refl _) (by omega)
      exact absurd e (not_nI (k := 1) (by omega) b3 hm)
    rw [in_yes (b := nI 1) b1, obind, if_neg n10]
    dsimp only
    rw [n9 3, nI_add]
    refine ⟨c, a1, a2.trans ⟨fun q j q1 q2 => ?_, fun q j q1 q2 => q j (by omega) q2⟩⟩
    by_cases cj : j = i
    · subst cj; exact ⟨⟨m, hm, em⟩, ⟨d, hd, ed⟩, y, hy, ey⟩
    · exact q j (by omega) q2
/-- a meaning goes with k judgements from the i-th on -/
def cmG (Q : Nat → Nat → Nat) (n f5 f6 : Nat) (ms' ds ys : Nat → Nat) : Nat → Nat → Bool
  | 0, _ => true
  | k + 1, i => decide (gv Q n n (ds i) f5 f6 (ms' i) = ys i) && cmG Q n f5 f6 ms' ds ys k (i + 1)
section
variable {n r t f5 f6 : Nat} {Q : Nat → Nat → Nat} {ms' ds ys : Nat → Nat}
theorem could_loop {S : Stt} (hV : BkV n Q) (hB : BC S 0 n Q) (hR : RkC S 0 n Q) (hr : r < 6) (ht : 3 * t ≤ 40) (hs : S.1 19 0 r = nI (3 * t)) (hj : ∀ j, j < t → S.1 20 r (3 * j) = nI (ms' j) ∧ ms' j < 32 ∧ S.1 20 r (3 * j + 1) = nI (ds j) ∧ ds j ≤ 20 ∧ S.1 20 r (3 * j + 2) = nI (ys j) ∧ ys j ≤ 1) (h5 : f5 < 5) (h6 : f6 < 5) : ∀ (k i fuel : Nat), i + k = t → k < fuel → fl_X7_couldMean_3 (fun S => some ((1 : Int32), S)) fuel (nI r) (nI f5) (nI f6) (nI (3 * i)) S = some (b2i (cmG Q n f5 f6 ms' ds ys k i), S) := by
  intro k
  induction k with
  | zero =>
    intro i fuel h1 h2
    obtain ⟨g, rfl⟩ : ∃ g, fuel = g + 1 := ⟨fuel - 1, by omega⟩
    rw [fls_X7_couldMean_3]
    unfold fb_X7_couldMean_3
    rw [sizeOf_eq (z := 0) hr, obind, hs]
    dsimp only
    rw [n9 2, nI_add, if_pos (nI_le (by omega) (by omega))]
    rfl
  | succ k ih =>
    intro i fuel h1 h2
    obtain ⟨g, rfl⟩ : ∃ g, fuel = g + 1 := ⟨fuel - 1, by omega⟩
    have ih2 := ih (i + 1) g (by omega) (by omega)
    obtain ⟨j1, j2, j3, j4, j5, j6⟩ := hj i (by omega)
    obtain ⟨x, x1, x2⟩ := casesOne_eq (d := ds i) hV hB hR h5 h6
    have gl := gv_le (lo := n) hV (ds i) f5 f6 (ms' i)
    rw [fls_X7_couldMean_3]
    unfold fb_X7_couldMean_3
    rw [sizeOf_eq (z := 0) hr, obind, hs]
    dsimp only
    rw [n9 2, nI_add, if_neg (nI_ge (by omega) (by omega)), n9 1, nI_add, placeOf_eq (z := 0) hr (show 3 * i + 1 < 40 by omega), obind]
    dsimp only
    rw [show S.1 (20 + 0) r (3 * i + 1) = nI (ds i) from j3, bound_eq hV hB (by omega), obind]
    dsimp only
    rw [x1, obind]
    dsimp only
    rw [placeOf_eq (z := 0) hr (show 3 * i < 40 by omega), obind]
    dsimp only
    rw [show S.1 (20 + 0) r (3 * i) = nI (ms' i) from j1, hasBit_eq _ j2, obind]
    dsimp only
    rw [placeOf_eq (z := 0) hr (show 3 * i + 2 < 40 by omega), obind]
    dsimp only
    rw [show S.1 (20 + 0) r (3 * i + 2) = nI (ys i) from j5, nI_if (by omega) (by omega), x2 _ j2]
    unfold fj_X7_couldMean_88_3
    rw [n9 3, nI_add, show 3 * i + 3 = 3 * (i + 1) by omega, show fl_X7_couldMean_3 (fun S => some (nI 1, S)) g (nI r) (nI f5) (nI f6) (nI (3 * (i + 1))) S = _ from ih2, cmG]
    rcases (show gv Q n n (ds i) f5 f6 (ms' i) = 0 ∨ gv Q n n (ds i) f5 f6 (ms' i) = 1 by omega) with e | e <;> rcases (show ys i = 0 ∨ ys i = 1 by omega) with e' | e' <;> rw [e, e'] <;> rfl
theorem m116 {M : Stt} (hV : BkV n Q) (hB : BM M n Q) (hL : LoR M n n) (hr : r < 6) (ht : 3 * t ≤ 40) (hs : M.1 2 0 r = nI (3 * t)) (hj : ∀ j, j < t → M.1 3 0 (40 * r + 3 * j) = nI (ms' j) ∧ ms' j < 32 ∧ M.1 3 0 (40 * r + (3 * j + 1)) = nI (ds j) ∧ ds j ≤ 20 ∧ M.1 3 0 (40 * r + (3 * j + 2)) = nI (ys j) ∧ ys j ≤ 1) {mm : Nat} (hmm : mm < 25) (x3 x4 : Int32) (ke : Int32 → Int32 → Int32 → Int32 → Int32 → Stt → Option (Int32 × Stt)) : ∀ (k i fuel : Nat) (c : Bool), i + k = t → k < fuel → fl_X8_meant_116 ke fuel (nI r) x3 x4 (nI mm) (b2i c) (nI (3 * i)) M = ke (nI r) x3 x4 (nI mm) (b2i (c && cmG Q n (mm / 5) (mm % 5) ms' ds ys k i)) M := by
  intro k
  induction k with
  | zero =>
    intro i fuel c h1 h2
    obtain ⟨g, rfl⟩ : ∃ g, fuel = g + 1 := ⟨fuel - 1, by omega⟩
    rw [fls_X8_meant_116]
    unfold fb_X8_meant_116
    rw [ixb_nI hr (by omega), grd_t, cl_nI (by omega), hs, if_pos (nI_le (by omega) (by omega)), cmG, Bool.and_true]
  | succ k ih =>
    intro i fuel c h1 h2
    obtain ⟨g, rfl⟩ : ∃ g, fuel = g + 1 := ⟨fuel - 1, by omega⟩
    obtain ⟨j1, j2, j3, j4, j5, j6⟩ := hj i (by omega)
    have hq := Nat.mod_lt mm (show 5 > 0 by omega)
    have gl := gv_le (lo := n) hV (ds i) (mm / 5) (mm % 5) (ms' i)
    rw [fls_X8_meant_116]
    unfold fb_X8_meant_116
    rw [ixb_nI hr (by omega), grd_t, cl_nI (by omega), hs, if_neg (nI_ge (by omega) (by omega)), if_b2i, n9 3, nI_add, show 3 * i + 3 = 3 * (i + 1) by omega]
    cases c
    · rw [if_neg (by decide)]
      exact (ih (i + 1) g false (by omega) (by omega)).trans (by rw [Bool.false_and, Bool.false_and])
    · rw [if_pos rfl, rowAt_eq hr (by omega), obind]
      dsimp only
      rw [n9 1, nI_add, rowAt_eq hr (by omega), obind]
      dsimp only
      rw [j1, j3, bindSet_eq hV hB hL (by omega), obind]
      dsimp only
      rw [n9 5, pk_rem (by omega) (by omega) (by omega), pk_div (by omega) (by omega) (by omega), givenBy_eq hV hB j2 (by omega) (by omega), obind]
      dsimp only
      rw [n9 2, nI_add, rowAt_eq hr (by omega), obind]
      dsimp only
      rw [j5, nI_if (by omega) (by omega), Bool.true_and, cmG]
      by_cases ce : gv Q n n (ds i) (mm / 5) (mm % 5) (ms' i) = ys i
      · rw [if_pos ce, decide_eq_true ce, Bool.true_and]
        exact (ih (i + 1) g true (by omega) (by omega)).trans (by rw [Bool.true_and])
      · rw [if_neg ce, decide_eq_false ce, Bool.false_and]
        exact (ih (i + 1) g false (by omega) (by omega)).trans (by rw [Bool.false_and])
end
def fvS (p : Nat → Bool) : Nat → Int32
  | 0 => 0
  | m + 1 => fvS p m ||| (if p m = true then (1 : Int32) <<< (nI (m / 5) &&& 31) else 0)
theorem m79 {S : Stt} {r : Nat} {p : Nat → Bool} {f5 : Nat} (h5 : f5 < 5) (hc : ∀ f6, f6 < 5 → f_X7_couldMean (nI r) (nI f5) (nI f6) S = some (b2i (p (5 * f5 + f6)), S)) (ke : Int32 → Int32 → Int32 → Int32 → Stt → Option (Int32 × Stt)) : ∀ (k j fuel : Nat), j + k = 5 → k < fuel → fl_X7_meant_79 ke fuel (nI r) (nI (cnt p (5 * f5 + j))) (fvS p (5 * f5 + j)) (nI f5) (nI j) S = ke (nI r) (nI (cnt p (5 * f5 + 5))) (fvS p (5 * f5 + 5)) (nI f5) S := by
  intro k
  induction k with
  | zero =>
    intro j fuel h1 h2
    obtain ⟨g, rfl⟩ : ∃ g, fuel = g + 1 := ⟨fuel - 1, by omega⟩
    rw [fls_X7_meant_79]
    unfold fb_X7_meant_79
    rw [n9 5, if_pos (nI_le (by omega) (by omega)), show j = 5 by omega]
  | succ k ih =>
    intro j fuel h1 h2
    obtain ⟨g, rfl⟩ : ∃ g, fuel = g + 1 := ⟨fuel - 1, by omega⟩
    have ih2 := ih (j + 1) g (by omega) (by omega)
    rw [show 5 * f5 + (j + 1) = 5 * f5 + j + 1 by omega, cnt, fvS, show (5 * f5 + j) / 5 = f5 by omega] at ih2
    obtain ⟨c, hc'⟩ : ∃ c, cnt p (5 * f5 + j) = c := ⟨_, rfl⟩
    rw [hc'] at ih2 ⊢
    rw [fls_X7_meant_79]
    unfold fb_X7_meant_79
    rw [n9 5, if_neg (nI_ge (by omega) (by omega)), hc j (by omega), obind, if_b2i, nI_1 j, nI_1 c]
    by_cases cp : p (5 * f5 + j) = true
    · rw [if_pos cp, if_pos cp] at ih2
      rw [if_pos cp]
      exact ih2
    · rw [if_neg cp, if_neg cp, or0] at ih2
      rw [if_neg cp]
      exact ih2
theorem m70 {S : Stt} {r : Nat} {p : Nat → Bool} (hc : ∀ f5 f6, f5 < 5 → f6 < 5 → f_X7_couldMean (nI r) (nI f5) (nI f6) S = some (b2i (p (5 * f5 + f6)), S)) (ke : Int32 → Int32 → Stt → Option (Int32 × Stt)) : ∀ (k i fuel : Nat), i + k = 5 → k < fuel → fl_X7_meant_70 ke fuel (nI r) (nI (cnt p (5 * i))) (fvS p (5 * i)) (nI i) S = ke (nI (cnt p 25)) (fvS p 25) S := by
  intro k
  induction k with
  | zero =>
    intro i fuel h1 h2
    obtain ⟨g, rfl⟩ : ∃ g, fuel = g + 1 := ⟨fuel - 1, by omega⟩
    rw [fls_X7_meant_70]
    unfold fb_X7_meant_70
    rw [n9 5, if_pos (nI_le (by omega) (by omega)), show i = 5 by omega]
  | succ k ih =>
    intro i fuel h1 h2
    obtain ⟨g, rfl⟩ : ∃ g, fuel = g + 1 := ⟨fuel - 1, by omega⟩
    rw [fls_X7_meant_70]
    unfold fb_X7_meant_70
    rw [n9 5, if_neg (nI_ge (by omega) (by omega))]
    refine (m79 (show i < 5 by omega) (fun f6 h6 => hc i f6 (by omega) h6) _ 5 0 300 (by omega) (by omega)).trans ?_
    rw [nI_1]
    exact ih (i + 1) g (by omega) (by omega)
theorem m103 {M : Stt} {r : Nat} {p : Nat → Bool} (hc : ∀ mm, mm < 25 → ∀ (x3 x4 : Int32) (ke : Int32 → Int32 → Int32 → Int32 → Int32 → Stt → Option (Int32 × Stt)), fl_X8_meant_116 ke 300 (nI r) x3 x4 (nI mm) 1 0 M = ke (nI r) x3 x4 (nI mm) (b2i (p mm)) M) (ke : Int32 → Int32 → Stt → Option (Int32 × Stt)) : ∀ (k i fuel : Nat), i + k = 25 → k < fuel → fl_X8_meant_103 ke fuel (nI r) (nI (cnt p i)) (fvS p i) (nI i) M = ke (nI (cnt p 25)) (fvS p 25) M := by
  intro k
  induction k with
  | zero =>
    intro i fuel h1 h2
    obtain ⟨g, rfl⟩ : ∃ g, fuel = g + 1 := ⟨fuel - 1, by omega⟩
    rw [fls_X8_meant_103]
    unfold fb_X8_meant_103
    rw [n9 25, if_pos (nI_le (by omega) (by omega)), show i = 25 by omega]
  | succ k ih =>
    intro i fuel h1 h2
    obtain ⟨g, rfl⟩ : ∃ g, fuel = g + 1 := ⟨fuel - 1, by omega⟩
    have ih2 := ih (i + 1) g (by omega) (by omega)
    rw [cnt, fvS] at ih2
    obtain ⟨c, hc'⟩ : ∃ c, cnt p i = c := ⟨_, rfl⟩
    rw [hc'] at ih2 ⊢
    rw [fls_X8_meant_103]
    unfold fb_X8_meant_103
    rw [n9 25, if_neg (nI_ge (by omega) (by omega)), hc i (by omega), if_b2i]
    unfold fj_X8_meant_200_103
    rw [if_b2i, if_b2i, n9 5, pk_div (by omega) (by omega) (by omega), nI_1 i, nI_1 c]
    by_cases cp : p i = true
    · rw [if_pos cp, if_pos cp] at ih2
      rw [if_pos cp, if_pos cp]
      exact ih2
    · rw [if_neg cp, if_neg cp] at ih2
      rw [if_neg cp, if_neg cp, show nI c + 0 = nI (c + 0) from nI_add c 0]
      exact ih2
theorem sim_meant (x1 : Int32) : SimI (f_X7_meant x1) (f_X8_meant x1) := by
  intro S M h
  obtain ⟨n, Q, hV, hB, hR, hM, hDP, hL, hr0⟩ := h.bk
  have hn := hV.1
  unfold f_X7_meant f_X8_meant
  rcases row3 h x1 with ⟨a1, a2, a3⟩ | ⟨r, hr, rfl, y1, y2⟩ | ⟨r, N, hr, rfl, hN, y2, y3, y4⟩
  · exact ⟨-1, S, M, by rw [a1, obind, if_pos rfl], by rw [a3, obind, if_neg nn1], h⟩
  · obtain ⟨S', M', e1, e2, e3⟩ := h.refuse (k := 1) (by omega) (by omega)
    exact ⟨-3, S', M', by rw [isOne_yes (z := 0) hr, obind, if_neg n10, there_no (z := 0) hr y1, obind, if_pos rfl, n9 1, e1, obind], by rw [askedRow_gone hr y2 e2, obind, if_neg nn3], e3⟩
  rw [isOne_yes (z := 0) hr, obind, if_neg n10, there_yes (z := 0) hr y2 (by omega), obind, if_neg n10, sizeOf_eq (z := 0) hr, obind, askedRow_there hr y3 (by omega), obind, if_pos p00, ixb_nI hr (by omega), grd_t, cl_nI (by omega)]
  dsimp only
  rw [y2, y3, n9 3, pk_rem (by omega) (by omega) (by omega)]
  have hmd := Nat.mod_lt N (show 3 > 0 by omega)
  by_cases c3 : ¬ N % 3 = 0
  · obtain ⟨S', M', e1, e2, e3⟩ := h.refuse (k := 5) (by omega) (by omega)
    have ne : ¬ nI (N % 3) = 0 := nI_ne0 (by omega) (by omega)
    exact ⟨-3, S', M', by rw [if_neg ne, show f_X7_refuse 5 S = some (-3, S') from e1, obind], by rw [if_neg ne, show f_X8_meet 5 M = some (-3, M') from e2, obind], e3⟩
  have c3 := Classical.not_not.mp c3
  obtain ⟨t, rfl⟩ : ∃ t, N = 3 * t := ⟨N / 3, by omega⟩
  rw [c3, if_pos (show nI 0 = 0 from rfl), if_pos (show nI 0 = 0 from rfl)]
  obtain ⟨c, b1, b2⟩ := tells_loopC hr hN y2 t 0 300 (by omega) (by omega)
  have b1 : f_X7_tellsJudgements (nI r) S = some (b2i c, S) := b1
  obtain ⟨c', d1, d2⟩ := tells_loopM hr hN y3 (fun x1 S => fl_X8_meant_103 (fun x3 x4 S => (f_X8_ask x4 x3 S).bind fun q46 => some (q46.1, q46.2)) 300 x1 (0 : Int32) (0 : Int32) (0 : Int32) S) t 0 300 (by omega) (by omega)
  have ecc : c = c' := by
    have : c = true ↔ c' = true := by
      rw [b2, d2]
      constructor
      · intro q j q1 q2
        have := q j q1 q2
        unfold Jg at *
        rw [y4 (3 * j) (by omega), y4 (3 * j + 1) (by omega), y4 (3 * j + 2) (by omega)] at this
        exact this
      · intro q j q1 q2
        have := q j q1 q2
        unfold Jg at *
        rw [y4 (3 * j) (by omega), y4 (3 * j + 1) (by omega), y4 (3 * j + 2) (by omega)]
        exact this
    cases c <;> cases c' <;> simp_all
  subst ecc
  rw [b1, obind, if_b2i, show (fl_X8_meant_31 _ 300 (nI r) 0 M : Option (Int32 × Stt)) = _ from d1]
  cases c
  · obtain ⟨S', M', e1, e2, e3⟩ := h.refuse (k := 3) (by omega) (by omega)
    exact ⟨-3, S', M', by rw [if_neg (by decide), e1, obind], by rw [if_neg (by decide)]; exact e2, e3⟩
  rw [if_pos rfl, if_pos rfl]
  have hJ := b2.mp rfl
  have key : ∀ j, j < t → S.1 20 r (3 * j) = nI (S.1 20 r (3 * j)).toNatClampNeg ∧ (S.1 20 r (3 * j)).toNatClampNeg < 32 ∧ S.1 20 r (3 * j + 1) = nI (S.1 20 r (3 * j + 1)).toNatClampNeg ∧ (S.1 20 r (3 * j + 1)).toNatClampNeg ≤ 20 ∧ S.1 20 r (3 * j + 2) = nI (S.1 20 r (3 * j + 2)).toNatClampNeg ∧ (S.1 20 r (3 * j + 2)).toNatClampNeg ≤ 1 := by
    intro j hj
    obtain ⟨⟨m, hm, em⟩, ⟨d, hd, ed⟩, y, hy, ey⟩ := hJ j (by omega) hj
    rw [em, ed, ey, cl_nI (by omega), cl_nI (by omega), cl_nI (by omega)]
    exact ⟨rfl, hm, rfl, hd, rfl, hy⟩
  obtain ⟨ms', hms⟩ : ∃ f : Nat → Nat, f = fun j => (S.1 20 r (3 * j)).toNatClampNeg := ⟨_, rfl⟩
  obtain ⟨ds, hds⟩ : ∃ f : Nat → Nat, f = fun j => (S.1 20 r (3 * j + 1)).toNatClampNeg := ⟨_, rfl⟩
  obtain ⟨ys, hys⟩ : ∃ f : Nat → Nat, f = fun j => (S.1 20 r (3 * j + 2)).toNatClampNeg := ⟨_, rfl⟩
  have key1 : ∀ j, j < t → S.1 20 r (3 * j) = nI (ms' j) ∧ ms' j < 32 ∧ S.1 20 r (3 * j + 1) = nI (ds j) ∧ ds j ≤ 20 ∧ S.1 20 r (3 * j + 2) = nI (ys j) ∧ ys j ≤ 1 := fun j hj => by
    rw [hms, hds, hys]
    exact key j hj
  have key2 : ∀ j, j < t → M.1 3 0 (40 * r + 3 * j) = nI (ms' j) ∧ ms' j < 32 ∧ M.1 3 0 (40 * r + (3 * j + 1)) = nI (ds j) ∧ ds j ≤ 20 ∧ M.1 3 0 (40 * r + (3 * j + 2)) = nI (ys j) ∧ ys j ≤ 1 := fun j hj => by
    rw [← y4 (3 * j) (by omega), ← y4 (3 * j + 1) (by omega), ← y4 (3 * j + 2) (by omega)]
    exact key1 j hj
  refine ⟨nI (cnt (fun m => cmG Q n (m / 5) (m % 5) ms' ds ys t 0) 25), put S 62 0 0 (fvS (fun m => cmG Q n (m / 5) (m % 5) ms' ds ys t 0) 25), put M 0 2 0 (fvS (fun m => cmG Q n (m / 5) (m % 5) ms' ds ys t 0) 25), ?_, ?_, h.ask _⟩
  · refine m70 (p := fun m => cmG Q n (m / 5) (m % 5) ms' ds ys t 0) (fun f5 f6 h5 h6 => ?_) _ 5 0 300 (by omega) (by omega)
    rw [show (5 * f5 + f6) / 5 = f5 by omega, show (5 * f5 + f6) % 5 = f6 by omega]
    exact could_loop hV hB hR hr hN y2 key1 h5 h6 t 0 300 (by omega) (by omega)
  · refine m103 (p := fun m => cmG Q n (m / 5) (m % 5) ms' ds ys t 0) (fun mm hmm x3 x4 ke => ?_) _ 25 0 300 (by omega) (by omega)
    exact (m116 hV hM hL hr hN y3 key2 hmm x3 x4 ke t 0 300 true (by omega) (by omega)).trans (by rw [Bool.true_and])
