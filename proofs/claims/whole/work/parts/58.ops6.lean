/-! mark, read -/
def isk (k j : Nat) : Bool := decide (k = j ∨ (j = 1 ∧ k = 4) ∨ (j = 2 ∧ k = 5))
theorem isOf_any {S : Stt} {b i k j : Nat} (h : S.1 10 b i = nI k) (hk : k ≤ 5) (hj : j ≤ 5) : f_X3_isOf b i (nI j) S = some (b2i (isk k j), S) := by
  by_cases c1 : j = 1
  · subst c1
    rw [show (nI 1 : Int32) = 1 from rfl, isOf1_eq h hk]
    unfold isk
    rw [decide_eq_decide.mpr (show (k = 1 ∨ k = 4) ↔ (k = 1 ∨ (1 = 1 ∧ k = 4) ∨ (1 = 2 ∧ k = 5)) by omega)]
  · by_cases c2 : j = 2
    · subst c2
      rw [show (nI 2 : Int32) = 2 from rfl, isOf2_eq h hk]
      unfold isk
      rw [decide_eq_decide.mpr (show (k = 2 ∨ k = 5) ↔ (k = 2 ∨ (2 = 1 ∧ k = 4) ∨ (2 = 2 ∧ k = 5)) by omega)]
    · rw [isOfk_eq h hk c1 c2 hj]
      unfold isk
      rw [decide_eq_decide.mpr (show (k = j) ↔ (k = j ∨ (j = 1 ∧ k = 4) ∨ (j = 2 ∧ k = 5)) by omega)]
theorem isA_any {M : Stt} {i k j : Nat} (hi : i < 6) (h : M.1 7 0 i = nI k) (hk : k ≤ 5) (hj : j ≤ 5) : f_X8_isA (nI i) (nI j) M = some (b2i (isk k j), M) := by
  unfold f_X8_isA fj_X8_isA_25
  rw [ixb_nI hi (by omega), grd_t, grd_t, grd_t, cl_nI (by omega), h, n9 1, n9 4, n9 2, n9 5, nI_if (by omega) (by omega), nI_if (by omega) (by omega), nI_if (by omega) (by omega), nI_if (by omega) (by omega), nI_if (by omega) (by omega)]
  unfold isk
  by_cases c : k = j
  · rw [if_pos c, decide_eq_true (Or.inl c)]; rfl
  · rw [if_neg c]
    by_cases c1 : j = 1
    · rw [if_pos c1]
      by_cases c4 : k = 4
      · rw [if_pos c4, decide_eq_true (by omega)]; rfl
      · rw [if_neg c4, if_neg (by omega), decide_eq_false (by omega)]; rfl
    · rw [if_neg c1]
      by_cases c2 : j = 2
      · rw [if_pos c2]
        by_cases c5 : k = 5
        · rw [if_pos c5, decide_eq_true (by omega)]; rfl
        · rw [if_neg c5, decide_eq_false (by omega)]; rfl
      · rw [if_neg c2, decide_eq_false (by omega)]; rfl
/-- how many pages that are no definitions have a word of w -/
def hvP (Q : Nat → Nat → Nat) (w j : Nat) : Bool := decide (Q 0 j ≠ 3 ∧ ¬ (nI (Q 3 j) &&& nI w = 0))
theorem having_loop {S : Stt} {b n : Nat} {Q : Nat → Nat → Nat} (hV : BkV n Q) (hB : BC S b n Q) (w : Nat) : ∀ (k i fuel : Nat), i + k = n → k < fuel → fl_X0_havingWords_4 (fun x2 S => some (x2, S)) fuel b (nI w) (nI (cnt (hvP Q w) i)) (nI i) S = some (nI (cnt (hvP Q w) n), S) := by
  have hn := hV.1
  intro k
  induction k with
  | zero =>
    intro i fuel h1 h2
    obtain ⟨g, rfl⟩ : ∃ g, fuel = g + 1 := ⟨fuel - 1, by omega⟩
    rw [fls_X0_havingWords_4]
    unfold fb_X0_havingWords_4
    rw [hB.1, nI_ifle (by omega) (by omega), if_pos (by omega), show i = n by omega]
  | succ k ih =>
    intro i fuel h1 h2
    obtain ⟨g, rfl⟩ : ∃ g, fuel = g + 1 := ⟨fuel - 1, by omega⟩
    have ih2 := ih (i + 1) g (by omega) (by omega)
    obtain ⟨p0, p1, p2, p3, p4, p5, p6⟩ := hB.2 i (by omega)
    obtain ⟨v0, v1, v2, v3, v4, v5⟩ := hV.2 i (by omega)
    rw [cnt] at ih2
    rw [fls_X0_havingWords_4]
    unfold fb_X0_havingWords_4
    rw [hB.1, nI_ifle (by omega) (by omega), if_neg (by omega), ixb_nI (show i < 6 by omega) (by omega), grd_t, grd_t, cl_nI (by omega), p0, p3, n9 3, nI_if (by omega) (by omega), nI_1, nI_1]
    by_cases c : Q 0 i = 3
    · rw [if_neg (by unfold hvP; rw [decide_eq_false (fun q => q.1 c)]; decide)] at ih2
      rw [if_pos c]
      exact ih2
    · rw [if_neg c]
      by_cases c2 : nI (Q 3 i) &&& nI w = 0
      · rw [if_neg (by unfold hvP; rw [decide_eq_false (fun q => q.2 c2)]; decide)] at ih2
        rw [if_pos c2]
        exact ih2
      · rw [if_pos (by unfold hvP; exact decide_eq_true ⟨c, c2⟩)] at ih2
        rw [if_neg c2]
        exact ih2
theorem mark43 {M : Stt} {n : Nat} {Q : Nat → Nat → Nat} (hV : BkV n Q) (hB : BM M n Q) {i : Nat} (hi : i < n) (x2 x4 : Int32) (ke : Int32 → Int32 → Int32 → Int32 → Stt → Option (Int32 × Stt)) : ∀ (k j fuel : Nat), j + k = n → k < fuel → fl_X8_mark_43 ke fuel (nI i) x2 (nI (cnt (hvP Q (Q 3 i)) j)) x4 (nI j) M = ke (nI i) x2 (nI (cnt (hvP Q (Q 3 i)) n)) x4 M := by
  have hn := hV.1
  intro k
  induction k with
  | zero =>
    intro j fuel h1 h2
    obtain ⟨g, rfl⟩ : ∃ g, fuel = g + 1 := ⟨fuel - 1, by omega⟩
    rw [fls_X8_mark_43]
    unfold fb_X8_mark_43
    rw [hB.1, nI_ifle (by omega) (by omega), if_pos (by omega), show j = n by omega]
  | succ k ih =>
    intro j fuel h1 h2
    obtain ⟨g, rfl⟩ : ∃ g, fuel = g + 1 := ⟨fuel - 1, by omega⟩
    have ih2 := ih (j + 1) g (by omega) (by omega)
    obtain ⟨p0, p1, p2, p3, p4, p5⟩ := hB.2 j (by omega)
    obtain ⟨v0, v1, v2, v3, v4, v5⟩ := hV.2 j (by omega)
    have pi := (hB.2 i hi).2.2.2.1
    rw [cnt] at ih2
    rw [fls_X8_mark_43]
    unfold fb_X8_mark_43
    rw [hB.1, nI_ifle (by omega) (by omega), if_neg (by omega), ixb_nI (show j < 6 by omega) (by omega), grd_t, grd_t, ixb_nI (show i < 6 by omega) (by omega), grd_t, cl_nI (show j < 2 ^ 31 by omega), cl_nI (show i < 2 ^ 31 by omega), p0, p3, pi, n9 3, nI_if (by omega) (by omega), nI_1, nI_1, n9 0, nI_add]
    by_cases c : Q 0 j = 3
    · rw [if_neg (by unfold hvP; rw [decide_eq_false (fun q => q.1 c)]; decide)] at ih2
      rw [if_pos c]
      exact ih2
    · rw [if_neg c]
      by_cases c2 : nI (Q 3 j) &&& nI (Q 3 i) = nI 0
      · rw [if_neg (by unfold hvP; rw [decide_eq_false (fun q => q.2 c2)]; decide)] at ih2
        rw [if_pos c2]
        exact ih2
      · rw [if_pos (by unfold hvP; exact decide_eq_true ⟨c, c2⟩)] at ih2
        rw [if_neg c2]
        exact ih2
theorem mark98 {M : Stt} {n : Nat} {Q : Nat → Nat → Nat} (hV : BkV n Q) (hB : BM M n Q) (hL : LoR M n n) {i : Nat} (hi : i < n) (x2 x3 : Int32) (ke : Int32 → Int32 → Int32 → Int32 → Stt → Option (Int32 × Stt)) : ∀ (e fuel : Nat), e ≤ 21 → e < fuel → fl_X8_mark_98 ke fuel (nI i) x2 x3 (fdF (fun d => bnd Q n n d i) (21 - e) e) (nI e + (-1)) M = ke (nI i) x2 x3 (fdF (fun d => bnd Q n n d i) 21 0) M := by
  have hn := hV.1
  intro e
  induction e with
  | zero =>
    intro fuel h1 h2
    obtain ⟨g, rfl⟩ : ∃ g, fuel = g + 1 := ⟨fuel - 1, by omega⟩
    rw [fls_X8_mark_98]
    unfold fb_X8_mark_98
    rw [if_pos (by decide)]
  | succ e ih =>
    intro fuel h1 h2
    obtain ⟨g, rfl⟩ : ∃ g, fuel = g + 1 := ⟨fuel - 1, by omega⟩
    have ih2 := ih g (by omega) (by omega)
    rw [show 21 - e = 21 - (e + 1) + 1 by omega, fdF] at ih2
    rw [fls_X8_mark_98]
    unfold fb_X8_mark_98
    rw [pk_m1, if_neg (nI_pos (by omega)), doesBind_eq hV hB hL (by omega) (by omega), obind, if_b2i, hs_stay]
    show (if bnd Q n n e i = true then _ else _) = _
    by_cases c : bnd Q n n e i = true
    · rw [if_pos c] at ih2 ⊢
      exact ih2
    · rw [if_neg c] at ih2 ⊢
      exact ih2
theorem sim_mark (x1 x2 : Int32) : SimI (f_X7_mark x1 x2) (f_X8_mark x1 x2) := by
  intro S M h
  obtain ⟨n, Q, hV, hB, hR, hM, hDP, hL, hr⟩ := h.bk
  have hn := hV.1
  unfold f_X7_mark f_X8_mark
  rcases page2 x1 hn hB.1 hM.1 with ⟨a1, a2⟩ | ⟨i, hi, rfl, a1, a2⟩
  · exact ⟨-1, S, M, by rw [a1, obind, if_pos rfl], by rw [a2, obind, if_pos rfl], h⟩
  rw [a1, a2, obind, obind, if_neg n10, if_neg n10]
  dsimp only
  by_cases c1 : x2 < 1
  · refine ⟨-1, S, M, by rw [if_pos c1], ?_, h⟩
    rw [in_no (fun q => by
      have := q.1
      rw [Int32.lt_iff_toInt_lt] at c1
      rw [Int32.le_iff_toInt_le] at this
      omega), obind, if_pos rfl]
  rw [if_neg c1]
  by_cases c5 : ¬ x2 ≤ 5
  · exact ⟨-1, S, M, by rw [if_neg c5], by rw [in_no (fun q => c5 q.2), obind, if_pos rfl], h⟩
  have c5 := Classical.not_not.mp c5
  obtain ⟨j, hj, rfl⟩ : ∃ j : Nat, j ≤ 5 ∧ x2 = nI j := nI_of2 (M := 5) (by decide) (by
    intro q
    rw [Int32.lt_iff_toInt_lt] at c1 q
    have e0 : (0 : Int32).toInt = 0 := by decide
    have e1 : (1 : Int32).toInt = 1 := by decide
    omega) c5
  have hj1 : 1 ≤ j := by
    rcases Nat.eq_zero_or_pos j with q | q
    · subst q; exact absurd (by decide) c1
    · exact q
  obtain ⟨p0, p1, p2, p3, p4, p5, p6⟩ := hB.2 i hi
  obtain ⟨m0, m1, m2, m3, m4, m5⟩ := hM.2 i hi
  obtain ⟨v0, v1, v2, v3, v4, v5⟩ := hV.2 i hi
  rw [if_pos c5, in_yes (a := 1) (b := 5) ⟨nI_le hj1 (by omega), c5⟩, obind, if_neg n10, ixb_nI (show i < 6 by omega) (by omega), grd_t, cl_nI (by omega)]
  dsimp only
  rw [isOf_any p0 v0 hj, obind, if_b2i, isA_any (by omega) m0 v0 hj, obind, if_b2i]
  by_cases ck : isk (Q 0 i) j = true
  · rw [if_pos ck, if_pos ck]
    dsimp only
    have e43 := mark43 hV hM hi (nI j) (-9) (fun x1 x2 x3 x4 S => fl_X8_mark_98 (fun x1 x2 x3 x4 S => if x2 = (1 : Int32) then ((f_X8_weightOf x1 S).bind fun q21 => some (q21.1, q21.2)) else (if x2 = (2 : Int32) then ((f_X8_doesBind x1 (20 : Int32) S).bind fun q24 => if q24.1 = 0 then (some ((0 : Int32), q24.2)) else (some ((1 : Int32), q24.2))) else (if x2 = (3 : Int32) then (some (x3, S)) else (if x2 = (4 : Int32) then (grd (ixb x1 6) (some (((S.1 12 0 x1.toNatClampNeg) + (2 : Int32)), S))) else (some (x4, S)))))) 300 x1 x2 x3 x4 (20 : Int32) S) n 0 300 (by omega) (by omega)
    have e98 := mark98 hV hM hL hi (nI j) (nI (cnt (hvP Q (Q 3 i)) n)) (fun x1 x2 x3 x4 S => if x2 = (1 : Int32) then ((f_X8_weightOf x1 S).bind fun q21 => some (q21.1, q21.2)) else (if x2 = (2 : Int32) then ((f_X8_doesBind x1 (20 : Int32) S).bind fun q24 => if q24.1 = 0 then (some ((0 : Int32), q24.2)) else (some ((1 : Int32), q24.2))) else (if x2 = (3 : Int32) then (some (x3, S)) else (if x2 = (4 : Int32) then (grd (ixb x1 6) (some (((S.1 12 0 x1.toNatClampNeg) + (2 : Int32)), S))) else (some (x4, S)))))) 21 300 (by omega) (by omega)
    have eM := e43.trans e98
    have hw := having_loop hV hB (Q 3 i) n 0 300 (by omega) (by omega)
    have hw2 : f_X0_havingWords 0 (S.1 13 0 i) S = some (nI (cnt (hvP Q (Q 3 i)) n), S) := by rw [p3]; exact hw
    rw [show (fl_X8_mark_43 _ 300 (nI i) (nI j) 0 (-9) 0 M : Option (Int32 × Stt)) = _ from eM]
    rw [grd_t, grd_t, grd_t, weight_eq (hB.2 i hi) (hV.2 i hi), obind, weightOf_eq (by omega) (hM.2 i hi) (hV.2 i hi), obind, hw2, obind, n9 20, holds_eq hV hB (by omega) (by omega), obind, doesBind_eq hV hM hL (by omega) (by omega), obind, firstDay_eq hV hB hi, obind, ixb_nI (show i < 6 by omega) (by omega), grd_t, cl_nI (by omega), p5, m5, hs_stay]
    rcases (show j = 1 ∨ j = 2 ∨ j = 3 ∨ j = 4 ∨ j = 5 by omega) with rfl | rfl | rfl | rfl | rfl
    · exact ⟨_, S, M, rfl, rfl, h⟩
    · cases hsF Q n n n i 20
      · exact ⟨_, S, M, rfl, rfl, h⟩
      · exact ⟨_, S, M, rfl, rfl, h⟩
    · exact ⟨_, S, M, rfl, rfl, h⟩
    · exact ⟨_, S, M, rfl, rfl, h⟩
    · exact ⟨_, S, M, rfl, rfl, h⟩
  · rw [if_neg ck, if_neg ck]
    obtain ⟨S', M', e1, e2, e3⟩ := h.refuse (k := 3) (by omega) (by omega)
    exact ⟨-3, S', M', by rw [show f_X7_refuse 3 S = some (-3, S') from e1, obind], by rw [show f_X8_meet 3 M = some (-3, M') from e2, obind], e3⟩
