/-! asked, upper, lower, finding, findings, count, digest -/
theorem sim_asked : SimI f_X7_asked f_X8_asked := by
  intro S M h
  refine ⟨S.1 62 0 0, S, M, rfl, ?_, h⟩
  unfold f_X8_asked
  rw [h.1.2.2.1]
theorem sim_finding : SimI f_X7_finding f_X8_finding := by
  intro S M h
  refine ⟨S.1 61 0 0, S, M, rfl, ?_, h⟩
  unfold f_X8_finding
  rw [h.1.1]
theorem sim_upper : SimL f_X7_upper f_X8_upper := by
  intro S M h
  refine ⟨S.2 0, S, M, rfl, ?_, h⟩
  unfold f_X8_upper
  rw [h.1.2.2.2.1]
theorem sim_lower : SimL f_X7_lower f_X8_lower := by
  intro S M h
  refine ⟨S.2 1, S, M, rfl, ?_, h⟩
  unfold f_X8_lower
  rw [h.1.2.2.2.2]
theorem sim_findings (x1 : Int32) : SimI (f_X7_findings x1) (f_X8_findings x1) := by
  intro S M h
  unfold f_X7_findings f_X8_findings
  by_cases c1 : x1 < 1
  · refine ⟨-1, S, M, by rw [if_pos c1], ?_, h⟩
    rw [in_no (fun q => by
      have := q.1
      rw [Int32.lt_iff_toInt_lt] at c1
      rw [Int32.le_iff_toInt_le] at this
      omega), obind, if_pos rfl]
  rw [if_neg c1]
  by_cases c5 : ¬ x1 ≤ 5
  · exact ⟨-1, S, M, by rw [if_neg c5], by rw [in_no (fun q => c5 q.2), obind, if_pos rfl], h⟩
  have c5 := Classical.not_not.mp c5
  have e0 : (0 : Int32).toInt = 0 := by decide
  have e1 : (1 : Int32).toInt = 1 := by decide
  obtain ⟨j, hj, rfl⟩ : ∃ j : Nat, j ≤ 5 ∧ x1 = nI j := nI_of2 (M := 5) (by decide) (by
    intro q
    rw [Int32.lt_iff_toInt_lt] at c1 q
    omega) c5
  have c1' : (1 : Int32) ≤ nI j := by
    rw [Int32.lt_iff_toInt_lt] at c1
    rw [Int32.le_iff_toInt_le]
    omega
  refine ⟨S.1 60 0 j, S, M, ?_, ?_, h⟩
  · rw [if_pos c5, ixb_nI (by omega) (by omega), grd_t, cl_nI (by omega)]
  · rw [in_yes ⟨c1', c5⟩, obind, if_neg n10, ixb_nI (by omega) (by omega), grd_t, cl_nI (by omega), h.1.2.1 j (by omega)]
/-! count -/
section
variable {kb : Int32 → Int32 → Int32 → Stt → Option (Int32 × Stt)} {ke : Int32 → Int32 → Stt → Option (Int32 × Stt)} {x1 x2 x3 t : Int32} {S : Stt}
theorem tl123 (h : ¬ x1 = 6) : fj_X8_tells_123_4 kb ke x1 x3 t S = kb x1 (t + 0) (x3 + 1) S := if_neg h
theorem tl104 (h : ¬ x1 = 5) : fj_X8_tells_104_4 kb ke x1 x3 t S = fj_X8_tells_123_4 kb ke x1 x3 t S := if_neg h
theorem tl82 (h : ¬ x1 = 4) : fj_X8_tells_82_4 kb ke x1 x2 x3 0 S = fj_X8_tells_104_4 kb ke x1 x3 x2 S := by
  unfold fj_X8_tells_82_4
  rw [if_pos rfl, if_neg h]
theorem tl55 (h : ¬ x1 = 3) : fj_X8_tells_55_4 kb ke x1 x2 x3 S = fj_X8_tells_82_4 kb ke x1 x2 x3 0 S := by
  unfold fj_X8_tells_55_4
  rw [if_neg h]
  rfl
theorem tl33 (h : ¬ x1 = 2) : fj_X8_tells_33_4 kb ke x1 x2 x3 S = fj_X8_tells_55_4 kb ke x1 x2 x3 S := if_neg h
theorem tl77 : fj_X8_tells_77_4 kb ke x1 x2 x3 S = kb x1 (x2 + 1) (x3 + 1) S := by
  unfold fj_X8_tells_77_4 fj_X8_tells_82_4
  rw [if_neg n10]
end
theorem cnt_cut {p : Nat → Bool} {n : Nat} : ∀ d, cnt (fun k => decide (k < n) && p k) (n + d) = cnt p n := by
  intro d
  induction d with
  | zero => exact cnt_congr n (fun j hj => by rw [decide_eq_true hj, Bool.true_and])
  | succ d ih =>
    show cnt _ (n + d + 1) = _
    rw [cnt, ih, if_neg (by rw [decide_eq_false (by omega), Bool.false_and]; decide)]
    rfl
def tpM (M : Stt) (n : Nat) (Q : Nat → Nat → Nat) (w k : Nat) : Bool :=
  if w = 1 then decide (k < n) && isk (Q 0 k) 3 else if w = 2 then decide (k < n) && isk (Q 0 k) 1 else if w = 3 then decide (k < n) && isk (Q 0 k) 2 else if w = 4 then decide (0 ≤ M.1 2 0 k) else if w = 5 then decide (k < 4) && decide (0 ≤ M.1 5 0 k) else if w = 6 then decide (k < 3) && decide (¬ M.1 14 0 (38 * k) = -9) else false
theorem tells_step {M : Stt} {n : Nat} {Q : Nat → Nat → Nat} (hV : BkV n Q) (hB : BM M n Q) {w : Nat} (hw : w ≤ 6) (kb : Int32 → Int32 → Int32 → Stt → Option (Int32 × Stt)) (ke : Int32 → Int32 → Stt → Option (Int32 × Stt)) (c : Nat) {k : Nat} (hk : k < 6) : fb_X8_tells_4 kb ke (nI w) (nI c) (nI k) M = kb (nI w) (nI (c + (if tpM M n Q w k = true then 1 else 0))) (nI (k + 1)) M := by
  have hn := hV.1
  have ne : ∀ a b : Nat, a ≤ 6 → b ≤ 6 → a ≠ b → ¬ nI a = nI b := fun a b h1 h2 h3 q => h3 ((nI_eq (by omega) (by omega)).mp q)
  unfold fb_X8_tells_4
  rw [n9 6, if_neg (nI_ge hk (by omega)), hB.1, nI_ifle (by omega) (by omega)]
  rcases (show w = 0 ∨ w = 1 ∨ w = 2 ∨ w = 3 ∨ w = 4 ∨ w = 5 ∨ w = 6 by omega) with rfl | rfl | rfl | rfl | rfl | rfl | rfl
  · rw [if_neg (show ¬ nI 0 = 1 from ne 0 1 (by omega) (by omega) (by omega)), tl33 (ne 0 2 (by omega) (by omega) (by omega)), tl55 (ne 0 3 (by omega) (by omega) (by omega)), tl82 (ne 0 4 (by omega) (by omega) (by omega)), tl104 (ne 0 5 (by omega) (by omega) (by omega)), tl123 (ne 0 6 (by omega) (by omega) (by omega)), nI_1, n9 0, nI_add]
    rfl
  · have rest : fj_X8_tells_33_4 kb ke (nI 1) (nI c) (nI k) M = kb (nI 1) (nI c) (nI (k + 1)) M := by
      rw [tl33 (ne 1 2 (by omega) (by omega) (by omega)), tl55 (ne 1 3 (by omega) (by omega) (by omega)), tl82 (ne 1 4 (by omega) (by omega) (by omega)), tl104 (ne 1 5 (by omega) (by omega) (by omega)), tl123 (ne 1 6 (by omega) (by omega) (by omega)), nI_1, n9 0, nI_add]
      rfl
    rw [if_pos (show nI 1 = 1 from rfl), rest, ixb_nI hk (by omega), grd_t, cl_nI (by omega), tl77, nI_1, nI_1]
    unfold tpM
    rw [if_pos rfl]
    by_cases c1 : n ≤ k
    · rw [if_pos c1, if_neg (by rw [decide_eq_false (by omega), Bool.false_and]; decide)]
      rfl
    · obtain ⟨p0, -⟩ := hB.2 k (by omega)
      have v0 := (hV.2 k (by omega)).1
      rw [if_neg c1, p0, n9 3, nI_if (by omega) (by omega), decide_eq_true (show k < n by omega), Bool.true_and]
      unfold isk
      by_cases c2 : Q 0 k = 3
      · rw [if_pos c2, if_pos (decide_eq_true (by omega))]
      · rw [if_neg c2, if_neg (by rw [decide_eq_false (by omega)]; decide)]
        rfl
  · have rest : fj_X8_tells_55_4 kb ke (nI 2) (nI c) (nI k) M = kb (nI 2) (nI c) (nI (k + 1)) M := by
      rw [tl55 (ne 2 3 (by omega) (by omega) (by omega)), tl82 (ne 2 4 (by omega) (by omega) (by omega)), tl104 (ne 2 5 (by omega) (by omega) (by omega)), tl123 (ne 2 6 (by omega) (by omega) (by omega)), nI_1, n9 0, nI_add]
      rfl
    rw [if_neg (show ¬ nI 2 = 1 from ne 2 1 (by omega) (by omega) (by omega))]
    unfold fj_X8_tells_33_4
    rw [if_pos (show nI 2 = 2 from rfl), rest, hB.1, nI_ifle (by omega) (by omega)]
    unfold tpM
    rw [if_neg (show ¬ (2 : Nat) = 1 by omega), if_pos rfl]
    by_cases c1 : n ≤ k
    · rw [if_pos c1, if_neg (by rw [decide_eq_false (by omega), Bool.false_and]; decide)]
      rfl
    · obtain ⟨p0, -⟩ := hB.2 k (by omega)
      have v0 := (hV.2 k (by omega)).1
      rw [if_neg c1, n9 1, isA_any hk p0 v0 (by omega), obind, if_b2i, decide_eq_true (show k < n by omega), Bool.true_and]
      dsimp only
      rw [rest, tl77, nI_1, nI_1]
      cases isk (Q 0 k) 1
      · rfl
      · rfl
  · have rest : fj_X8_tells_81_4 kb ke (nI 3) (nI c) (nI k) M = kb (nI 3) (nI c) (nI (k + 1)) M := by
      unfold fj_X8_tells_81_4
      rw [tl82 (ne 3 4 (by omega) (by omega) (by omega)), tl104 (ne 3 5 (by omega) (by omega) (by omega)), tl123 (ne 3 6 (by omega) (by omega) (by omega)), nI_1, n9 0, nI_add]
      rfl
    rw [if_neg (show ¬ nI 3 = 1 from ne 3 1 (by omega) (by omega) (by omega)), tl33 (ne 3 2 (by omega) (by omega) (by omega))]
    unfold fj_X8_tells_55_4
    rw [if_pos (show nI 3 = 3 from rfl), rest, hB.1, nI_ifle (by omega) (by omega)]
    unfold tpM
    rw [if_neg (show ¬ (3 : Nat) = 1 by omega), if_neg (show ¬ (3 : Nat) = 2 by omega), if_pos rfl]
    by_cases c1 : n ≤ k
    · rw [if_pos c1, if_neg (by rw [decide_eq_false (by omega), Bool.false_and]; decide)]
      rfl
    · obtain ⟨p0, -⟩ := hB.2 k (by omega)
      have v0 := (hV.2 k (by omega)).1
      rw [if_neg c1, n9 2, isA_any hk p0 v0 (by omega), obind, if_b2i, decide_eq_true (show k < n by omega), Bool.true_and]
      dsimp only
      rw [rest, tl77, nI_1, nI_1]
      cases isk (Q 0 k) 2
      · rfl
      · rfl
  · have rest : fj_X8_tells_104_4 kb ke (nI 4) (nI k) (nI c) M = kb (nI 4) (nI c) (nI (k + 1)) M := by
      rw [tl104 (ne 4 5 (by omega) (by omega) (by omega)), tl123 (ne 4 6 (by omega) (by omega) (by omega)), nI_1, n9 0, nI_add]
      rfl
    rw [if_neg (show ¬ nI 4 = 1 from ne 4 1 (by omega) (by omega) (by omega)), tl33 (ne 4 2 (by omega) (by omega) (by omega)), tl55 (ne 4 3 (by omega) (by omega) (by omega))]
    unfold fj_X8_tells_82_4
    rw [if_pos rfl, if_pos (show nI 4 = 4 from rfl), rest, ixb_nI hk (by omega), grd_t, cl_nI (by omega), nI_1, nI_1]
    unfold tpM
    rw [if_neg (show ¬ (4 : Nat) = 1 by omega), if_neg (show ¬ (4 : Nat) = 2 by omega), if_neg (show ¬ (4 : Nat) = 3 by omega), if_pos rfl]
    by_cases c1 : 0 ≤ M.1 2 0 k
    · rw [if_pos c1, if_pos (decide_eq_true c1)]
    · rw [if_neg c1, if_neg (by rw [decide_eq_false c1]; decide)]
      rfl
  · have rest : fj_X8_tells_123_4 kb ke (nI 5) (nI k) (nI c) M = kb (nI 5) (nI c) (nI (k + 1)) M := by
      rw [tl123 (ne 5 6 (by omega) (by omega) (by omega)), nI_1, n9 0, nI_add]
      rfl
    rw [if_neg (show ¬ nI 5 = 1 from ne 5 1 (by omega) (by omega) (by omega)), tl33 (ne 5 2 (by omega) (by omega) (by omega)), tl55 (ne 5 3 (by omega) (by omega) (by omega)), tl82 (ne 5 4 (by omega) (by omega) (by omega))]
    unfold fj_X8_tells_104_4
    rw [if_pos (show nI 5 = 5 from rfl), rest, n9 4, nI_ifle (by omega) (by omega), nI_1, nI_1]
    unfold tpM
    rw [if_neg (show ¬ (5 : Nat) = 1 by omega), if_neg (show ¬ (5 : Nat) = 2 by omega), if_neg (show ¬ (5 : Nat) = 3 by omega), if_neg (show ¬ (5 : Nat) = 4 by omega), if_pos rfl]
    by_cases c0 : 4 ≤ k
    · rw [if_pos c0, if_neg (by rw [decide_eq_false (by omega), Bool.false_and]; decide)]
      rfl
    · rw [if_neg c0, ixb_nI (by omega) (by omega), grd_t, cl_nI (by omega), decide_eq_true (show k < 4 by omega), Bool.true_and]
      by_cases c1 : 0 ≤ M.1 5 0 k
      · rw [if_pos c1, if_pos (decide_eq_true c1)]
      · rw [if_neg c1, if_neg (by rw [decide_eq_false c1]; decide)]
        rfl
  · rw [if_neg (show ¬ nI 6 = 1 from ne 6 1 (by omega) (by omega) (by omega)), tl33 (ne 6 2 (by omega) (by omega) (by omega)), tl55 (ne 6 3 (by omega) (by omega) (by omega)), tl82 (ne 6 4 (by omega) (by omega) (by omega)), tl104 (ne 6 5 (by omega) (by omega) (by omega))]
    unfold fj_X8_tells_123_4
    rw [if_pos (show nI 6 = 6 from rfl), n9 3, nI_ifle (by omega) (by omega), nI_1, nI_1, n9 0, nI_add, n9 38, pk_mul]
    unfold tpM
    rw [if_neg (show ¬ (6 : Nat) = 1 by omega), if_neg (show ¬ (6 : Nat) = 2 by omega), if_neg (show ¬ (6 : Nat) = 3 by omega), if_neg (show ¬ (6 : Nat) = 4 by omega), if_neg (show ¬ (6 : Nat) = 5 by omega), if_pos rfl]
    by_cases c0 : 3 ≤ k
    · rw [if_pos c0, if_neg (by rw [decide_eq_false (by omega), Bool.false_and]; decide)]
    · rw [if_neg c0, ixb_nI (by omega) (by omega), grd_t, cl_nI (by omega), decide_eq_true (show k < 3 by omega), Bool.true_and]
      by_cases c1 : M.1 14 0 (38 * k) = -9
      · rw [if_pos c1, if_neg (by rw [decide_eq_false (fun q => q c1)]; decide)]
      · rw [if_neg c1, if_pos (decide_eq_true c1)]
theorem tells_loop {M : Stt} {n : Nat} {Q : Nat → Nat → Nat} (hV : BkV n Q) (hB : BM M n Q) {w : Nat} (hw : w ≤ 6) (ke : Int32 → Int32 → Stt → Option (Int32 × Stt)) : ∀ (k i fuel : Nat), i + k = 6 → k < fuel → fl_X8_tells_4 ke fuel (nI w) (nI (cnt (tpM M n Q w) i)) (nI i) M = ke (nI w) (nI (cnt (tpM M n Q w) 6)) M := by
  intro k
  induction k with
  | zero =>
    intro i fuel h1 h2
    obtain ⟨g, rfl⟩ : ∃ g, fuel = g + 1 := ⟨fuel - 1, by omega⟩
    rw [fls_X8_tells_4]
    unfold fb_X8_tells_4
    rw [n9 6, if_pos (nI_le (by omega) (by omega)), show i = 6 by omega]
  | succ k ih =>
    intro i fuel h1 h2
    obtain ⟨g, rfl⟩ : ∃ g, fuel = g + 1 := ⟨fuel - 1, by omega⟩
    rw [fls_X8_tells_4, tells_step hV hB hw _ _ _ (by omega)]
    exact ih (i + 1) g (by omega) (by omega)
/-- what is told: pages, definitions, exceptions, pointers, rows, texts, kept books -/
def tlN (M : Stt) (n : Nat) (Q : Nat → Nat → Nat) (w : Nat) : Nat := if w = 0 then n else cnt (tpM M n Q w) 6
theorem tells_eq {M : Stt} {n : Nat} {Q : Nat → Nat → Nat} (hV : BkV n Q) (hB : BM M n Q) {w : Nat} (hw : w ≤ 6) : f_X8_tells (nI w) M = some (nI (tlN M n Q w), M) := by
  refine (tells_loop hV hB hw _ 6 0 300 (by omega) (by omega)).trans ?_
  unfold tlN
  rw [n9 0, nI_if (by omega) (by omega)]
  by_cases c : w = 0
  · rw [if_pos c, if_pos c, hB.1]
  · rw [if_neg c, if_neg c]
theorem countOf_loop {S : Stt} {b n : Nat} {Q : Nat → Nat → Nat} (hV : BkV n Q) (hB : BC S b n Q) {j : Nat} (hj : j ≤ 5) : ∀ (k i fuel : Nat), i + k = n → k < fuel → fl_X0_countOf_4 (fun x2 S => some (x2, S)) fuel b (nI j) (nI (cnt (fun i => isk (Q 0 i) j) i)) (nI i) S = some (nI (cnt (fun i => isk (Q 0 i) j) n), S) := by
  have hn := hV.1
  intro k
  induction k with
  | zero =>
    intro i fuel h1 h2
    obtain ⟨g, rfl⟩ : ∃ g, fuel = g + 1 := ⟨fuel - 1, by omega⟩
    rw [fls_X0_countOf_4]
    unfold fb_X0_countOf_4
    rw [hB.1, nI_ifle (by omega) (by omega), if_pos (by omega), show i = n by omega]
  | succ k ih =>
    intro i fuel h1 h2
    obtain ⟨g, rfl⟩ : ∃ g, fuel = g + 1 := ⟨fuel - 1, by omega⟩
    have ih2 := ih (i + 1) g (by omega) (by omega)
    rw [cnt] at ih2
    rw [fls_X0_countOf_4]
    unfold fb_X0_countOf_4
    rw [hB.1, nI_ifle (by omega) (by omega), if_neg (by omega), ixb_nI (show i < 6 by omega) (by omega), grd_t, cl_nI (by omega), isOf_any (hB.2 i (by omega)).1 (hV.2 i (by omega)).1 hj, obind, if_b2i, nI_1, nI_1]
    by_cases c : isk (Q 0 i) j = true
    · rw [if_pos c] at ih2 ⊢
      exact ih2
    · rw [if_neg c] at ih2 ⊢
      exact ih2
theorem countOf_eq {S : Stt} {b n : Nat} {Q : Nat → Nat → Nat} (hV : BkV n Q) (hB : BC S b n Q) {j : Nat} (hj : j ≤ 5) : f_X0_countOf b (nI j) S = some (nI (cnt (fun i => isk (Q 0 i) j) n), S) := countOf_loop hV hB hj n 0 300 (by omega) (by have := hV.1; omega)
theorem there_loop {S : Stt} {z : Nat} : ∀ (k i fuel : Nat), i + k = shl z → k < fuel → fl_X6_countThere_4 (fun x1 S => some (x1, S)) fuel z (nI (cnt (fun r => decide (¬ S.1 19 z r = -1)) i)) (nI i) S = some (nI (cnt (fun r => decide (¬ S.1 19 z r = -1)) (shl z)), S) := by
  have hz := shl_le z
  intro k
  induction k with
  | zero =>
    intro i fuel h1 h2
    obtain ⟨g, rfl⟩ : ∃ g, fuel = g + 1 := ⟨fuel - 1, by omega⟩
    rw [fls_X6_countThere_4]
    unfold fb_X6_countThere_4
    show (if nI (shl z) ≤ nI i then _ else _) = _
    rw [nI_ifle (by omega) (by omega), if_pos (by omega), show i = shl z by omega]
  | succ k ih =>
    intro i fuel h1 h2
    obtain ⟨g, rfl⟩ : ∃ g, fuel = g + 1 := ⟨fuel - 1, by omega⟩
    have ih2 := ih (i + 1) g (by omega) (by omega)
    rw [cnt] at ih2
    rw [fls_X6_countThere_4]
    unfold fb_X6_countThere_4
    show (if nI (shl z) ≤ nI i then _ else _) = _
    rw [nI_ifle (by omega) (by omega), if_neg (by omega), isThere_eq (by omega), obind, nI_1, nI_1]
    by_cases c : S.1 19 z i = -1
    · rw [if_neg (by rw [decide_eq_false (fun q => q c)]; decide)] at ih2
      rw [if_pos c, if_pos rfl]
      exact ih2
    · rw [if_pos (decide_eq_true c)] at ih2
      rw [if_neg c, if_neg n10]
      exact ih2
theorem there_eq (S : Stt) (z : Nat) : f_X6_countThere z S = some (nI (cnt (fun r => decide (¬ S.1 19 z r = -1)) (shl z)), S) := there_loop (shl z) 0 300 (by omega) (by have := shl_le z; omega)
theorem kept_loop {S : Stt} : ∀ (k i fuel : Nat), i + k = 3 → k < fuel → fl_X7_keptBooks_4 (fun x1 S => some (x1, S)) fuel (nI (cnt (fun k => decide (¬ S.1 17 (2 + k) 0 ≤ 0)) i)) (nI i) S = some (nI (cnt (fun k => decide (¬ S.1 17 (2 + k) 0 ≤ 0)) 3), S) := by
  intro k
  induction k with
  | zero =>
    intro i fuel h1 h2
    obtain ⟨g, rfl⟩ : ∃ g, fuel = g + 1 := ⟨fuel - 1, by omega⟩
    rw [fls_X7_keptBooks_4]
    unfold fb_X7_keptBooks_4
    rw [n9 3, nI_ifle (by omega) (by omega), if_pos (by omega), show i = 3 by omega]
  | succ k ih =>
    intro i fuel h1 h2
    obtain ⟨g, rfl⟩ : ∃ g, fuel = g + 1 := ⟨fuel - 1, by omega⟩
    have ih2 := ih (i + 1) g (by omega) (by omega)
    rw [cnt] at ih2
    rw [fls_X7_keptBooks_4]
    unfold fb_X7_keptBooks_4
    rw [n9 3, nI_ifle (by omega) (by omega), if_neg (by omega), ixb_nI (by omega) (by omega), grd_t, cl_nI (by omega), nI_1, nI_1]
    by_cases c : S.1 17 (2 + i) 0 ≤ 0
    · rw [if_neg (by rw [decide_eq_false (fun q => q c)]; decide)] at ih2
      rw [if_pos c]
      exact ih2
    · rw [if_pos (decide_eq_true c)] at ih2
      rw [if_neg c]
      exact ih2
theorem kept_eq (S : Stt) : f_X7_keptBooks S = some (nI (cnt (fun k => decide (¬ S.1 17 (2 + k) 0 ≤ 0)) 3), S) := kept_loop 3 0 300 (by omega) (by omega)
theorem count_C {S M : Stt} (h : Rel S M) {n : Nat} {Q : Nat → Nat → Nat} (hV : BkV n Q) (hB : BC S 0 n Q) {w : Nat} (hw : w ≤ 6) : f_X7_count (nI w) S = some (nI (tlN M n Q w), S) := by
  have hn := hV.1
  have cut : ∀ p : Nat → Bool, cnt (fun k => decide (k < n) && p k) 6 = cnt p n := fun p => by
    have := cnt_cut (p := p) (n := n) (6 - n)
    rw [show n + (6 - n) = 6 by omega] at this
    exact this
  unfold f_X7_count
  rcases (show w = 0 ∨ w = 1 ∨ w = 2 ∨ w = 3 ∨ w = 4 ∨ w = 5 ∨ w = 6 by omega) with rfl | rfl | rfl | rfl | rfl | rfl | rfl
  · rw [if_pos (show nI 0 = 0 from rfl), hB.1]
    rfl
  · have e : tlN M n Q 1 = cnt (fun i => isk (Q 0 i) 3) n := cut _
    rw [e]
    show ((f_X0_countOf 0 (nI 3) S).bind _) = _
    rw [countOf_eq hV hB (by omega), obind]
  · have e : tlN M n Q 2 = cnt (fun i => isk (Q 0 i) 1) n := cut _
    rw [e]
    show ((f_X0_countOf 0 (nI 1) S).bind _) = _
    rw [countOf_eq hV hB (by omega), obind]
  · have e : tlN M n Q 3 = cnt (fun i => isk (Q 0 i) 2) n := cut _
    rw [e]
    show ((f_X0_countOf 0 (nI 2) S).bind _) = _
    rw [countOf_eq hV hB (by omega), obind]
  · have e : tlN M n Q 4 = cnt (fun r => decide (¬ S.1 19 0 r = -1)) 6 := by
      refine cnt_congr 6 (fun r hr => ?_)
      show decide (0 ≤ M.1 2 0 r) = _
      rcases h.2.1 r hr with ⟨y1, y2⟩ | ⟨k, y1, y2, y3, -⟩
      · rw [y1, y2]; rfl
      · rw [y2, y3, decide_eq_true (nI_pos' (by omega)), decide_eq_true (nI_ne_neg (by omega) neg1)]
    rw [e]
    show ((f_X6_countThere 0 S).bind _) = _
    rw [there_eq, obind]
    rfl
  · have e : tlN M n Q 5 = cnt (fun r => decide (¬ S.1 19 1 r = -1)) 4 := by
      have e1 : tlN M n Q 5 = cnt (fun k => decide (0 ≤ M.1 5 0 k)) 4 := cnt_cut (p := fun k => decide (0 ≤ M.1 5 0 k)) (n := 4) 2
      rw [e1]
      refine cnt_congr 4 (fun r hr => ?_)
      rcases h.2.2.1 r hr with ⟨y1, y2⟩ | ⟨k, y1, y2, y3, -⟩
      · rw [y1, y2]; rfl
      · rw [y2, y3, decide_eq_true (nI_pos' (by omega)), decide_eq_true (nI_ne_neg (by omega) neg1)]
    rw [e]
    show ((f_X6_countThere 1 S).bind _) = _
    rw [there_eq, obind]
    rfl
  · have e : tlN M n Q 6 = cnt (fun k => decide (¬ S.1 17 (2 + k) 0 ≤ 0)) 3 := by
      have e1 : tlN M n Q 6 = cnt (fun k => decide (¬ M.1 14 0 (38 * k) = -9)) 3 := cnt_cut (p := fun k => decide (¬ M.1 14 0 (38 * k) = -9)) (n := 3) 3
      rw [e1]
      refine cnt_congr 3 (fun k hk => ?_)
      rcases h.2.2.2.2.2.1 k hk with ⟨y1, y2⟩ | ⟨n', Q', y0, y1, y2, y3, y4, y5, -⟩
      · rw [y1, y2]; rfl
      · have := y1.1
        rw [y2.1, y5, decide_eq_true (nI_ne_neg (by omega) neg9), decide_eq_true (nI_nle y0 (by omega))]
    rw [e]
    show ((f_X7_keptBooks S).bind _) = _
    rw [kept_eq, obind]
theorem sim_count (x1 : Int32) : SimI (f_X7_count x1) (f_X8_count x1) := by
  intro S M h
  obtain ⟨n, Q, hV, hB, hR, hM, hDP, hL, hr⟩ := h.bk
  rcases ixle x1 (k := 6) (by omega) with ⟨b1, b2⟩ | ⟨w, hw, rfl, b1, b2, b3⟩
  · refine ⟨-1, S, M, ?_, ?_, h⟩
    · have ne : ∀ k : Nat, k ≤ 6 → ¬ x1 = nI k := fun k hk q => b1 (by rw [q]; exact ⟨nI_pos' (by omega), nI_le hk (by omega)⟩)
      unfold f_X7_count
      rw [if_neg (show ¬ x1 = 0 from ne 0 (by omega)), if_neg (show ¬ x1 = 1 from ne 1 (by omega)), if_neg (show ¬ x1 = 2 from ne 2 (by omega)), if_neg (show ¬ x1 = 3 from ne 3 (by omega)), if_neg (show ¬ x1 = 4 from ne 4 (by omega)), if_neg (show ¬ x1 = 5 from ne 5 (by omega)), if_neg (show ¬ x1 = 6 from ne 6 (by omega))]
    · unfold f_X8_count
      rw [in_no (b := 6) b1, obind, if_pos rfl]
  · refine ⟨nI (tlN M n Q w), S, M, count_C h hV hB hw, ?_, h⟩
    unfold f_X8_count
    rw [in_yes (b := 6) b3, obind, if_neg n10, tells_eq hV hM hw, obind]
