theorem fb_holes : ∀ (m n : Nat) (f : Nat → Nat), (∀ i, i < n → f i < m) → (∀ i j, i < j → j < n → f i ≠ f j) → n ≤ m := by
  intro m
  induction m with
  | zero =>
    intro n f h1 _
    rcases Nat.eq_zero_or_pos n with h | h
    · omega
    · exact absurd (h1 0 h) (Nat.not_lt_zero _)
  | succ m ih =>
    intro n f h1 h2
    by_cases hx : ∃ i, i < n ∧ f i = m
    · obtain ⟨a, ha, hfa⟩ := hx
      have hg := ih (n - 1) (fun i => if i < a then f i else f (i + 1)) (by
        intro i hi
        by_cases q : i < a
        · simp only [if_pos q]
          have b1 := h1 i (by omega)
          have b2 := h2 i a q ha
          omega
        · simp only [if_neg q]
          have b1 := h1 (i + 1) (by omega)
          have b2 := h2 a (i + 1) (by omega) (by omega)
          omega) (by
        intro i j hij hj
        by_cases q : i < a
        · by_cases r : j < a
          · simp only [if_pos q, if_pos r]
            exact h2 i j hij (by omega)
          · simp only [if_pos q, if_neg r]
            exact h2 i (j + 1) (by omega) (by omega)
        · have r : ¬ j < a := by omega
          simp only [if_neg q, if_neg r]
          exact h2 (i + 1) (j + 1) (by omega) (by omega))
      omega
    · have hg := ih n f (fun i hi => by
        have b1 := h1 i hi
        have b2 : f i ≠ m := fun e => hx ⟨i, hi, e⟩
        omega) h2
      omega
/-- two of them in one place -/
theorem fb_twice {m n : Nat} {f : Nat → Nat} (h : ∀ i, i < n → f i < m) (hm : m < n) : ∃ i j, i < j ∧ j < n ∧ f i = f j := by
  refine Classical.byContradiction fun hx => ?_
  have := fb_holes m n f h (fun i j hij hj e => hx ⟨i, j, hij, hj, e⟩)
  omega
/-- as many as places, none twice: each place is taken -/
theorem fb_onto {n : Nat} {f : Nat → Nat} (h : ∀ i, i < n → f i < n) (h2 : ∀ i j, i < j → j < n → f i ≠ f j) {y : Nat} (hy : y < n) : ∃ i, i < n ∧ f i = y := by
  refine Classical.byContradiction fun hx => ?_
  have hne : ∀ i, i < n → f i ≠ y := fun i hi e => hx ⟨i, hi, e⟩
  have := fb_holes (n - 1) n (fun i => if f i < y then f i else f i - 1) (by
    intro i hi
    have b1 := h i hi
    have b2 := hne i hi
    by_cases q : f i < y
    · simp only [if_pos q]; omega
    · simp only [if_neg q]; omega) (by
    intro i j hij hj
    have b1 := hne i (by omega)
    have b2 := hne j hj
    have b3 := h2 i j hij hj
    by_cases q : f i < y
    · by_cases r : f j < y
      · simp only [if_pos q, if_pos r]; exact b3
      · simp only [if_pos q, if_neg r]; omega
    · by_cases r : f j < y
      · simp only [if_neg q, if_pos r]; omega
      · simp only [if_neg q, if_neg r]; omega)
  omega
/-! the walk along pointers: as many steps as there are pages are enough -/
def wk (Q : Nat → Nat → Nat) (i : Nat) : Nat → Nat
  | 0 => i
  | j + 1 => Q 1 (wk Q i j)
theorem wk_succ (Q : Nat → Nat → Nat) (i : Nat) : ∀ j, wk Q (Q 1 i) j = wk Q i (j + 1)
  | 0 => rfl
  | j + 1 => by
    show Q 1 (wk Q (Q 1 i) j) = Q 1 (wk Q i (j + 1))
    rw [wk_succ Q i j]
theorem wk_add (Q : Nat → Nat → Nat) (i a b : Nat) (h : wk Q i a = wk Q i b) : ∀ t, wk Q i (a + t) = wk Q i (b + t)
  | 0 => h
  | t + 1 => by
    show Q 1 (wk Q i (a + t)) = Q 1 (wk Q i (b + t))
    rw [wk_add Q i a b h t]
/-- page x stands open on day d: it is one, it is not left out, it is read, it isn't struck yet -/
def opn (Q : Nat → Nat → Nat) (n lo d x : Nat) : Prop := ¬ (n ≤ x ∨ x = lo) ∧ ¬ (Q 0 x ≠ 5 ∧ d < Q 5 x) ∧ ¬ (Q 0 x = 4 ∧ Q 5 x + 2 < d)
theorem hs_iff (Q : Nat → Nat → Nat) (n lo d : Nat) : ∀ k i, hsF Q n lo k i d = true ↔ ∃ m, m < k ∧ (∀ j, j < m → opn Q n lo d (wk Q i j) ∧ (Q 0 (wk Q i j) = 2 ∨ Q 0 (wk Q i j) = 5)) ∧ opn Q n lo d (wk Q i m) ∧ ¬ (Q 0 (wk Q i m) = 2 ∨ Q 0 (wk Q i m) = 5) := by
  intro k
  induction k with
  | zero =>
    intro i
    constructor
    · intro h; cases h
    · rintro ⟨m, h, -⟩; omega
  | succ k ih =>
    intro i
    by_cases ho : opn Q n lo d i
    · have e : hsF Q n lo (k + 1) i d = if Q 0 i = 2 ∨ Q 0 i = 5 then hsF Q n lo k (Q 1 i) d else true := by
        rw [hsF, if_neg ho.1, if_neg ho.2.1, if_neg ho.2.2]
      rw [e]
      by_cases c : Q 0 i = 2 ∨ Q 0 i = 5
      · rw [if_pos c, ih (Q 1 i)]
        constructor
        · rintro ⟨m, h1, h2, h3⟩
          refine ⟨m + 1, by omega, fun j hj => ?_, ?_⟩
          · cases j with
            | zero => exact ⟨ho, c⟩
            | succ j => rw [← wk_succ]; exact h2 j (by omega)
          · rw [← wk_succ]; exact h3
        · rintro ⟨m, h1, h2, h3⟩
          cases m with
          | zero => exact absurd c h3.2
          | succ m =>
            refine ⟨m, by omega, fun j hj => ?_, ?_⟩
            · rw [wk_succ]; exact h2 (j + 1) (by omega)
            · rw [wk_succ]; exact h3
      · rw [if_neg c]
        exact ⟨fun _ => ⟨0, by omega, fun j hj => absurd hj (Nat.not_lt_zero j), ho, c⟩, fun _ => rfl⟩
    · have e : hsF Q n lo (k + 1) i d = false := by
        rw [hsF]
        by_cases c1 : n ≤ i ∨ i = lo
        · rw [if_pos c1]
        · rw [if_neg c1]
          by_cases c2 : Q 0 i ≠ 5 ∧ d < Q 5 i
          · rw [if_pos c2]
          · rw [if_neg c2]
            by_cases c3 : Q 0 i = 4 ∧ Q 5 i + 2 < d
            · rw [if_pos c3]
            · exact absurd ⟨c1, c2, c3⟩ ho
      rw [e]
      constructor
      · intro h; cases h
      · rintro ⟨m, h1, h2, h3⟩
        cases m with
        | zero => exact absurd h3.1 ho
        | succ m => exact absurd (h2 0 (by omega)).1 ho
theorem hs_stay (Q : Nat → Nat → Nat) (n lo d i : Nat) : hsF Q n lo (n + 1) i d = hsF Q n lo n i d := by
  have key : hsF Q n lo (n + 1) i d = true ↔ hsF Q n lo n i d = true := by
    rw [hs_iff, hs_iff]
    constructor
    · rintro ⟨m, h1, h2, h3⟩
      rcases Nat.lt_or_ge m n with c | c
      · exact ⟨m, c, h2, h3⟩
      · exfalso
        have em : m = n := by omega
        subst em
        have hlt : ∀ j, j < m + 1 → wk Q i j < m := by
          intro j hj
          have ho : opn Q m lo d (wk Q i j) := by
            rcases Nat.lt_or_ge j m with q | q
            · exact (h2 j q).1
            · rw [show j = m by omega]; exact h3.1
          have := ho.1
          omega
        obtain ⟨a, b, hab, hb, e⟩ := fb_twice hlt (by omega)
        have e2 := wk_add Q i a b e (m - b)
        rw [show b + (m - b) = m by omega] at e2
        have h4 := (h2 (a + (m - b)) (by omega)).2
        rw [e2] at h4
        exact h3.2 h4
    · rintro ⟨m, h1, h2, h3⟩
      exact ⟨m, by omega, h2, h3⟩
  cases h1 : hsF Q n lo (n + 1) i d <;> cases h2 : hsF Q n lo n i d <;> simp_all
/-- does page i bind on day d -/
def bnd (Q : Nat → Nat → Nat) (n lo d i : Nat) : Bool := hsF Q n lo n i d
theorem bnd_lo {Q : Nat → Nat → Nat} {n d i : Nat} (lo : Nat) (h : n ≤ lo) : ∀ k i, hsF Q n lo k i d = hsF Q n n k i d := by
  intro k
  induction k with
  | zero => intro i; rfl
  | succ k ih =>
    intro i
    rw [hsF, hsF, ih]
    by_cases c : n ≤ i
    · rw [if_pos (Or.inl c), if_pos (Or.inl c)]
    · rw [if_neg (show ¬ (n ≤ i ∨ i = lo) by omega), if_neg (show ¬ (n ≤ i ∨ i = n) by omega)]
theorem bnd_lt {Q : Nat → Nat → Nat} {n lo d i : Nat} (h : bnd Q n lo d i = true) : i < n ∧ i ≠ lo := by
  unfold bnd at h
  rw [hs_iff] at h
  obtain ⟨m, h1, h2, h3⟩ := h
  have : opn Q n lo d i := by
    cases m with
    | zero => exact h3.1
    | succ m => exact (h2 0 (by omega)).1
  have := this.1
  omega
/-- sets as the bits of an int -/
def bits (p : Nat → Bool) : Nat → Int32
  | 0 => 0
  | k + 1 => bits p k ||| (if p k = true then (1 : Int32) <<< (nI k &&& 31) else 0)
theorem or0 (x : Int32) : x ||| 0 = x := by simp
theorem bound_loop {S : Stt} {b n : Nat} {Q : Nat → Nat → Nat} (hV : BkV n Q) (hB : BC S b n Q) {d : Nat} (hd : d < 2 ^ 30) : ∀ (k i fuel : Nat), i + k = n → k < fuel → fl_X0_bound_4 (fun x2 S => some (x2, S)) fuel b (nI d) (bits (bnd Q n n d) i) (nI i) S = some (bits (bnd Q n n d) n, S) := by
  have hn := hV.1
  intro k
  induction k with
  | zero =>
    intro i fuel h1 h2
    obtain ⟨g, rfl⟩ : ∃ g, fuel = g + 1 := ⟨fuel - 1, by omega⟩
    rw [fls_X0_bound_4]
    unfold fb_X0_bound_4
    rw [hB.1, nI_ifle (by omega) (by omega), if_pos (by omega), show i = n by omega]
  | succ k ih =>
    intro i fuel h1 h2
    obtain ⟨g, rfl⟩ : ∃ g, fuel = g + 1 := ⟨fuel - 1, by omega⟩
    have ih2 := ih (i + 1) g (by omega) (by omega)
    rw [fls_X0_bound_4]
    unfold fb_X0_bound_4
    rw [hB.1, nI_ifle (by omega) (by omega), if_neg (by omega), holds_eq hV hB hd (by omega), obind, if_b2i]
    rw [bits] at ih2
    show (if bnd Q n n d i = true then _ else _) = _
    by_cases c : bnd Q n n d i = true
    · rw [if_pos c] at ih2 ⊢
      rw [nI_1]
      exact ih2
    · rw [if_neg c, or0] at ih2
      rw [if_neg c, nI_1]
      exact ih2
theorem bound_eq {S : Stt} {b n : Nat} {Q : Nat → Nat → Nat} (hV : BkV n Q) (hB : BC S b n Q) {d : Nat} (hd : d < 2 ^ 30) : f_X0_bound b (nI d) S = some (bits (bnd Q n n d) n, S) := by
  have hn := hV.1
  exact bound_loop hV hB hd n 0 300 (by omega) (by omega)
theorem bindSet_loop {M : Stt} {n lo : Nat} {Q : Nat → Nat → Nat} (hV : BkV n Q) (hB : BM M n Q) (hL : LoR M n lo) {d : Nat} (hd : d < 2 ^ 30) : ∀ (k i fuel : Nat), i + k = n → k < fuel → fl_X8_bindSet_4 (fun x2 S => some (x2, S)) fuel (nI d) (bits (bnd Q n lo d) i) (nI i) M = some (bits (bnd Q n lo d) n, M) := by
  have hn := hV.1
  intro k
  induction k with
  | zero =>
    intro i fuel h1 h2
    obtain ⟨g, rfl⟩ : ∃ g, fuel = g + 1 := ⟨fuel - 1, by omega⟩
    rw [fls_X8_bindSet_4]
    unfold fb_X8_bindSet_4
    rw [hB.1, nI_ifle (by omega) (by omega), if_pos (by omega), show i = n by omega]
  | succ k ih =>
    intro i fuel h1 h2
    obtain ⟨g, rfl⟩ : ∃ g, fuel = g + 1 := ⟨fuel - 1, by omega⟩
    have ih2 := ih (i + 1) g (by omega) (by omega)
    rw [fls_X8_bindSet_4]
    unfold fb_X8_bindSet_4
    rw [hB.1, nI_ifle (by omega) (by omega), if_neg (by omega), doesBind_eq hV hB hL hd (by omega), obind, if_b2i, hs_stay]
    rw [bits] at ih2
    show (if bnd Q n lo d i = true then _ else _) = _
    by_cases c : bnd Q n lo d i = true
    · rw [if_pos c] at ih2 ⊢
      rw [nI_1]
      exact ih2
    · rw [if_neg c] at ih2 ⊢
      rw [nI_1]
      exact ih2
theorem bindSet_eq {M : Stt} {n lo : Nat} {Q : Nat → Nat → Nat} (hV : BkV n Q) (hB : BM M n Q) (hL : LoR M n lo) {d : Nat} (hd : d < 2 ^ 30) : f_X8_bindSet (nI d) M = some (bits (bnd Q n lo d) n, M) := by
  have hn := hV.1
  exact bindSet_loop hV hB hL hd n 0 300 (by omega) (by omega)
