/-! never, judge, mark, read -/
theorem in_no {x a b : Int32} (h : ¬ (a ≤ x ∧ x ≤ b)) (M : Stt) : f_X8_in x a b M = some (0, M) := by rw [in_eq, if_neg h]
theorem in_yes {x a b : Int32} (h : a ≤ x ∧ x ≤ b) (M : Stt) : f_X8_in x a b M = some (1, M) := by rw [in_eq, if_pos h]
/-- the first day from d on, of k days, on which p is so -/
def fdF (p : Nat → Bool) : Nat → Nat → Int32
  | 0, _ => -9
  | k + 1, d => if p d = true then nI d else fdF p k (d + 1)
def exF (p : Nat → Bool) : Nat → Nat → Bool
  | 0, _ => false
  | k + 1, d => p d || exF p k (d + 1)
theorem fd_ex (p : Nat → Bool) : ∀ k d, d + k < 2 ^ 31 → (fdF p k d = -9 ↔ exF p k d = false) := by
  intro k
  induction k with
  | zero => intro d _; exact ⟨fun _ => rfl, fun _ => rfl⟩
  | succ k ih =>
    intro d hd
    rw [fdF, exF]
    by_cases c : p d = true
    · rw [if_pos c, c]
      exact ⟨fun q => absurd q (nI_ne_neg (by omega) neg9), fun q => by cases q⟩
    · rw [if_neg c, ih (d + 1) (by omega), Bool.eq_false_iff.mpr c, Bool.false_or]
theorem firstDay_loop {S : Stt} {b n : Nat} {Q : Nat → Nat → Nat} (hV : BkV n Q) (hB : BC S b n Q) {i : Nat} (hi : i < n) : ∀ (k d fuel : Nat), d + k = 21 → k < fuel → fl_X0_firstDayOf_2 (fun S => some ((-9 : Int32), S)) fuel b (nI i) (nI d) S = some (fdF (fun d => bnd Q n n d i) k d, S) := by
  have hn := hV.1
  intro k
  induction k with
  | zero =>
    intro d fuel h1 h2
    obtain ⟨g, rfl⟩ : ∃ g, fuel = g + 1 := ⟨fuel - 1, by omega⟩
    rw [fls_X0_firstDayOf_2]
    unfold fb_X0_firstDayOf_2
    rw [n9 20, nI_iflt (by omega) (by omega), if_pos (by omega)]
    rfl
  | succ k ih =>
    intro d fuel h1 h2
    obtain ⟨g, rfl⟩ : ∃ g, fuel = g + 1 := ⟨fuel - 1, by omega⟩
    rw [fls_X0_firstDayOf_2]
    unfold fb_X0_firstDayOf_2
    rw [n9 20, nI_iflt (by omega) (by omega), if_neg (by omega), holds_eq hV hB (by omega) (by omega), obind, if_b2i, nI_1, ih (d + 1) g (by omega) (by omega)]
    show (if bnd Q n n d i = true then _ else _) = _
    rw [fdF]
    by_cases c : bnd Q n n d i = true
    · rw [if_pos c, if_pos c]
    · rw [if_neg c, if_neg c]
theorem firstDay_eq {S : Stt} {b n : Nat} {Q : Nat → Nat → Nat} (hV : BkV n Q) (hB : BC S b n Q) {i : Nat} (hi : i < n) : f_X0_firstDayOf b (nI i) S = some (fdF (fun d => bnd Q n n d i) 21 0, S) := firstDay_loop hV hB hi 21 0 300 (by omega) (by omega)
/-! rings -/
def rgF (Q : Nat → Nat → Nat) (n i : Nat) : Nat → Nat → Bool
  | 0, _ => false
  | k + 1, at' => if n ≤ at' then false else if Q 0 at' = 2 ∨ Q 0 at' = 5 then (if Q 1 at' = i then true else rgF Q n i k (Q 1 at')) else false
theorem rg_iff (Q : Nat → Nat → Nat) (n i : Nat) : ∀ k x, rgF Q n i k x = true ↔ ∃ m, m < k ∧ (∀ j, j ≤ m → wk Q x j < n ∧ (Q 0 (wk Q x j) = 2 ∨ Q 0 (wk Q x j) = 5)) ∧ wk Q x (m + 1) = i := by
  intro k
  induction k with
  | zero =>
    intro x
    exact ⟨fun h => (by cases h), fun ⟨m, h, _⟩ => absurd h (by omega)⟩
  | succ k ih =>
    intro x
    rw [rgF]
    by_cases c1 : n ≤ x
    · rw [if_pos c1]
      refine ⟨fun h => (by cases h), fun ⟨m, h1, h2, h3⟩ => ?_⟩
      have := (h2 0 (by omega)).1
      have : x < n := this
      omega
    rw [if_neg c1]
    by_cases c2 : Q 0 x = 2 ∨ Q 0 x = 5
    · rw [if_pos c2]
      by_cases c3 : Q 1 x = i
      · rw [if_pos c3]
        refine ⟨fun _ => ⟨0, by omega, fun j hj => ?_, c3⟩, fun _ => rfl⟩
        rw [show j = 0 by omega]
        exact ⟨by show x < n; omega, c2⟩
      · rw [if_neg c3, ih]
        constructor
        · rintro ⟨m, h1, h2, h3⟩
          refine ⟨m + 1, by omega, fun j hj => ?_, ?_⟩
          · cases j with
            | zero => exact ⟨by show x < n; omega, c2⟩
            | succ j => rw [← wk_succ]; exact h2 j (by omega)
          · rw [← wk_succ]; exact h3
        · rintro ⟨m, h1, h2, h3⟩
          cases m with
          | zero => exact absurd h3 c3
          | succ m =>
            refine ⟨m, by omega, fun j hj => ?_, ?_⟩
            · rw [wk_succ]; exact h2 (j + 1) (by omega)
            · rw [wk_succ]; exact h3
    · rw [if_neg c2]
      refine ⟨fun h => (by cases h), fun ⟨m, h1, h2, h3⟩ => absurd (h2 0 (by omega)).2 c2⟩
theorem rg_stay (Q : Nat → Nat → Nat) {n : Nat} (hn : n ≤ 6) (i : Nat) : rgF Q n i 6 i = rgF Q n i n i := by
  have key : rgF Q n i 6 i = true ↔ rgF Q n i n i = true := by
    rw [rg_iff, rg_iff]
    constructor
    · intro h
      obtain ⟨m, ⟨h1, h2, h3⟩, hmin⟩ := pk_least (fun m => m < 6 ∧ (∀ j, j ≤ m → wk Q i j < n ∧ (Q 0 (wk Q i j) = 2 ∨ Q 0 (wk Q i j) = 5)) ∧ wk Q i (m + 1) = i) h
      have hx := fb_holes n (m + 1) (fun j => wk Q i j) (fun j hj => (h2 j (by omega)).1) (fun a b hab hb e => by
        have e2 := wk_add Q i a b e (m + 1 - b)
        rw [show b + (m + 1 - b) = m + 1 by omega, h3] at e2
        refine hmin (a + (m + 1 - b) - 1) (by omega) ⟨by omega, fun j hj => h2 j (by omega), ?_⟩
        rw [show a + (m + 1 - b) - 1 + 1 = a + (m + 1 - b) by omega]
        exact e2)
      exact ⟨m, by omega, h2, h3⟩
    · rintro ⟨m, h1, h2, h3⟩
      exact ⟨m, by omega, h2, h3⟩
  cases h1 : rgF Q n i 6 i <;> cases h2 : rgF Q n i n i <;> simp_all
theorem ring_loopC {S : Stt} {b n : Nat} {Q : Nat → Nat → Nat} (hV : BkV n Q) (hB : BC S b n Q) {i : Nat} (hi : i < n) : ∀ (k st fuel x : Nat), st + k = n → k < fuel → x < 2 ^ 30 → fl_X0_isInRing_4 (fun S => some ((0 : Int32), S)) fuel b (nI i) (nI x) (nI st) S = some (b2i (rgF Q n i k x), S) := by
  have hn := hV.1
  intro k
  induction k with
  | zero =>
    intro st fuel x h1 h2 hx
    obtain ⟨g, rfl⟩ : ∃ g, fuel = g + 1 := ⟨fuel - 1, by omega⟩
    rw [fls_X0_isInRing_4]
    unfold fb_X0_isInRing_4
    rw [hB.1, nI_ifle (by omega) (by omega), if_pos (by omega)]
    rfl
  | succ k ih =>
    intro st fuel x h1 h2 hx
    obtain ⟨g, rfl⟩ : ∃ g, fuel = g + 1 := ⟨fuel - 1, by omega⟩
    rw [fls_X0_isInRing_4]
    unfold fb_X0_isInRing_4
    rw [hB.1, nI_ifle (by omega) (by omega), if_neg (by omega), isOneB_eq hB.1 (by omega) (by omega), obind, if_b2i, rgF]
    by_cases c : x < n
    · obtain ⟨p0, p1, p2, p3, p4, p5, p6⟩ := hB.2 x c
      obtain ⟨v0, v1, v2, v3, v4, v5⟩ := hV.2 x c
      rw [if_pos (decide_eq_true c), if_neg (show ¬ n ≤ x by omega), ixb_nI (show x < 6 by omega) (by omega), grd_t, cl_nI (by omega)]
      dsimp only
      rw [isOf2_eq p0 v0, obind, if_b2i]
      by_cases c2 : Q 0 x = 2 ∨ Q 0 x = 5
      · have := v1 c2
        rw [if_pos (decide_eq_true c2), if_pos c2, grd_t]
        dsimp only
        rw [p1 c2, nI_if (by omega) (by omega)]
        by_cases c3 : Q 1 x = i
        · rw [if_pos c3, if_pos c3]; rfl
        · rw [if_neg c3, if_neg c3, nI_1]
          exact ih (st + 1) g (Q 1 x) (by omega) (by omega) (by omega)
      · rw [if_neg (by rw [decide_eq_false c2]; decide), if_neg c2]; rfl
    · rw [if_neg (by rw [decide_eq_false c]; decide), if_pos (show n ≤ x by omega)]
      rfl
theorem ring_loopM {M : Stt} {n : Nat} {Q : Nat → Nat → Nat} (hV : BkV n Q) (hB : BM M n Q) {i : Nat} (hi : i < n) : ∀ (k st fuel x : Nat), st + k = 6 → k < fuel → x < 2 ^ 30 → fl_X8_isInRing_4 (fun S => some ((0 : Int32), S)) fuel (nI i) (nI x) (nI st) M = some (b2i (rgF Q n i k x), M) := by
  have hn := hV.1
  intro k
  induction k with
  | zero =>
    intro st fuel x h1 h2 hx
    obtain ⟨g, rfl⟩ : ∃ g, fuel = g + 1 := ⟨fuel - 1, by omega⟩
    rw [fls_X8_isInRing_4]
    unfold fb_X8_isInRing_4
    rw [n9 6, nI_ifle (by omega) (by omega), if_pos (by omega)]
    rfl
  | succ k ih =>
    intro st fuel x h1 h2 hx
    obtain ⟨g, rfl⟩ : ∃ g, fuel = g + 1 := ⟨fuel - 1, by omega⟩
    rw [fls_X8_isInRing_4]
    unfold fb_X8_isInRing_4
    rw [n9 6, nI_ifle (by omega) (by omega), if_neg (by omega), isPage_eq hB.1 (by omega) hx, obind, if_b2i, rgF]
    by_cases c : x < n
    · obtain ⟨p0, p1, p2, p3, p4, p5⟩ := hB.2 x c
      obtain ⟨v0, v1, v2, v3, v4, v5⟩ := hV.2 x c
      rw [if_pos (decide_eq_true c), if_neg (show ¬ n ≤ x by omega), ixb_nI (show x < 6 by omega) (by omega), grd_t, cl_nI (by omega)]
      dsimp only
      rw [p0, doesPoint_eq (by omega), obind, if_b2i]
      by_cases c2 : Q 0 x = 2 ∨ Q 0 x = 5
      · have := v1 c2
        rw [if_pos (decide_eq_true c2), if_pos c2, grd_t]
        dsimp only
        rw [p1 c2, nI_if (by omega) (by omega)]
        by_cases c3 : Q 1 x = i
        · rw [if_pos c3, if_pos c3]; rfl
        · rw [if_neg c3, if_neg c3, nI_1]
          exact ih (st + 1) g (Q 1 x) (by omega) (by omega) (by omega)
      · rw [if_neg (by rw [decide_eq_false c2]; decide), if_neg c2]; rfl
    · rw [if_neg (by rw [decide_eq_false c]; decide), if_pos (show n ≤ x by omega)]
      rfl
/-- never binds; never binds and is in a ring -/
def nvP (Q : Nat → Nat → Nat) (n i : Nat) : Bool := !exF (fun d => bnd Q n n d i) 21 0
def nvR (Q : Nat → Nat → Nat) (n i : Nat) : Bool := nvP Q n i && rgF Q n i n i
theorem never_loopC {n : Nat} {Q : Nat → Nat → Nat} (hV : BkV n Q) {S : Stt} (hB : BC S 0 n Q) (ke : Int32 → Int32 → Stt → Option (Int32 × Stt)) : ∀ (k i fuel : Nat), i + k = n → k < fuel → fl_X7_never_6 ke fuel (bits (nvP Q n) i) (bits (nvR Q n) i) (nI i) S = ke (bits (nvP Q n) n) (bits (nvR Q n) n) S := by
  have hn := hV.1
  intro k
  induction k with
  | zero =>
    intro i fuel h1 h2
    obtain ⟨g, rfl⟩ : ∃ g, fuel = g + 1 := ⟨fuel - 1, by omega⟩
    rw [fls_X7_never_6]
    unfold fb_X7_never_6
    rw [hB.1, nI_ifle (by omega) (by omega), if_pos (by omega), show i = n by omega]
  | succ k ih =>
    intro i fuel h1 h2
    obtain ⟨g, rfl⟩ : ∃ g, fuel = g + 1 := ⟨fuel - 1, by omega⟩
    have ih2 := ih (i + 1) g (by omega) (by omega)
    rw [bits, bits] at ih2
    rw [fls_X7_never_6]
    unfold fb_X7_never_6
    rw [hB.1, nI_ifle (by omega) (by omega), if_neg (by omega), firstDay_eq hV hB (by omega), obind]
    dsimp only
    by_cases c : fdF (fun d => bnd Q n n d i) 21 0 = -9
    · have cp : nvP Q n i = true := by
        unfold nvP
        rw [(fd_ex _ 21 0 (by omega)).mp c]
        rfl
      have e : f_X0_isInRing 0 (nI i) S = some (b2i (rgF Q n i n i), S) := ring_loopC hV hB (show i < n by omega) n 0 300 i (by omega) (by omega) (by omega)
      rw [if_pos c, e, obind, if_b2i]
      dsimp only
      by_cases cr : rgF Q n i n i = true
      · have cq : nvR Q n i = true := by unfold nvR; rw [cp, cr]; rfl
        rw [if_pos cp, if_pos cq, ← nI_1] at ih2
        rw [if_pos cr]
        exact ih2
      · have cq : ¬ nvR Q n i = true := by unfold nvR; rw [cp, Bool.eq_false_iff.mpr cr]; decide
        rw [if_pos cp, if_neg cq, or0, ← nI_1] at ih2
        rw [if_neg cr]
        exact ih2
    · have cp : ¬ nvP Q n i = true := by
        unfold nvP
        intro q
        refine c ((fd_ex _ 21 0 (by omega)).mpr ?_)
        cases h : exF (fun d => bnd Q n n d i) 21 0
        · rfl
        · rw [h] at q; cases q
      have cq : ¬ nvR Q n i = true := by unfold nvR; rw [Bool.eq_false_iff.mpr cp, Bool.false_and]; decide
      rw [if_neg cp, if_neg cq, or0, or0, ← nI_1] at ih2
      rw [if_neg c]
      exact ih2
theorem neverI {n : Nat} {Q : Nat → Nat → Nat} (hV : BkV n Q) {M : Stt} (hB : BM M n Q) (hL : LoR M n n) {i : Nat} (hi : i < n) (x1 x2 : Int32) (ke : Int32 → Int32 → Int32 → Int32 → Stt → Option (Int32 × Stt)) : ∀ (k d fuel : Nat) (c : Bool), d + k = 21 → k < fuel → fl_X8_never_20 ke fuel x1 x2 (nI i) (b2i c) (nI d) M = ke x1 x2 (nI i) (b2i (c || exF (fun d => bnd Q n n d i) k d)) M := by
  have hn := hV.1
  intro k
  induction k with
  | zero =>
    intro d fuel c h1 h2
    obtain ⟨g, rfl⟩ : ∃ g, fuel = g + 1 := ⟨fuel - 1, by omega⟩
    rw [fls_X8_never_20]
    unfold fb_X8_never_20
    rw [n9 20, nI_iflt (by omega) (by omega), if_pos (by omega), exF, Bool.or_false]
  | succ k ih =>
    intro d fuel c h1 h2
    obtain ⟨g, rfl⟩ : ∃ g, fuel = g + 1 := ⟨fuel - 1, by omega⟩
    rw [fls_X8_never_20]
    unfold fb_X8_never_20
    rw [n9 20, nI_iflt (by omega) (by omega), if_neg (by omega), if_b2i, exF]
    cases c
    · rw [if_neg (by decide), doesBind_eq hV hB hL (by omega) (by omega), obind, if_b2i, hs_stay]
      show (if bnd Q n n d i = true then _ else _) = _
      rw [Bool.false_or]
      by_cases c2 : bnd Q n n d i = true
      · rw [if_pos c2, c2, nI_1]
        exact (ih (d + 1) g true (by omega) (by omega)).trans (by simp)
      · rw [if_neg c2, Bool.eq_false_iff.mpr c2, nI_1]
        exact (ih (d + 1) g false (by omega) (by omega)).trans (by simp)
    · rw [if_pos rfl, nI_1]
      exact (ih (d + 1) g true (by omega) (by omega)).trans (by simp)
theorem never_loopM {n : Nat} {Q : Nat → Nat → Nat} (hV : BkV n Q) {M : Stt} (hB : BM M n Q) (hL : LoR M n n) (ke : Int32 → Int32 → Stt → Option (Int32 × Stt)) : ∀ (k i fuel : Nat), i + k = n → k < fuel → fl_X8_never_6 ke fuel (bits (nvP Q n) i) (bits (nvR Q n) i) (nI i) M = ke (bits (nvP Q n) n) (bits (nvR Q n) n) M := by
  have hn := hV.1
  intro k
  induction k with
  | zero =>
    intro i fuel h1 h2
    obtain ⟨g, rfl⟩ : ∃ g, fuel = g + 1 := ⟨fuel - 1, by omega⟩
    rw [fls_X8_never_6]
    unfold fb_X8_never_6
    rw [hB.1, nI_ifle (by omega) (by omega), if_pos (by omega), show i = n by omega]
  | succ k ih =>
    intro i fuel h1 h2
    obtain ⟨g, rfl⟩ : ∃ g, fuel = g + 1 := ⟨fuel - 1, by omega⟩
    have ih2 := ih (i + 1) g (by omega) (by omega)
    rw [bits, bits] at ih2
    rw [fls_X8_never_6]
    unfold fb_X8_never_6
    rw [hB.1, nI_ifle (by omega) (by omega), if_neg (by omega)]
    refine (neverI hV hB hL (show i < n by omega) _ _ _ 21 0 300 false (by omega) (by omega)).trans ?_
    rw [Bool.false_or, if_b2i]
    unfold fj_X8_never_68_6
    rw [if_b2i, if_b2i]
    by_cases c : exF (fun d => bnd Q n n d i) 21 0 = true
    · have cp : ¬ nvP Q n i = true := by unfold nvP; rw [c]; decide
      have cq : ¬ nvR Q n i = true := by unfold nvR; rw [Bool.eq_false_iff.mpr cp, Bool.false_and]; decide
      rw [if_neg cp, if_neg cq, ← nI_1] at ih2
      rw [if_pos c, if_pos c]
      exact ih2
    · have cp : nvP Q n i = true := by unfold nvP; rw [Bool.eq_false_iff.mpr c]; rfl
      have e : f_X8_isInRing (nI i) M = some (b2i (rgF Q n i 6 i), M) := ring_loopM hV hB (show i < n by omega) 6 0 300 i (by omega) (by omega) (by omega)
      rw [if_neg c, if_neg c, e, obind, if_b2i, rg_stay Q hn]
      dsimp only
      by_cases cr : rgF Q n i n i = true
      · have cq : nvR Q n i = true := by unfold nvR; rw [cp, cr]; rfl
        rw [if_pos cp, if_pos cq, ← nI_1] at ih2
        rw [if_pos cr]
        exact ih2
      · have cq : ¬ nvR Q n i = true := by unfold nvR; rw [cp, Bool.eq_false_iff.mpr cr]; decide
        rw [if_pos cp, if_neg cq, ← nI_1] at ih2
        rw [if_neg cr]
        exact ih2
theorem sim_never : SimI f_X7_never f_X8_never := by
  intro S M h
  obtain ⟨n, Q, hV, hB, hR, hM, hDP, hL, hr⟩ := h.bk
  refine ⟨bits (nvP Q n) n, put S 62 0 0 (bits (nvR Q n) n), put M 0 2 0 (bits (nvR Q n) n), ?_, ?_, h.ask _⟩
  · exact never_loopC hV hB _ n 0 300 (by omega) (by have := hV.1; omega)
  · exact never_loopM hV hM hL _ n 0 300 (by omega) (by have := hV.1; omega)
/-! judge -/
theorem judgeOf_loop {S : Stt} {b n : Nat} {Q : Nat → Nat → Nat} (hV : BkV n Q) (hB : BC S b n Q) {ρ : Nat → Nat} (hρ : ∀ k, k < n → S.1 18 b k = nI (ρ k) ∧ ρ k < n) {d f5 f6 m : Nat} (h5 : f5 < 5) (h6 : f6 < 5) (hm : m < 32) : ∀ (k i fuel : Nat), i + k = n → k < fuel → (∀ j, j < i → fitB Q n n d f5 f6 m (ρ j) = false) → fl_X0_judgeOf_3 (fun S => some ((-9 : Int32), S)) fuel b (nI m) (bits (bnd Q n n d) n) (nI f5) (nI f6) (nI i) S = some (if ffr Q n n d f5 f6 m ρ n = 99 then -9 else nI (ffr Q n n d f5 f6 m ρ n), S) := by
  have hn := hV.1
  intro k
  induction k with
  | zero =>
    intro i fuel h1 h2 hp
    obtain ⟨g, rfl⟩ : ∃ g, fuel = g + 1 := ⟨fuel - 1, by omega⟩
    rw [fls_X0_judgeOf_3]
    unfold fb_X0_judgeOf_3
    rw [hB.1, nI_ifle (by omega) (by omega), if_pos (by omega)]
    rcases ffr_spec Q n n d f5 f6 m ρ (fun k hk => (hρ k hk).2) hn n (Nat.le_refl _) with ⟨q1, q2⟩ | ⟨j, q1, q2, q3, q4⟩
    · rw [if_pos q1]
    · rw [hp j (by omega)] at q3
      cases q3
  | succ k ih =>
    intro i fuel h1 h2 hp
    obtain ⟨g, rfl⟩ : ∃ g, fuel = g + 1 := ⟨fuel - 1, by omega⟩
    obtain ⟨r1, r2⟩ := hρ i (by omega)
    obtain ⟨x, y1, y2⟩ := casesThatFit_eq (hB.2 _ r2) (hV.2 _ r2) h5 h6
    rw [fls_X0_judgeOf_3]
    unfold fb_X0_judgeOf_3
    rw [hB.1, nI_ifle (by omega) (by omega), if_neg (by omega), ixb_nI (show i < 6 by omega) (by omega), grd_t, cl_nI (show i < 2 ^ 31 by omega), r1, hasBit_eq _ (by omega), obind, if_b2i, b_bits _ _ _ (by omega) (by omega), decide_eq_true r2, Bool.true_and, ixb_nI (show ρ i < 6 by omega) (by omega), grd_t, cl_nI (show ρ i < 2 ^ 31 by omega)]
    dsimp only
    rw [y1, obind, hasBit_eq _ hm, obind, if_b2i, y2 m hm, nI_1]
    have no : fitB Q n n d f5 f6 m (ρ i) = false → fl_X0_judgeOf_3 (fun S => some ((-9 : Int32), S)) g b (nI m) (bits (bnd Q n n d) n) (nI f5) (nI f6) (nI (i + 1)) S = some (if ffr Q n n d f5 f6 m ρ n = 99 then -9 else nI (ffr Q n n d f5 f6 m ρ n), S) := by
      intro hf
      refine ih (i + 1) g (by omega) (by omega) (fun j hj => ?_)
      by_cases c : j = i
      · rw [c]; exact hf
      · exact hp j (by omega)
    by_cases c1 : bnd Q n n d (ρ i) = true
    · rw [if_pos c1]
      by_cases c2 : (decide (Q 0 (ρ i) ≠ 3) && fitW (Q 3 (ρ i)) m f5 f6) = true
      · rw [if_pos c2]
        have hf : fitB Q n n d f5 f6 m (ρ i) = true := by unfold fitB; rw [c1, c2]; rfl
        rcases ffr_spec Q n n d f5 f6 m ρ (fun k hk => (hρ k hk).2) hn n (Nat.le_refl _) with ⟨q1, q2⟩ | ⟨j, q1, q2, q3, q4⟩
        · rw [q2 i (by omega)] at hf; cases hf
        · have ej : j = i := by
            rcases Nat.lt_trichotomy j i with c | c | c
            · rw [hp j c] at q3; cases q3
            · exact c
            · rw [q4 i c] at hf; cases hf
          subst ej
          rw [q2, if_neg (by omega)]
      · rw [if_neg c2]
        exact no (by unfold fitB; rw [Bool.eq_false_iff.mpr c2, Bool.and_false])
    · rw [if_neg c1]
      exact no (by unfold fitB; rw [Bool.eq_false_iff.mpr c1, Bool.false_and])
theorem judgeOf_eq {S : Stt} {b n : Nat} {Q : Nat → Nat → Nat} (hV : BkV n Q) (hB : BC S b n Q) (hR : RkC S b n Q) {d f5 f6 m : Nat} (h5 : f5 < 5) (h6 : f6 < 5) (hm : m < 32) : f_X0_judgeOf b (nI m) (bits (bnd Q n n d) n) (nI f5) (nI f6) S = some (if jd Q n n d f5 f6 m n = 99 then -9 else nI (jd Q n n d f5 f6 m n), S) := by
  obtain ⟨ρ, r1, r2⟩ := hR
  have hn := hV.1
  rw [← ffr_jd Q n n d f5 f6 m ρ hn (fun k hk => (r1 k hk).2) r2]
  exact judgeOf_loop hV hB r1 h5 h6 hm n 0 300 (by omega) (by omega) (fun j hj => absurd hj (by omega))
theorem sim_judge (x1 x2 x3 : Int32) : SimI (f_X7_judge x1 x2 x3) (f_X8_judge x1 x2 x3) := by
  intro S M h
  obtain ⟨n, Q, hV, hB, hR, hM, hDP, hL, hr⟩ := h.bk
  have hn := hV.1
  unfold f_X7_judge f_X8_judge
  rcases case2 x1 with ⟨c1, c2⟩ | ⟨m, hm, rfl, c1, c2⟩
  · exact ⟨-1, S, M, by rw [c1, obind, if_pos rfl], by rw [c2, obind, if_pos rfl], h⟩
  rcases day2 x3 with ⟨d1, d2⟩ | ⟨d, hd, rfl, d1, d2⟩
  · exact ⟨-1, S, M, by rw [c1, obind, if_neg n10, d1, obind, if_pos rfl], by rw [c2, obind, if_neg n10, d2, obind, if_pos rfl], h⟩
  rw [c1, obind, if_neg n10, d1, obind, if_neg n10, c2, obind, if_neg n10, d2, obind, if_neg n10]
  dsimp only
  by_cases c0 : ¬ 0 ≤ x2
  · exact ⟨-1, S, M, by rw [if_neg c0], by rw [in_no (fun q => c0 q.1), obind, if_pos rfl], h⟩
  have c0 := Classical.not_not.mp c0
  obtain ⟨w, hw, rfl⟩ := nI_of (x := x2) (fun q => nI_n0 q c0)
  rw [n9 10, pk_rem hw (by omega) (by omega), pk_div hw (by omega) (by omega), if_pos c0, n9 5, nI_ifle (by omega) (by omega), nI_iflt (by omega) (by omega), n9 44]
  by_cases ca : 5 ≤ w / 10
  · refine ⟨-1, S, M, by rw [if_pos ca], ?_, h⟩
    rw [in_no (fun q => absurd ((nI_leI hw (by omega)).mp q.2) (by omega)), obind, if_pos rfl]
  rw [if_neg ca]
  by_cases cb : w % 10 < 5
  · rw [if_pos cb, in_yes ⟨c0, nI_le (by omega) (by omega)⟩, obind, if_neg n10, if_neg (nI_ge (by omega) (by omega))]
    dsimp only
    rw [bound_eq hV hB (by omega), obind, factsFor_eq hV hB hDP.dd hd (by omega), obind, hasBit_eq _ (by omega), obind, if_b2i, meanOf_eq hV hM hL hd (by omega), obind, has_eq _ (by omega), obind, if_b2i]
    by_cases e5 : bt (fac Q n n d 5) (w / 10) = true
    · rw [if_pos e5, if_pos e5]
      dsimp only
      rw [n9 6, factsFor_eq hV hB hDP.dd hd (by omega), obind, hasBit_eq _ (by omega), obind, if_b2i, meanOf_eq hV hM hL hd (by omega), obind, has_eq _ (by omega), obind, if_b2i]
      by_cases e6 : bt (fac Q n n d 6) (w % 10) = true
      · rw [if_pos e6, if_pos e6]
        dsimp only
        refine ⟨if jd Q n n d (w / 10) (w % 10) m n = 99 then -9 else nI (jd Q n n d (w / 10) (w % 10) m n), S, M, ?_, ?_, h⟩
        · rw [judgeOf_eq hV hB hR (by omega) cb hm, obind]
        · rw [soOf_eq (by omega) cb, obind, bindSet_eq hV hM hL (by omega), obind, judgeBy_eq hV hM hm, obind]
      · exact ⟨-1, S, M, by rw [if_neg e6], by rw [if_neg e6], h⟩
    · exact ⟨-1, S, M, by rw [if_neg e5], by rw [if_neg e5], h⟩
  · refine ⟨-1, S, M, by rw [if_neg cb], ?_, h⟩
    by_cases cc : w ≤ 44
    · rw [in_yes ⟨c0, nI_le cc (by omega)⟩, obind, if_neg n10, if_pos (nI_le (by omega) (by omega))]
    · rw [in_no (fun q => cc ((nI_leI hw (by omega)).mp q.2)), obind, if_pos rfl]
