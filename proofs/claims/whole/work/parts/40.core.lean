/-! the book: who binds -/
def b2i (b : Bool) : Int32 := if b = true then 1 else 0
theorem if_b2i {α : Type} (b : Bool) (x y : α) : (if b2i b = 0 then x else y) = if b = true then y else x := by cases b <;> rfl
theorem b2i_zb (b : Bool) : zb (b2i b) = true := by cases b <;> rfl
theorem nI_if {α : Type} {a b : Nat} (ha : a < 2 ^ 31) (hb : b < 2 ^ 31) (x y : α) : (if nI a = nI b then x else y) = if a = b then x else y := by
  by_cases h : a = b
  · rw [if_pos h, if_pos (by rw [h])]
  · rw [if_neg h, if_neg (fun q => h ((nI_eq ha hb).mp q))]
theorem nI_ifle {α : Type} {a b : Nat} (ha : a < 2 ^ 31) (hb : b < 2 ^ 31) (x y : α) : (if nI a ≤ nI b then x else y) = if a ≤ b then x else y := by
  by_cases h : a ≤ b
  · rw [if_pos h, if_pos ((nI_leI ha hb).mpr h)]
  · rw [if_neg h, if_neg (fun q => h ((nI_leI ha hb).mp q))]
theorem nI_iflt {α : Type} {a b : Nat} (ha : a < 2 ^ 31) (hb : b < 2 ^ 31) (x y : α) : (if nI a < nI b then x else y) = if a < b then x else y := by
  by_cases h : a < b
  · rw [if_pos h, if_pos ((nI_ltI ha hb).mpr h)]
  · rw [if_neg h, if_neg (fun q => h ((nI_ltI ha hb).mp q))]
theorem isOneB_eq {S : Stt} {b n i : Nat} (h : S.1 17 b 0 = nI n) (hn : n < 2 ^ 31) (hi : i < 2 ^ 31) : f_X0_isOne b (nI i) S = some (b2i (decide (i < n)), S) := by
  unfold f_X0_isOne
  rw [if_neg (nI_pos hi), h, nI_ifle hn hi]
  by_cases c : i < n
  · rw [if_neg (by omega), decide_eq_true c]; rfl
  · rw [if_pos (by omega), decide_eq_false c]; rfl
theorem isOneB_no {S : Stt} {b n : Nat} {x : Int32} (h : S.1 17 b 0 = nI n) (hx : x < 0 ∨ nI n ≤ x) : f_X0_isOne b x S = some (0, S) := by
  unfold f_X0_isOne
  rw [h]
  by_cases c : x < 0
  · rw [if_pos c]
  · rcases hx with hx | hx
    · exact absurd hx c
    · rw [if_neg c, if_pos hx]
theorem isOf2_eq {S : Stt} {b i k : Nat} (h : S.1 10 b i = nI k) (hk : k ≤ 5) : f_X3_isOf b i 2 S = some (b2i (decide (k = 2 ∨ k = 5)), S) := by
  unfold f_X3_isOf
  rw [if_neg (by decide), if_pos rfl, h, n9 2, n9 5, nI_if (by omega) (by omega), nI_if (by omega) (by omega)]
  by_cases c : k = 2
  · rw [if_pos c, decide_eq_true (Or.inl c)]; rfl
  · by_cases c2 : k = 5
    · rw [if_neg c, if_pos c2, decide_eq_true (Or.inr c2)]; rfl
    · rw [if_neg c, if_neg c2, decide_eq_false (by omega)]; rfl
theorem isOf1_eq {S : Stt} {b i k : Nat} (h : S.1 10 b i = nI k) (hk : k ≤ 5) : f_X3_isOf b i 1 S = some (b2i (decide (k = 1 ∨ k = 4)), S) := by
  unfold f_X3_isOf
  rw [if_pos rfl, h, n9 1, n9 4, nI_if (by omega) (by omega), nI_if (by omega) (by omega)]
  by_cases c : k = 1
  · rw [if_pos c, decide_eq_true (Or.inl c)]; rfl
  · by_cases c2 : k = 4
    · rw [if_neg c, if_pos c2, decide_eq_true (Or.inr c2)]; rfl
    · rw [if_neg c, if_neg c2, decide_eq_false (by omega)]; rfl
theorem isOfk_eq {S : Stt} {b i k j : Nat} (h : S.1 10 b i = nI k) (hk : k ≤ 5) (h1 : j ≠ 1) (h2 : j ≠ 2) (hj : j ≤ 5) : f_X3_isOf b i (nI j) S = some (b2i (decide (k = j)), S) := by
  unfold f_X3_isOf
  rw [n9 1, n9 2, nI_if (by omega) (by omega), if_neg h1, nI_if (by omega) (by omega), if_neg h2, h, nI_if (by omega) (by omega)]
  by_cases c : k = j
  · rw [if_pos c, decide_eq_true c]; rfl
  · rw [if_neg c, decide_eq_false c]; rfl
/-- does page i bind on day d, looked at for k steps; lo: a page left out -/
def hsF (Q : Nat → Nat → Nat) (n lo : Nat) : Nat → Nat → Nat → Bool
  | 0, _, _ => false
  | k + 1, i, d => if n ≤ i ∨ i = lo then false else if Q 0 i ≠ 5 ∧ d < Q 5 i then false else if Q 0 i = 4 ∧ Q 5 i + 2 < d then false else if Q 0 i = 2 ∨ Q 0 i = 5 then hsF Q n lo k (Q 1 i) d else true
theorem holds_loop {S : Stt} {b n : Nat} {Q : Nat → Nat → Nat} (hV : BkV n Q) (hB : BC S b n Q) {d : Nat} (hd : d < 2 ^ 30) : ∀ (k st fuel i : Nat), st + k = n → k < fuel → i < 2 ^ 30 → fl_X0_holds_5 (fun S => some ((0 : Int32), S)) fuel b (nI d) (nI i) (nI st) S = some (b2i (hsF Q n n k i d), S) := by
  have hn := hV.1
  intro k
  induction k with
  | zero =>
    intro st fuel i h1 h2 hi
    obtain ⟨g, rfl⟩ : ∃ g, fuel = g + 1 := ⟨fuel - 1, by omega⟩
    rw [fls_X0_holds_5]
    unfold fb_X0_holds_5
    rw [hB.1, nI_ifle (by omega) (by omega), if_pos (by omega)]
    rfl
  | succ k ih =>
    intro st fuel i h1 h2 hi
    obtain ⟨g, rfl⟩ : ∃ g, fuel = g + 1 := ⟨fuel - 1, by omega⟩
    rw [fls_X0_holds_5]
    unfold fb_X0_holds_5
    rw [hB.1, nI_ifle (by omega) (by omega), if_neg (by omega), isOneB_eq hB.1 (by omega) (by omega), obind, if_b2i]
    unfold hsF
    by_cases c : i < n
    · obtain ⟨p0, p1, p2, p3, p4, p5, p6⟩ := hB.2 i c
      obtain ⟨v0, v1, v2, v3, v4, v5⟩ := hV.2 i c
      have key : fj_X0_holds_50_5 (fl_X0_holds_5 (fun S => some ((0 : Int32), S)) g) (fun S => some ((0 : Int32), S)) b (nI d) (nI st) b i S = some (b2i (if Q 0 i = 4 ∧ Q 5 i + 2 < d then false else if Q 0 i = 2 ∨ Q 0 i = 5 then hsF Q n n k (Q 1 i) d else true), S) := by
        unfold fj_X0_holds_50_5
        rw [isOf2_eq p0 v0, obind, if_b2i]
        by_cases c2 : Q 0 i = 2 ∨ Q 0 i = 5
        · rw [decide_eq_true c2, if_pos rfl, if_neg (by omega), if_pos c2]
          show fl_X0_holds_5 _ g b (nI d) (S.1 11 b i) (nI st + 1) S = _
          rw [p1 c2, nI_1]
          have := v1 c2
          exact ih (st + 1) g (Q 1 i) (by omega) (by omega) (by omega)
        · rw [decide_eq_false c2, if_neg (by decide), if_neg c2]
          show (if S.1 10 b i = 4 then (if S.1 15 b i + 2 < nI d then _ else _) else _) = _
          rw [p0, p5, n9 4, n9 2, nI_if (by omega) (by omega), nI_add, nI_iflt (by omega) (by omega)]
          by_cases c3 : Q 0 i = 4
          · by_cases c4 : Q 5 i + 2 < d
            · rw [if_pos c3, if_pos c4, if_pos ⟨c3, c4⟩]; rfl
            · rw [if_pos c3, if_neg c4, if_neg (show ¬ (Q 0 i = 4 ∧ Q 5 i + 2 < d) from fun q => c4 q.2)]; rfl
          · rw [if_neg c3, if_neg (show ¬ (Q 0 i = 4 ∧ Q 5 i + 2 < d) from fun q => c3 q.1)]; rfl
      rw [decide_eq_true c, if_pos rfl, ixb_nI (show i < 6 by omega) (by omega), grd_t, cl_nI (by omega), if_neg (show ¬ (n ≤ i ∨ i = n) by omega)]
      show (if S.1 10 b i = 5 then _ else (if S.1 15 b i ≤ nI d then _ else _)) = _
      rw [p0, p5, n9 5, nI_if (by omega) (by omega), nI_ifle (by omega) (by omega), key]
      by_cases c5 : Q 0 i = 5
      · rw [if_pos c5, if_neg (show ¬ (Q 0 i ≠ 5 ∧ d < Q 5 i) from fun q => q.1 c5)]
      · rw [if_neg c5]
        by_cases c6 : Q 5 i ≤ d
        · rw [if_pos c6, if_neg (show ¬ (Q 0 i ≠ 5 ∧ d < Q 5 i) by omega)]
        · rw [if_neg c6, if_pos ⟨c5, by omega⟩]; rfl
    · rw [decide_eq_false c, if_neg (by decide), if_pos (by omega)]
      rfl
theorem holds_eq {S : Stt} {b n : Nat} {Q : Nat → Nat → Nat} (hV : BkV n Q) (hB : BC S b n Q) {d i : Nat} (hd : d < 2 ^ 30) (hi : i < 2 ^ 30) : f_X0_holds b (nI i) (nI d) S = some (b2i (hsF Q n n n i d), S) := by
  have hn := hV.1
  exact holds_loop hV hB hd n 0 300 i (by omega) (by omega) hi
/-! the reference -/
theorem isPage_eq {M : Stt} {n i : Nat} (h : M.1 0 10 0 = nI n) (hn : n < 2 ^ 30) (hi : i < 2 ^ 30) : f_X8_isPage (nI i) M = some (b2i (decide (i < n)), M) := by
  unfold f_X8_isPage
  rw [in_eq, obind, zb_if, grd_t, h]
  rcases place3 (nI i) (n := n) hn with ⟨a, b⟩ | ⟨j, hj, e, -, -, p⟩
  · rw [if_neg b]
    have : ¬ i < n := fun q => by
      rcases a with a | a
      · exact nI_pos (by omega) a
      · exact nI_ge q (by omega) a
    rw [decide_eq_false this]; rfl
  · have : i = j := (nI_eq (by omega) (by omega)).mp e
    subst this
    rw [if_pos p, decide_eq_true hj]; rfl
theorem isPage_no {M : Stt} {n : Nat} {x : Int32} (h : M.1 0 10 0 = nI n) (hx : ¬ (0 ≤ x ∧ x ≤ nI n - 1)) : f_X8_isPage x M = some (0, M) := by
  unfold f_X8_isPage
  rw [in_eq, obind, zb_if, grd_t, h, if_neg hx]
theorem doesPoint_eq {k : Nat} (hk : k < 2 ^ 30) (M : Stt) : f_X8_doesPoint (nI k) M = some (b2i (decide (k = 2 ∨ k = 5)), M) := by
  unfold f_X8_doesPoint
  rw [n9 2, n9 5, nI_if (by omega) (by omega), nI_if (by omega) (by omega)]
  by_cases c : k = 2
  · rw [if_pos c, decide_eq_true (Or.inl c)]; rfl
  · by_cases c2 : k = 5
    · rw [if_neg c, if_pos c2, decide_eq_true (Or.inr c2)]; rfl
    · rw [if_neg c, if_neg c2, decide_eq_false (by omega)]; rfl
/-- the page that the reference leaves out is lo, or there is none -/
def LoR (M : Stt) (n lo : Nat) : Prop := (M.1 0 20 0 = -9 ∧ n ≤ lo) ∨ (M.1 0 20 0 = nI lo ∧ lo < n)
theorem binds_loop {M : Stt} {n lo : Nat} {Q : Nat → Nat → Nat} (hV : BkV n Q) (hB : BM M n Q) (hL : LoR M n lo) {d : Nat} (hd : d < 2 ^ 30) : ∀ (k st fuel i : Nat), st + k = n + 1 → k < fuel → i < 2 ^ 30 → fl_X8_doesBind_5 (fun S => some ((0 : Int32), S)) fuel (nI d) (nI i) (nI st) M = some (b2i (hsF Q n lo k i d), M) := by
  have hn := hV.1
  intro k
  induction k with
  | zero =>
    intro st fuel i h1 h2 hi
    obtain ⟨g, rfl⟩ : ∃ g, fuel = g + 1 := ⟨fuel - 1, by omega⟩
    rw [fls_X8_doesBind_5]
    unfold fb_X8_doesBind_5
    rw [hB.1, nI_iflt (by omega) (by omega), if_pos (by omega)]
    rfl
  | succ k ih =>
    intro st fuel i h1 h2 hi
    obtain ⟨g, rfl⟩ : ∃ g, fuel = g + 1 := ⟨fuel - 1, by omega⟩
    rw [fls_X8_doesBind_5]
    unfold fb_X8_doesBind_5
    rw [hB.1, nI_iflt (by omega) (by omega), if_neg (by omega), isPage_eq hB.1 (by omega) hi, obind, if_b2i]
    unfold hsF
    by_cases c : i < n
    · obtain ⟨p0, p1, p2, p3, p4, p5⟩ := hB.2 i c
      obtain ⟨v0, v1, v2, v3, v4, v5⟩ := hV.2 i c
      have k74 : fj_X8_doesBind_74_5 (fl_X8_doesBind_5 (fun S => some ((0 : Int32), S)) g) (fun S => some ((0 : Int32), S)) (nI d) (nI i) (nI st) M = some (b2i (if Q 0 i = 2 ∨ Q 0 i = 5 then hsF Q n lo k (Q 1 i) d else true), M) := by
        unfold fj_X8_doesBind_74_5
        rw [ixb_nI (show i < 6 by omega) (by omega), grd_t, cl_nI (by omega), p0, doesPoint_eq (by omega), obind, if_b2i]
        by_cases c2 : Q 0 i = 2 ∨ Q 0 i = 5
        · rw [decide_eq_true c2, if_pos rfl, if_pos c2, grd_t]
          show fl_X8_doesBind_5 _ g (nI d) (M.1 10 0 i) (nI st + 1) M = _
          rw [p1 c2, nI_1]
          have := v1 c2
          exact ih (st + 1) g (Q 1 i) (by omega) (by omega) (by omega)
        · rw [decide_eq_false c2, if_neg (by decide), if_neg c2]
          rfl
      have k50 : fj_X8_doesBind_50_5 (fl_X8_doesBind_5 (fun S => some ((0 : Int32), S)) g) (fun S => some ((0 : Int32), S)) (nI d) (nI i) (nI st) M = some (b2i (if Q 0 i = 4 ∧ Q 5 i + 2 < d then false else if Q 0 i = 2 ∨ Q 0 i = 5 then hsF Q n lo k (Q 1 i) d else true), M) := by
        unfold fj_X8_doesBind_50_5
        rw [ixb_nI (show i < 6 by omega) (by omega), grd_t, cl_nI (by omega), p0, p5, grd_t, k74, n9 4, n9 2, nI_if (by omega) (by omega), nI_add, nI_ifle (by omega) (by omega)]
        by_cases c3 : Q 0 i = 4
        · by_cases c4 : Q 5 i + 2 < d
          · rw [if_pos c3, if_neg (by omega), if_pos ⟨c3, c4⟩]; rfl
          · rw [if_pos c3, if_pos (by omega), if_neg (show ¬ (Q 0 i = 4 ∧ Q 5 i + 2 < d) from fun q => c4 q.2)]
        · rw [if_neg c3, if_neg (show ¬ (Q 0 i = 4 ∧ Q 5 i + 2 < d) from fun q => c3 q.1)]
      rw [decide_eq_true c, if_pos rfl]
      show (if nI i = M.1 0 20 0 then _ else _) = _
      by_cases cl : i = lo
      · rcases hL with ⟨-, l2⟩ | ⟨l1, l2⟩
        · exact absurd l2 (by omega)
        · rw [l1, cl, if_pos rfl, if_pos (Or.inr rfl)]; rfl
      · have e : ¬ nI i = M.1 0 20 0 := by
          rcases hL with ⟨l1, l2⟩ | ⟨l1, l2⟩
          · rw [l1]; exact nI_ne_neg (by omega) neg9
          · rw [l1]; exact fun q => cl ((nI_eq (by omega) (by omega)).mp q)
        rw [if_neg e, if_neg (show ¬ (n ≤ i ∨ i = lo) by omega), ixb_nI (show i < 6 by omega) (by omega), grd_t, grd_t, cl_nI (by omega)]
        show (if M.1 7 0 i = 5 then _ else (if nI d < M.1 12 0 i then _ else _)) = _
        rw [p0, p5, n9 5, nI_if (by omega) (by omega), nI_iflt (by omega) (by omega), k50]
        by_cases c5 : Q 0 i = 5
        · rw [if_pos c5, if_neg (show ¬ (Q 0 i ≠ 5 ∧ d < Q 5 i) from fun q => q.1 c5)]
        · rw [if_neg c5]
          by_cases c6 : d < Q 5 i
          · rw [if_pos c6, if_pos ⟨c5, c6⟩]; rfl
          · rw [if_neg c6, if_neg (show ¬ (Q 0 i ≠ 5 ∧ d < Q 5 i) from fun q => c6 q.2)]
    · rw [decide_eq_false c, if_neg (by decide), if_pos (by omega)]
      rfl
theorem doesBind_eq {M : Stt} {n lo : Nat} {Q : Nat → Nat → Nat} (hV : BkV n Q) (hB : BM M n Q) (hL : LoR M n lo) {d i : Nat} (hd : d < 2 ^ 30) (hi : i < 2 ^ 30) : f_X8_doesBind (nI i) (nI d) M = some (b2i (hsF Q n lo (n + 1) i d), M) := by
  have hn := hV.1
  exact binds_loop hV hB hL hd (n + 1) 0 300 i (by omega) (by omega) hi
