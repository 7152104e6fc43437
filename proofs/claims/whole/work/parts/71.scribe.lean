/-! the scribe: how far a text goes on, on both sides -/
def ByT (T : Nat → Int32) (n : Nat) : Prop := ∀ i, i < n → -128 ≤ (T i).toInt ∧ (T i).toInt ≤ 127
/-- the scribe of the class stands at place p of text r, which has n signs, and is not stuck -/
def Sg (S : Stt) (r n : Nat) (T : Nat → Int32) (p : Nat) : Prop := r < 4 ∧ n ≤ 80 ∧ p ≤ n ∧ S.1 22 0 0 = 1 ∧ S.1 23 0 0 = nI r ∧ S.1 24 0 0 = nI n ∧ S.1 25 0 0 = nI p ∧ S.1 26 0 0 = 0 ∧ ∀ i, i < n → S.1 21 r i = T i
def St (S : Stt) (p : Nat) : Prop := S.1 26 0 0 = 1 ∧ S.1 25 0 0 = nI p ∧ p ≤ 80
def Mg (M : Stt) (r n : Nat) (T : Nat → Int32) (p : Nat) : Prop := M.1 5 0 r = nI n ∧ M.1 0 17 0 = nI p ∧ ∀ i, i < n → M.1 6 0 (80 * r + i) = T i
def K5 (S S' : Stt) : Prop := (∀ F a i, ¬ ((F = 25 ∨ F = 26) ∧ a = 0 ∧ i = 0) → S'.1 F a i = S.1 F a i) ∧ S'.2 = S.2
def K17 (M M' : Stt) : Prop := (∀ F a i, ¬ (F = 0 ∧ a = 17 ∧ i = 0) → M'.1 F a i = M.1 F a i) ∧ M'.2 = M.2
theorem K5.rf (S : Stt) : K5 S S := ⟨fun _ _ _ _ => rfl, rfl⟩
theorem K5.tr {S S' S2 : Stt} (h : K5 S S') (h2 : K5 S' S2) : K5 S S2 := ⟨fun F a i q => (h2.1 F a i q).trans (h.1 F a i q), h2.2.trans h.2⟩
theorem K17.rf (S : Stt) : K17 S S := ⟨fun _ _ _ _ => rfl, rfl⟩
theorem K17.tr {S S' S2 : Stt} (h : K17 S S') (h2 : K17 S' S2) : K17 S S2 := ⟨fun F a i q => (h2.1 F a i q).trans (h.1 F a i q), h2.2.trans h.2⟩
theorem K5.p25 (S : Stt) (x : Int32) : K5 S (put S 25 0 0 x) := ⟨fun F a i q => by rw [put_at, if_neg (by omega)], rfl⟩
theorem K5.p26 (S : Stt) (x : Int32) : K5 S (put S 26 0 0 x) := ⟨fun F a i q => by rw [put_at, if_neg (by omega)], rfl⟩
theorem K17.p17 (M : Stt) (x : Int32) : K17 M (put M 0 17 0 x) := ⟨fun F a i q => by rw [put_at, if_neg (by omega)], rfl⟩
theorem Sg.go {S : Stt} {r n p : Nat} {T : Nat → Int32} (h : Sg S r n T p) (hp : p < n) : Sg (put S 25 0 0 (nI (p + 1))) r n T (p + 1) := by
  obtain ⟨h1, h2, h3, h4, h5, h6, h7, h8, h9⟩ := h
  refine ⟨h1, h2, hp, ?_, ?_, ?_, ?_, ?_, fun i hi => ?_⟩
  · rw [put_at, if_neg (by omega)]; exact h4
  · rw [put_at, if_neg (by omega)]; exact h5
  · rw [put_at, if_neg (by omega)]; exact h6
  · rw [put_at, if_pos ⟨rfl, rfl, rfl⟩]
  · rw [put_at, if_neg (by omega)]; exact h8
  · rw [put_at, if_neg (by omega)]; exact h9 i hi
theorem Sg.stop {S : Stt} {r n p : Nat} {T : Nat → Int32} (h : Sg S r n T p) : St (put S 26 0 0 1) p :=
  ⟨by rw [put_at, if_pos ⟨rfl, rfl, rfl⟩], by rw [put_at, if_neg (by omega)]; exact h.2.2.2.2.2.2.1, Nat.le_trans h.2.2.1 h.2.1⟩
theorem Mg.go {M : Stt} {r n p : Nat} {T : Nat → Int32} (h : Mg M r n T p) : Mg (put M 0 17 0 (nI (p + 1))) r n T (p + 1) := by
  obtain ⟨h1, h2, h3⟩ := h
  refine ⟨?_, ?_, fun i hi => ?_⟩
  · rw [put_at, if_neg (by omega)]; exact h1
  · rw [put_at, if_pos ⟨rfl, rfl, rfl⟩]
  · rw [put_at, if_neg (by omega)]; exact h3 i hi
theorem Sg.kb {S S' : Stt} {r n p : Nat} {T : Nat → Int32} (h : Sg S r n T p) (k : KB 1 S S') : Sg S' r n T p := by
  obtain ⟨h1, h2, h3, h4, h5, h6, h7, h8, h9⟩ := h
  refine ⟨h1, h2, h3, ?_, ?_, ?_, ?_, ?_, fun i hi => ?_⟩
  · rw [k.1 _ _ _ (by omega)]; exact h4
  · rw [k.1 _ _ _ (by omega)]; exact h5
  · rw [k.1 _ _ _ (by omega)]; exact h6
  · rw [k.1 _ _ _ (by omega)]; exact h7
  · rw [k.1 _ _ _ (by omega)]; exact h8
  · rw [k.1 _ _ _ (by omega)]; exact h9 i hi
theorem St.kb {S S' : Stt} {p : Nat} (h : St S p) (k : KB 1 S S') : St S' p := ⟨by rw [k.1 _ _ _ (by omega)]; exact h.1, by rw [k.1 _ _ _ (by omega)]; exact h.2.1, h.2.2⟩
theorem sign_eq {S : Stt} {r n p : Nat} {T : Nat → Int32} (h : Sg S r n T p) (hp : p < n) : f_X5_sign S = some (T p, S) := by
  obtain ⟨h1, h2, h3, h4, h5, h6, h7, h8, h9⟩ := h
  unfold f_X5_sign
  rw [h4, h5, h7, decide_eq_true n10, grd_t, placeOf_eq (z := 1) h1 (show p < 80 by omega), obind]
  show some (S.1 21 r p, S) = _
  rw [h9 p hp]
/-- no figure from lo to hi at place p -/
def NoF (T : Nat → Int32) (n p lo hi : Nat) : Prop := n ≤ p ∨ (p < n ∧ T p < nI (48 + lo)) ∨ (p < n ∧ ¬ T p < nI (48 + lo) ∧ ¬ T p ≤ nI (48 + hi))
theorem fig3 (T : Nat → Int32) (n p lo hi : Nat) (hh : hi ≤ 9) (hl : lo ≤ 9) : (∃ d, lo ≤ d ∧ d ≤ hi ∧ p < n ∧ T p = nI (48 + d)) ∨ NoF T n p lo hi := by
  unfold NoF
  by_cases c0 : n ≤ p
  · exact Or.inr (Or.inl c0)
  · by_cases c1 : T p < nI (48 + lo)
    · exact Or.inr (Or.inr (Or.inl ⟨by omega, c1⟩))
    · by_cases c2 : T p ≤ nI (48 + hi)
      · have c3 := c1
        rw [Int32.lt_iff_toInt_lt, nI_toInt (by omega)] at c3
        rw [Int32.le_iff_toInt_le, nI_toInt (by omega)] at c2
        obtain ⟨k, k1, k2, k3⟩ := i_nat (x := T p) (by omega)
        refine Or.inl ⟨k - 48, by omega, by omega, by omega, ?_⟩
        rw [k2, show 48 + (k - 48) = k by omega]
      · exact Or.inr (Or.inr (Or.inr ⟨by omega, c1, c2⟩))
theorem f48 (d : Nat) : (48 : Int32) + nI d = nI (48 + d) := nI_add 48 d
theorem s48 (d : Nat) : nI (48 + d) - (48 : Int32) = nI d := by
  have := pk_sub (a := 48 + d) (b := 48) (by omega)
  rw [show 48 + d - 48 = d by omega] at this
  exact this
theorem takeF_st {S : Stt} {p : Nat} (h : St S p) (x y : Int32) : f_X5_takeFigure x y S = some (x, S) := by
  unfold f_X5_takeFigure
  rw [h.1, if_neg n10]
theorem takeF_ok {S : Stt} {r n p lo hi d : Nat} {T : Nat → Int32} (h : Sg S r n T p) (hh : hi ≤ 9) (h1 : lo ≤ d) (h2 : d ≤ hi) (hp : p < n) (ht : T p = nI (48 + d)) : f_X5_takeFigure (nI lo) (nI hi) S = some (nI d, put S 25 0 0 (nI (p + 1))) := by
  have g := h.go hp
  have es := sign_eq h hp
  obtain ⟨a1, a2, a3, a4, a5, a6, a7, a8, a9⟩ := h
  obtain ⟨b1, b2, b3, b4, b5, b6, b7, b8, b9⟩ := g
  unfold f_X5_takeFigure
  rw [a8, if_pos rfl, a6, a7, nI_ifle (by omega) (by omega), if_neg (by omega), es, obind]
  dsimp only
  rw [ht, f48, f48, nI_iflt (by omega) (by omega), if_neg (by omega), es, obind]
  dsimp only
  rw [ht, nI_ifle (by omega) (by omega), if_pos (by omega), a7, nI_1, b4, b5, b7, decide_eq_true n10, grd_t, nIm1 (by omega), show p + 1 - 1 = p by omega, placeOf_eq (z := 1) b1 (show p < 80 by omega), obind]
  dsimp only
  rw [b9 p hp, ht, s48]
theorem takeF_no {S : Stt} {r n p lo hi : Nat} {T : Nat → Int32} (h : Sg S r n T p) (hf : NoF T n p lo hi) : f_X5_takeFigure (nI lo) (nI hi) S = some (nI lo, put S 26 0 0 1) := by
  have a8 := h.2.2.2.2.2.2.2.1
  have a6 := h.2.2.2.2.2.1
  have a7 := h.2.2.2.2.2.2.1
  have a2 := h.2.1
  have a3 := h.2.2.1
  unfold f_X5_takeFigure
  rw [a8, if_pos rfl, a6, a7, nI_ifle (by omega) (by omega)]
  rcases hf with q | ⟨q, q1⟩ | ⟨q, q1, q2⟩
  · rw [if_pos q]
  · rw [if_neg (by omega), sign_eq h q, obind, f48, if_pos q1]
  · rw [if_neg (by omega), sign_eq h q, obind, f48, f48, if_neg q1, sign_eq h q, obind, if_neg q2]
theorem here_eq {M : Stt} {r n p : Nat} {T : Nat → Int32} (hr : r < 4) (hn : n ≤ 80) (h : Mg M r n T p) (hp : p < n) : f_X8_here (nI r) M = some (T p, M) := by
  obtain ⟨h1, h2, h3⟩ := h
  unfold f_X8_here
  rw [ixb_nI hr (by omega), grd_t, cl_nI (by omega), h1, h2, nI_ifle (by omega) (by omega), if_neg (by omega), ix80 hr (by omega), ixb_nI (by omega) (by omega), grd_t, cl_nI (by omega), h3 p hp]
theorem here_end {M : Stt} {r n p : Nat} {T : Nat → Int32} (hr : r < 4) (hn : n ≤ 80) (hp : p ≤ n) (h : Mg M r n T p) (hp2 : n ≤ p) : f_X8_here (nI r) M = some (-9, M) := by
  obtain ⟨h1, h2, h3⟩ := h
  unfold f_X8_here
  rw [ixb_nI hr (by omega), grd_t, cl_nI (by omega), h1, h2, nI_ifle (by omega) (by omega), if_pos (by omega)]
theorem figM_ok {M : Stt} {r n p lo hi d : Nat} {T : Nat → Int32} (hr : r < 4) (hn : n ≤ 80) (h : Mg M r n T p) (hh : hi ≤ 9) (h1 : lo ≤ d) (h2 : d ≤ hi) (hp : p < n) (ht : T p = nI (48 + d)) : f_X8_figure (nI r) (nI lo) (nI hi) M = some (nI d, put M 0 17 0 (nI (p + 1))) := by
  unfold f_X8_figure
  rw [here_eq hr hn h hp, obind]
  dsimp only
  rw [ht, s48, in_yes ⟨nI_le h1 (by omega), nI_le h2 (by omega)⟩, obind]
  dsimp only
  rw [if_neg n10, h.2.1, nI_1]
theorem notIn {x : Int32} {lo hi : Nat} (hb : -128 ≤ x.toInt ∧ x.toInt ≤ 127) (hl : lo ≤ 9) (hh : hi ≤ 9) (h : x < nI (48 + lo) ∨ ¬ x ≤ nI (48 + hi)) : ¬ (nI lo ≤ x - 48 ∧ x - 48 ≤ nI hi) := by
  have e : (x - 48).toInt = x.toInt - 48 := by
    rw [Int32.toInt_sub, show (48 : Int32).toInt = 48 by decide]
    exact Int.bmod_eq_of_le (by omega) (by omega)
  rw [Int32.le_iff_toInt_le, Int32.le_iff_toInt_le, e, nI_toInt (by omega), nI_toInt (by omega)]
  rw [Int32.lt_iff_toInt_lt, Int32.le_iff_toInt_le, nI_toInt (by omega), nI_toInt (by omega)] at h
  omega
theorem figM_no {M : Stt} {r n p lo hi : Nat} {T : Nat → Int32} (hr : r < 4) (hn : n ≤ 80) (hp : p ≤ n) (h : Mg M r n T p) (hB : ByT T n) (hl : lo ≤ 9) (hh : hi ≤ 9) (hf : NoF T n p lo hi) : f_X8_figure (nI r) (nI lo) (nI hi) M = some (-9, M) := by
  unfold f_X8_figure
  rcases hf with q | ⟨q, q1⟩ | ⟨q, q1, q2⟩
  · rw [here_end hr hn hp h q, obind]
    dsimp only
    rw [in_no (notIn (by decide) hl hh (Or.inl (by
      rw [Int32.lt_iff_toInt_lt, nI_toInt (by omega), show (-9 : Int32).toInt = -9 by decide]
      omega))), obind, if_pos rfl]
  · rw [here_eq hr hn h q, obind]
    dsimp only
    rw [in_no (notIn (hB p q) hl hh (Or.inl q1)), obind, if_pos rfl]
  · rw [here_eq hr hn h q, obind]
    dsimp only
    rw [in_no (notIn (hB p q) hl hh (Or.inr q2)), obind, if_pos rfl]
theorem fig_both {S M : Stt} {r n p lo hi : Nat} {T : Nat → Int32} (hS : Sg S r n T p) (hM : Mg M r n T p) (hB : ByT T n) (hl : lo ≤ 9) (hh : hi ≤ 9) :
    (∃ d S' M', lo ≤ d ∧ d ≤ hi ∧ f_X5_takeFigure (nI lo) (nI hi) S = some (nI d, S') ∧ f_X8_figure (nI r) (nI lo) (nI hi) M = some (nI d, M') ∧ Sg S' r n T (p + 1) ∧ Mg M' r n T (p + 1) ∧ K5 S S' ∧ K17 M M') ∨ (∃ S', f_X5_takeFigure (nI lo) (nI hi) S = some (nI lo, S') ∧ f_X8_figure (nI r) (nI lo) (nI hi) M = some (-9, M) ∧ St S' p ∧ K5 S S') := by
  rcases fig3 T n p lo hi hh hl with ⟨d, d1, d2, d3, d4⟩ | hf
  · exact Or.inl ⟨d, _, _, d1, d2, takeF_ok hS hh d1 d2 d3 d4, figM_ok hS.1 hS.2.1 hM hh d1 d2 d3 d4, hS.go d3, hM.go, K5.p25 _ _, K17.p17 _ _⟩
  · exact Or.inr ⟨_, takeF_no hS hf, figM_no hS.1 hS.2.1 hS.2.2.1 hM hB hl hh hf, hS.stop, K5.p26 _ _⟩
theorem w_or : ∀ w, w < 128 → ∀ d, d < 7 → nI w ||| ((1 : Int32) <<< (nI d &&& 31)) = nI (w ||| 2 ^ d) := by decide +kernel
theorem w_shr : ∀ w, w < 128 → ∀ d, d < 7 → (nI w >>> (nI d &&& 31) = 0 ↔ w < 2 ^ d) := by decide +kernel
theorem atF_no {S : Stt} {r n p : Nat} {T : Nat → Int32} (h : Sg S r n T p) (hf : NoF T n p 0 9) : f_X5_isAtFigure S = some (0, S) := by
  have a8 := h.2.2.2.2.2.2.2.1
  have a6 := h.2.2.2.2.2.1
  have a7 := h.2.2.2.2.2.2.1
  have a2 := h.2.1
  have a3 := h.2.2.1
  unfold f_X5_isAtFigure
  rw [a8, if_pos rfl, a6, a7, nI_ifle (by omega) (by omega)]
  rcases hf with q | ⟨q, q1⟩ | ⟨q, q1, q2⟩
  · rw [if_pos q]
  · rw [if_neg (by omega), sign_eq h q, obind]
    dsimp only
    rw [if_pos (show T p < 48 from q1)]
  · rw [if_neg (by omega), sign_eq h q, obind]
    dsimp only
    rw [if_neg (show ¬ T p < 48 from q1), sign_eq h q, obind]
    dsimp only
    rw [if_pos (show 57 < T p from by
      rw [Int32.le_iff_toInt_le] at q2
      rw [Int32.lt_iff_toInt_lt]
      exact Int.not_le.mp q2)]
theorem atF_yes {S : Stt} {r n p d : Nat} {T : Nat → Int32} (h : Sg S r n T p) (hp : p < n) (hd : d ≤ 9) (ht : T p = nI (48 + d)) : f_X5_isAtFigure S = some (1, S) := by
  have a8 := h.2.2.2.2.2.2.2.1
  have a6 := h.2.2.2.2.2.1
  have a7 := h.2.2.2.2.2.2.1
  have a2 := h.2.1
  have a3 := h.2.2.1
  unfold f_X5_isAtFigure
  rw [a8, if_pos rfl, a6, a7, nI_ifle (by omega) (by omega), if_neg (by omega), sign_eq h hp, obind]
  dsimp only
  rw [ht, n9 48, nI_iflt (by omega) (by omega), if_neg (by omega), sign_eq h hp, obind]
  dsimp only
  rw [ht, n9 57, nI_iflt (by omega) (by omega), if_neg (by omega)]
theorem words2 {r n : Nat} {T : Nat → Int32} (hB : ByT T n) : ∀ (k w le st p fu fu2 : Nat) (S M : Stt), le + k = 7 → st + k ≤ 60 → k < fu → k < fu2 → w < 2 ^ le → (le = 0 ∨ 2 ^ (le - 1) ≤ w) → Sg S r n T p → Mg M r n T p →
    (∃ w' p' S' M', w' < 128 ∧ p ≤ p' ∧ fl_X5_takeWords_6 (fun x1 S => some (x1, S)) fu (nI w) (nI le) (nI st) S = some (nI w', S') ∧ fl_X8_readsWords_2 (fun x2 S => some (x2, S)) fu2 (nI r) (nI w) M = some (nI w', M') ∧ Sg S' r n T p' ∧ Mg M' r n T p' ∧ K5 S S' ∧ K17 M M') ∨
    (∃ w' p' S' M', w' < 128 ∧ fl_X5_takeWords_6 (fun x1 S => some (x1, S)) fu (nI w) (nI le) (nI st) S = some (nI w', S') ∧ fl_X8_readsWords_2 (fun x2 S => some (x2, S)) fu2 (nI r) (nI w) M = some (-9, M') ∧ St S' p' ∧ M'.1 0 17 0 = nI p' ∧ K5 S S' ∧ K17 M M') := by
  intro k
  induction k using Nat.strongRecOn with
  | _ k ih =>
    intro w le st p fu fu2 S M h1 h2 h3 h4 h5 h6 hS hM
    obtain ⟨g, rfl⟩ : ∃ g, fu = g + 1 := ⟨fu - 1, by omega⟩
    obtain ⟨g2, rfl⟩ : ∃ g2, fu2 = g2 + 1 := ⟨fu2 - 1, by omega⟩
    have hr := hS.1
    have hn := hS.2.1
    have hw : w < 128 := Nat.lt_of_lt_of_le h5 (show 2 ^ le ≤ 2 ^ 7 from Nat.pow_le_pow_right (by omega) (by omega))
    have e1 : fl_X5_takeWords_6 (fun x1 S => some (x1, S)) (g + 1) (nI w) (nI le) (nI st) S = ((f_X5_isAtFigure S).bind fun q2 => if q2.1 = 0 then some (nI w, q2.2) else ((f_X5_takeFigure (nI le) (6 : Int32) q2.2).bind fun q5 => if (q5.2.1 26 0 0) = 0 then (fl_X5_takeWords_6 (fun x1 S => some (x1, S)) g (nI w ||| ((1 : Int32) <<< (q5.1 &&& 31))) (q5.1 + (1 : Int32)) (nI st + (1 : Int32)) q5.2) else (some (nI w, q5.2)))) := by
      rw [fls_X5_takeWords_6]
      unfold fb_X5_takeWords_6
      rw [n9 80, nI_ifle (by omega) (by omega), if_neg (by omega)]
    rw [e1, fls_X8_readsWords_2]
    unfold fb_X8_readsWords_2
    rcases fig3 T n p 0 9 (by omega) (by omega) with ⟨d, d1, d2, d3, d4⟩ | hf
    · rw [atF_yes hS d3 d2 d4, obind]
      dsimp only
      rw [if_neg n10, here_eq hr hn hM d3, obind]
      dsimp only
      rw [in_yes (show (48 : Int32) ≤ T p ∧ T p ≤ 57 by rw [d4]; exact ⟨nI_le (a := 48) (by omega) (by omega), nI_le (b := 57) (by omega) (by omega)⟩), obind]
      dsimp only
      rw [if_neg n10, here_eq hr hn hM d3, obind]
      dsimp only
      rw [d4, s48, show (6 : Int32) = nI 6 from rfl, nI_iflt (by omega) (by omega)]
      by_cases c : le ≤ d ∧ d ≤ 6
      · obtain ⟨c1, c2⟩ := c
        rw [takeF_ok hS (by omega) c1 c2 d3 d4, obind]
        dsimp only
        have z := (hS.go d3).2.2.2.2.2.2.2.1
        have wd : w < 2 ^ d := Nat.lt_of_lt_of_le h5 (Nat.pow_le_pow_right (by omega) c1)
        rw [z, if_pos rfl, if_neg (by omega), if_pos ((w_shr w hw d (by omega)).mpr wd), w_or w hw d (by omega), hM.2.1, nI_1, nI_1, nI_1]
        have o1 : w ||| 2 ^ d < 2 ^ (d + 1) := Nat.or_lt_two_pow (Nat.lt_trans wd (Nat.pow_lt_pow_right (by omega) (by omega))) (Nat.pow_lt_pow_right (by omega) (by omega))
        have o2 : 2 ^ d ≤ w ||| 2 ^ d := Nat.right_le_or
        rcases ih (6 - d) (by omega) (w ||| 2 ^ d) (d + 1) (st + 1) (p + 1) g g2 (put S 25 0 0 (nI (p + 1))) (put M 0 17 0 (nI (p + 1))) (by omega) (by omega) (by omega) (by omega) o1 (Or.inr o2) (hS.go d3) hM.go with ⟨w', p', S', M', k1, k2, k3, k4, k5, k6, k7, k8⟩ | ⟨w', p', S', M', k1, k3, k4, k5, k6, k7, k8⟩
        · exact Or.inl ⟨w', p', S', M', k1, by omega, k3, k4, k5, k6, (K5.p25 _ _).tr k7, (K17.p17 _ _).tr k8⟩
        · exact Or.inr ⟨w', p', S', M', k1, k3, k4, k5, k6, (K5.p25 _ _).tr k7, (K17.p17 _ _).tr k8⟩
      · have hf : NoF T n p le 6 := by
          by_cases c1 : d < le
          · exact Or.inr (Or.inl ⟨d3, by rw [d4, nI_ltI (by omega) (by omega)]; omega⟩)
          · exact Or.inr (Or.inr ⟨d3, by rw [d4, nI_ltI (by omega) (by omega)]; omega, by rw [d4, nI_leI (by omega) (by omega)]; omega⟩)
        rw [takeF_no hS hf, obind]
        dsimp only
        rw [hS.stop.1, if_neg n10]
        refine Or.inr ⟨w, p, _, M, hw, rfl, ?_, hS.stop, hM.2.1, K5.p26 _ _, K17.rf _⟩
        by_cases c1 : 6 < d
        · rw [if_pos c1]
        · rw [if_neg c1, if_neg]
          rw [w_shr w hw d (by omega)]
          have l0 : d < le := by omega
          rcases h6 with q | q
          · omega
          · have : 2 ^ d ≤ 2 ^ (le - 1) := Nat.pow_le_pow_right (by omega) (by omega)
            omega
    · rw [atF_no hS hf, obind]
      dsimp only
      rw [if_pos rfl]
      refine Or.inl ⟨w, p, S, M, hw, Nat.le_refl _, rfl, ?_, hS, hM, K5.rf _, K17.rf _⟩
      have hf2 : ∃ x, f_X8_here (nI r) M = some (x, M) ∧ ¬ ((48 : Int32) ≤ x ∧ x ≤ 57) := by
        rcases hf with q | ⟨q, q1⟩ | ⟨q, q1, q2⟩
        · exact ⟨-9, here_end hr hn hS.2.2.1 hM q, by decide⟩
        · refine ⟨T p, here_eq hr hn hM q, fun z => ?_⟩
          rw [Int32.lt_iff_toInt_lt] at q1
          have z1 := z.1
          rw [Int32.le_iff_toInt_le] at z1
          exact absurd q1 (Int.not_lt.mpr z1)
        · exact ⟨T p, here_eq hr hn hM q, fun z => q2 z.2⟩
      obtain ⟨x, x1, x2⟩ := hf2
      rw [x1, obind]
      dsimp only
      rw [in_no x2, obind, if_pos rfl]
theorem words_both {S M : Stt} {r n p : Nat} {T : Nat → Int32} (hS : Sg S r n T p) (hM : Mg M r n T p) (hB : ByT T n) :
    (∃ w' p' S' M', w' < 128 ∧ p ≤ p' ∧ f_X5_takeWords S = some (nI w', S') ∧ f_X8_readsWords (nI r) M = some (nI w', M') ∧ Sg S' r n T p' ∧ Mg M' r n T p' ∧ K5 S S' ∧ K17 M M') ∨
    (∃ w' p' S' M', w' < 128 ∧ f_X5_takeWords S = some (nI w', S') ∧ f_X8_readsWords (nI r) M = some (-9, M') ∧ St S' p' ∧ M'.1 0 17 0 = nI p' ∧ K5 S S' ∧ K17 M M') :=
  words2 hB 7 0 0 0 p 300 300 S M (by omega) (by omega) (by omega) (by omega) (by decide) (Or.inl rfl) hS hM
theorem words_st {S : Stt} {p : Nat} (h : St S p) : f_X5_takeWords S = some (0, S) := by
  unfold f_X5_takeWords
  rw [show (300 : Nat) = 299 + 1 from rfl, fls_X5_takeWords_6]
  unfold fb_X5_takeWords_6 f_X5_isAtFigure
  rw [h.1, if_neg n10, if_neg (by decide), obind, if_pos rfl]
/-! the letter of a kind -/
theorem kindC_loop (x : Int32) (S : Stt) : ∀ (k i fuel : Nat), i + k = 6 → k < fuel → (∃ j, j < 6 ∧ litL j = x ∧ fl_X5_kindByLetter_2 (fun S => some ((-9 : Int32), S)) fuel x (nI i) S = some (nI j, S)) ∨ ((∀ j, i ≤ j → j < 6 → ¬ litL j = x) ∧ fl_X5_kindByLetter_2 (fun S => some ((-9 : Int32), S)) fuel x (nI i) S = some (-9, S)) := by
  intro k
  induction k with
  | zero =>
    intro i fuel h1 h2
    obtain ⟨g, rfl⟩ : ∃ g, fuel = g + 1 := ⟨fuel - 1, by omega⟩
    refine Or.inr ⟨fun j q1 q2 => absurd q2 (by omega), ?_⟩
    rw [fls_X5_kindByLetter_2]
    unfold fb_X5_kindByLetter_2
    rw [n9 6, nI_ifle (by omega) (by omega), if_pos (by omega)]
  | succ k ih =>
    intro i fuel h1 h2
    obtain ⟨g, rfl⟩ : ∃ g, fuel = g + 1 := ⟨fuel - 1, by omega⟩
    have e : fl_X5_kindByLetter_2 (fun S => some ((-9 : Int32), S)) (g + 1) x (nI i) S = if litL i = x then some (nI i, S) else fl_X5_kindByLetter_2 (fun S => some ((-9 : Int32), S)) g x (nI (i + 1)) S := by
      rw [fls_X5_kindByLetter_2]
      unfold fb_X5_kindByLetter_2
      rw [n9 6, nI_ifle (by omega) (by omega), if_neg (by omega), ixb_nI (by omega) (by omega), grd_t, cl_nI (by omega), nI_1]
    rw [e]
    by_cases c : litL i = x
    · rw [if_pos c]
      exact Or.inl ⟨i, by omega, c, rfl⟩
    · rw [if_neg c]
      rcases ih (i + 1) g (by omega) (by omega) with q | ⟨q1, q2⟩
      · exact Or.inl q
      · refine Or.inr ⟨fun j j1 j2 => ?_, q2⟩
        by_cases cj : j = i
        · rw [cj]; exact c
        · exact q1 j (by omega) j2
theorem kindM (j : Nat) (hj : j < 6) (M : Stt) : f_X8_kindOf (litL j) M = some (nI j, M) := by
  rcases (show j = 0 ∨ j = 1 ∨ j = 2 ∨ j = 3 ∨ j = 4 ∨ j = 5 by omega) with rfl | rfl | rfl | rfl | rfl | rfl <;> rfl
theorem kind3 (x : Int32) (S M : Stt) : (∃ k, k < 6 ∧ f_X5_kindByLetter x S = some (nI k, S) ∧ f_X8_kindOf x M = some (nI k, M)) ∨ (f_X5_kindByLetter x S = some (-9, S) ∧ f_X8_kindOf x M = some (-9, M)) := by
  rcases kindC_loop x S 6 0 300 (by omega) (by omega) with ⟨j, j1, j2, j3⟩ | ⟨q1, q2⟩
  · refine Or.inl ⟨j, j1, j3, ?_⟩
    rw [← j2]
    exact kindM j j1 M
  · refine Or.inr ⟨q2, ?_⟩
    unfold f_X8_kindOf
    rw [if_neg (fun q => q1 0 (by omega) (by omega) q.symm), if_neg (fun q => q1 1 (by omega) (by omega) q.symm), if_neg (fun q => q1 2 (by omega) (by omega) q.symm), if_neg (fun q => q1 3 (by omega) (by omega) q.symm), if_neg (fun q => q1 4 (by omega) (by omega) q.symm), if_neg (fun q => q1 5 (by omega) (by omega) q.symm)]
