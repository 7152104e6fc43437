/-! deeds -/
/-- rows of deeds: refused on both sides, or n deeds c 0, c 1 .. -/
theorem deeds_ref {S M : Stt} (h : Rel S M) (x1 x2 : Int32) {mo : Nat} (hmo : mo ≤ 8) : (∃ v S' M', v < 0 ∧ ¬ v = 0 ∧ f_X7_refusalOfDeeds x1 x2 (nI mo) S = some (v, S') ∧ (∀ K : Int32 → Stt → Option (Int32 × Stt), ((f_X8_isRow x2 M).bind fun q1 => if q1.1 = 0 then K (-1) q1.2 else ((f_X8_askedDeeds x1 (nI mo) q1.2).bind fun q4 => K q4.1 q4.2)) = K v M') ∧ Rel S' M') ∨
    ∃ (r t N : Nat) (c : Nat → Nat), r < 6 ∧ t < 6 ∧ N ≤ mo ∧ x1 = nI r ∧ x2 = nI t ∧ S.1 19 0 r = nI N ∧ M.1 2 0 r = nI N ∧ (∀ j, j < N → S.1 20 r j = nI (c j) ∧ M.1 3 0 (40 * r + j) = nI (c j) ∧ c j < 32) ∧ f_X7_refusalOfDeeds x1 x2 (nI mo) S = some (0, S) ∧ (∀ K : Int32 → Stt → Option (Int32 × Stt), ((f_X8_isRow x2 M).bind fun q1 => if q1.1 = 0 then K (-1) q1.2 else ((f_X8_askedDeeds x1 (nI mo) q1.2).bind fun q4 => K q4.1 q4.2)) = K 0 M) := by
  unfold f_X7_refusalOfDeeds f_X8_askedDeeds
  rcases ix3 x2 (n := 6) (by omega) with h1 | h1 | ⟨t, ht, rfl⟩
  · refine Or.inl ⟨-1, S, M, by decide, by decide, ?_, fun K => ?_, h⟩
    · rcases row3 h x1 with ⟨a1, a2, a3⟩ | ⟨r, hr, rfl, -⟩ | ⟨r, n, hr, rfl, -⟩
      · rw [a1, obind, if_pos rfl]
      · rw [isOne_yes (z := 0) hr, obind, if_neg n10, isOne_no (z := 0) (Or.inl h1.1), obind, if_pos rfl]
      · rw [isOne_yes (z := 0) hr, obind, if_neg n10, isOne_no (z := 0) (Or.inl h1.1), obind, if_pos rfl]
    · rw [isRow_no (no05 (Or.inl h1)), obind, if_pos rfl]
  · refine Or.inl ⟨-1, S, M, by decide, by decide, ?_, fun K => ?_, h⟩
    · rcases row3 h x1 with ⟨a1, a2, a3⟩ | ⟨r, hr, rfl, -⟩ | ⟨r, n, hr, rfl, -⟩
      · rw [a1, obind, if_pos rfl]
      · rw [isOne_yes (z := 0) hr, obind, if_neg n10, isOne_no (z := 0) (Or.inr h1.1), obind, if_pos rfl]
      · rw [isOne_yes (z := 0) hr, obind, if_neg n10, isOne_no (z := 0) (Or.inr h1.1), obind, if_pos rfl]
    · rw [isRow_no (no05 (Or.inr h1)), obind, if_pos rfl]
  rcases row3 h x1 with ⟨a1, a2, a3⟩ | ⟨r, hr, rfl, y1, y2⟩ | ⟨r, N, hr, rfl, hN, y2, y3, y4⟩
  · refine Or.inl ⟨-1, S, M, by decide, by decide, by rw [a1, obind, if_pos rfl], fun K => ?_, h⟩
    rw [isRow_yes ht, obind, if_neg n10]
    dsimp only
    rw [a3, obind, if_neg nn1, obind]
  · obtain ⟨S', M', e1, e2, e3⟩ := h.refuse (k := 1) (by omega) (by omega)
    refine Or.inl ⟨-3, S', M', by decide, by decide, by rw [isOne_yes (z := 0) hr, obind, if_neg n10, isOne_yes (z := 0) ht, obind, if_neg n10, there_no (z := 0) hr y1, obind, if_pos rfl, n9 1, e1, obind], fun K => ?_, e3⟩
    rw [isRow_yes ht, obind, if_neg n10]
    dsimp only
    rw [askedRow_gone hr y2 e2, obind, if_neg nn3, obind]
  have pre : ∀ f, ((f_X6_isOne 0 (nI r) S).bind fun q1 => if q1.1 = 0 then (some ((-1 : Int32), q1.2)) else ((f_X6_isOne 0 (nI t) q1.2).bind fun q4 => if q4.1 = 0 then (some ((-1 : Int32), q4.2)) else ((f_X6_isThere 0 (nI r) q4.2).bind fun q7 => if q7.1 = 0 then ((f_X7_refuse (1 : Int32) q7.2).bind fun q25 => some (q25.1, q25.2)) else ((f_X6_sizeOf 0 (nI r) q7.2).bind f)))) = f (nI N, S) := by
    intro f
    rw [isOne_yes (z := 0) hr, obind, if_neg n10, isOne_yes (z := 0) ht, obind, if_neg n10, there_yes (z := 0) hr y2 (by omega), obind, if_neg n10, sizeOf_eq (z := 0) hr, obind, y2]
  rw [pre]
  dsimp only
  rw [nI_ifle (by omega) (by omega)]
  have preM : ∀ K : Int32 → Stt → Option (Int32 × Stt), ((f_X8_isRow (nI t) M).bind fun q1 => if q1.1 = 0 then K (-1) q1.2 else (((f_X8_askedRow (nI r) q1.2).bind fun q1 => if 0 ≤ q1.1 then (grd (ixb (nI r) 6) (if (q1.2.1 2 0 (nI r).toNatClampNeg) ≤ nI mo then (fl_X8_askedDeeds_31 (fun S => some ((0 : Int32), S)) 300 (nI r) (0 : Int32) q1.2) else ((f_X8_meet (5 : Int32) q1.2).bind fun q15 => some (q15.1, q15.2)))) else (some (q1.1, q1.2))).bind fun q4 => K q4.1 q4.2)) = ((if N ≤ mo then (fl_X8_askedDeeds_31 (fun S => some ((0 : Int32), S)) 300 (nI r) (0 : Int32) M) else f_X8_meet (5 : Int32) M).bind fun q4 => K q4.1 q4.2) := by
    intro K
    rw [isRow_yes ht, obind, if_neg n10]
    dsimp only
    rw [askedRow_there hr y3 (by omega), obind, if_pos p00, ixb_nI hr (by omega), grd_t, cl_nI (by omega)]
    dsimp only
    rw [y3, nI_ifle (by omega) (by omega), bid]
  by_cases cN : ¬ N ≤ mo
  · obtain ⟨S', M', e1, e2, e3⟩ := h.refuse (k := 5) (by omega) (by omega)
    refine Or.inl ⟨-3, S', M', by decide, by decide, by rw [if_neg cN, n9 5, e1, obind], fun K => ?_, e3⟩
    rw [preM, if_neg cN, n9 5, e2, obind]
  have cN := Classical.not_not.mp cN
  -- each is a case, or one is not
  have lp : ∀ (k i fuel : Nat), i + k = N → k < fuel → ((∃ S' M', fl_X7_refusalOfDeeds_62 (fun S => some ((0 : Int32), S)) fuel (nI r) (nI i) S = some (-3, S') ∧ fl_X8_askedDeeds_31 (fun S => some ((0 : Int32), S)) fuel (nI r) (nI i) M = some (-3, M') ∧ Rel S' M') ∨ (fl_X7_refusalOfDeeds_62 (fun S => some ((0 : Int32), S)) fuel (nI r) (nI i) S = some (0, S) ∧ fl_X8_askedDeeds_31 (fun S => some ((0 : Int32), S)) fuel (nI r) (nI i) M = some (0, M) ∧ ∀ j, i ≤ j → j < N → ∃ m, m < 32 ∧ S.1 20 r j = nI m)) := by
    intro k
    induction k with
    | zero =>
      intro i fuel h1 h2
      obtain ⟨g, rfl⟩ : ∃ g, fuel = g + 1 := ⟨fuel - 1, by omega⟩
      refine Or.inr ⟨?_, ?_, fun j q1 q2 => absurd q2 (by omega)⟩
      · rw [fls_X7_refusalOfDeeds_62]
        unfold fb_X7_refusalOfDeeds_62
        rw [sizeOf_eq (z := 0) hr, obind, y2, if_pos (nI_le (by omega) (by omega))]
      · rw [fls_X8_askedDeeds_31]
        unfold fb_X8_askedDeeds_31
        rw [ixb_nI hr (by omega), grd_t, cl_nI (by omega), y3, if_pos (nI_le (by omega) (by omega))]
    | succ k ih =>
      intro i fuel h1 h2
      obtain ⟨g, rfl⟩ : ∃ g, fuel = g + 1 := ⟨fuel - 1, by omega⟩
      rw [fls_X7_refusalOfDeeds_62, fls_X8_askedDeeds_31]
      unfold fb_X7_refusalOfDeeds_62 fb_X8_askedDeeds_31
      rw [sizeOf_eq (z := 0) hr, obind, y2, if_neg (nI_ge (by omega) (by omega)), placeOf_eq (z := 0) hr (show i < 40 by omega), obind, ixb_nI hr (by omega), grd_t, cl_nI (by omega), y3, if_neg (nI_ge (by omega) (by omega)), rowAt_eq hr (by omega), obind]
      dsimp only
      rw [← y4 i (by omega), show S.1 (20 + 0) r i = S.1 20 r i from rfl]
      rcases case3 (S.1 20 r i) with ⟨b1, b2, b3⟩ | ⟨m, hm, em, b1, b2⟩
      · obtain ⟨S', M', e1, e2, e3⟩ := h.refuse (k := 3) (by omega) (by omega)
        exact Or.inl ⟨S', M', by rw [b1, obind, if_pos rfl, bid]; exact e1, by rw [b2, obind, if_pos rfl, bid]; exact e2, e3⟩
      · rw [b1, obind, if_neg n10, b2, obind, if_neg n10, nI_1]
        rcases ih (i + 1) g (by omega) (by omega) with q | ⟨q1, q2, q3⟩
        · exact Or.inl q
        · refine Or.inr ⟨q1, q2, fun j z1 z2 => ?_⟩
          by_cases cj : j = i
          · subst cj; exact ⟨m, hm, em⟩
          · exact q3 j (by omega) z2
  rw [if_pos cN]
  rcases lp N 0 300 (by omega) (by omega) with ⟨S', M', q1, q2, q3⟩ | ⟨q1, q2, q3⟩
  · refine Or.inl ⟨-3, S', M', by decide, by decide, q1, fun K => ?_, q3⟩
    rw [preM, if_pos cN, show fl_X8_askedDeeds_31 (fun S => some ((0 : Int32), S)) 300 (nI r) (0 : Int32) M = _ from q2, obind]
  · refine Or.inr ⟨r, t, N, fun j => (S.1 20 r j).toNatClampNeg, hr, ht, cN, rfl, rfl, y2, y3, fun j hj => ?_, q1, fun K => ?_⟩
    · obtain ⟨m, hm, e⟩ := q3 j (by omega) hj
      dsimp only
      rw [← y4 j hj, e, cl_nI (by omega)]
      exact ⟨rfl, rfl, hm⟩
    · rw [preM, if_pos cN, show fl_X8_askedDeeds_31 (fun S => some ((0 : Int32), S)) 300 (nI r) (0 : Int32) M = _ from q2, obind]
/-- the planner: N deeds c, and the cases that are sure to be 0 on each day -/
def PlC (S : Stt) (N : Nat) (c : Nat → Nat) (q : Nat → Nat → Int32) : Prop := S.1 42 0 0 = nI N ∧ (∀ k, k < N → S.1 41 0 k = nI (c k)) ∧ ∀ d, d ≤ 20 → ∀ m, m < 32 → bt (S.1 40 0 d) m = decide (q d m = 0)
def KP (S S' : Stt) : Prop := (∀ F a i, ¬ (30 ≤ F ∧ F ≤ 33) → ¬ (40 ≤ F ∧ F ≤ 46) → S'.1 F a i = S.1 F a i) ∧ S'.2 = S.2
theorem KP.tr {S S' S2 : Stt} (h : KP S S') (h2 : KP S' S2) : KP S S2 := ⟨fun F a i q1 q2 => (h2.1 F a i q1 q2).trans (h.1 F a i q1 q2), h2.2.trans h.2⟩
theorem KP.same {S S' : Stt} (h : KP S S') : Same S S' := ⟨fun F a i q => h.1 F a i (by omega) (by omega), h.2⟩
theorem KP.put1 (S : Stt) {F : Nat} (h : 40 ≤ F ∧ F ≤ 46) (a i : Nat) (x : Int32) : KP S (put S F a i x) := ⟨fun G b j q1 q2 => by rw [put_at, if_neg (by omega)], rfl⟩
theorem KP.bc {S S' : Stt} {b n : Nat} {Q : Nat → Nat → Nat} (h : KP S S') (hB : BC S b n Q) : BC S' b n Q := hB.frame (fun F i q1 q2 => h.1 F b i (by omega) (by omega))
theorem KP.rk {S S' : Stt} {b n : Nat} {Q : Nat → Nat → Nat} (h : KP S S') (hB : RkC S b n Q) : RkC S' b n Q := hB.frame (fun F i q1 q2 => h.1 F b i (by omega) (by omega))
theorem K30.kp {S S' : Stt} (h : K30 S S') : KP S S' := ⟨fun F a i q1 _ => h.1 F a i q1, h.2⟩
theorem take17 {r N : Nat} {c : Nat → Nat} (hr : r < 6) (hN : N ≤ 8) (ke : Nat → Stt → Option Stt) : ∀ (k i fuel : Nat) (S : Stt), i + k = N → k < fuel → S.1 42 0 0 = nI N → (∀ j, j < N → S.1 20 r j = nI (c j)) → (∀ j, j < i → S.1 41 0 j = nI (c j)) → ∃ S', fl_X4_take_17 ke fuel 0 (nI r) 0 (nI i) S = ke 0 S' ∧ KP S S' ∧ S'.1 42 0 0 = nI N ∧ ∀ j, j < N → S'.1 41 0 j = nI (c j) := by
  intro k
  induction k with
  | zero =>
    intro i fuel S h1 h2 hc hv hp
    obtain ⟨g, rfl⟩ : ∃ g, fuel = g + 1 := ⟨fuel - 1, by omega⟩
    refine ⟨S, ?_, ⟨fun _ _ _ _ _ => rfl, rfl⟩, hc, fun j hj => hp j (by omega)⟩
    rw [fls_X4_take_17]
    unfold fb_X4_take_17
    rw [hc, nI_ifle (by omega) (by omega), if_pos (by omega)]
  | succ k ih =>
    intro i fuel S h1 h2 hc hv hp
    obtain ⟨g, rfl⟩ : ∃ g, fuel = g + 1 := ⟨fuel - 1, by omega⟩
    obtain ⟨S', b1, b2, b3, b4⟩ := ih (i + 1) g (put S 41 0 i (S.1 20 r i)) (by omega) (by omega) (by rw [put_at, if_neg (by omega)]; exact hc) (fun j hj => by rw [put_at, if_neg (by omega)]; exact hv j hj) (fun j hj => by
      rw [put_at]
      by_cases cj : j = i
      · subst cj
        rw [if_pos ⟨rfl, rfl, rfl⟩]
        exact hv j (by omega)
      · rw [if_neg (by omega)]
        exact hp j (by omega))
    refine ⟨S', ?_, (KP.put1 S (by omega) _ _ _).tr b2, b3, b4⟩
    rw [fls_X4_take_17]
    unfold fb_X4_take_17
    rw [hc, nI_ifle (by omega) (by omega), if_neg (by omega), placeOf_eq (z := 0) hr (show i < 40 by omega), obind, ixb_nI (show i < 8 by omega) (by omega), grd_t, cl_nI (by omega), nI_1]
    exact b1
theorem take49 {n N : Nat} {c : Nat → Nat} {Q : Nat → Nat → Nat} (hV : BkV n Q) (hD : DD n Q) : ∀ (k i fuel : Nat) (S : Stt), i + k = 21 → k < fuel → BC S 0 n Q → RkC S 0 n Q → S.1 42 0 0 = nI N → (∀ j, j < N → S.1 41 0 j = nI (c j)) → (∀ d, d < i → ∀ m, m < 32 → bt (S.1 40 0 d) m = decide (iso Q n n d m = 0)) → ∃ S', fl_X4_take_49 (fun S => some S) fuel 0 (nI i) S = some S' ∧ KP S S' ∧ PlC S' N c (fun d m => iso Q n n d m) := by
  intro k
  induction k with
  | zero =>
    intro i fuel S h1 h2 hB hR hc hv hp
    obtain ⟨g, rfl⟩ : ∃ g, fuel = g + 1 := ⟨fuel - 1, by omega⟩
    refine ⟨S, ?_, ⟨fun _ _ _ _ _ => rfl, rfl⟩, hc, hv, fun d hd => hp d (by omega)⟩
    rw [fls_X4_take_49]
    unfold fb_X4_take_49
    rw [n9 20, nI_iflt (by omega) (by omega), if_pos (by omega)]
  | succ k ih =>
    intro i fuel S h1 h2 hB hR hc hv hp
    obtain ⟨g, rfl⟩ : ∃ g, fuel = g + 1 := ⟨fuel - 1, by omega⟩
    obtain ⟨S1, a1, a2, a3⟩ := hear_eq hV hB hR hD (d := i) (by omega)
    have fr : KP S (put S1 40 0 i (S1.1 33 0 0 ^^^ (-1))) := a2.kp.tr (KP.put1 S1 (by omega) _ _ _)
    obtain ⟨S', b1, b2, b3⟩ := ih (i + 1) g (put S1 40 0 i (S1.1 33 0 0 ^^^ (-1))) (by omega) (by omega) (fr.bc hB) (fr.rk hR) (by rw [put_at, if_neg (by omega), a2.1 42 0 0 (by omega)]; exact hc) (fun j hj => by rw [put_at, if_neg (by omega), a2.1 41 0 j (by omega)]; exact hv j hj) (fun d hd m hm => by
      rw [put_at]
      by_cases cd : d = i
      · subst cd
        obtain ⟨-, s2, -⟩ := iso_bits hV a3 hm
        rw [if_pos ⟨rfl, rfl, rfl⟩, b_not _ hm, s2]
        by_cases z : iso Q n n d m = 0
        · rw [decide_eq_true z, decide_eq_false (fun q => q z)]; rfl
        · rw [decide_eq_false z, decide_eq_true z]; rfl
      · rw [if_neg (by omega), a2.1 40 0 d (by omega)]
        exact hp d (by omega) m hm)
    refine ⟨S', ?_, fr.tr b2, b3⟩
    rw [fls_X4_take_49]
    unfold fb_X4_take_49
    rw [n9 20, nI_iflt (by omega) (by omega), if_neg (by omega), a1, obind, ixb_nI (show i < 21 by omega) (by omega), grd_t, cl_nI (by omega), nI_1]
    exact b1
theorem take_eq {S : Stt} {n r N : Nat} {c : Nat → Nat} {Q : Nat → Nat → Nat} (hV : BkV n Q) (hB : BC S 0 n Q) (hR : RkC S 0 n Q) (hD : DD n Q) (hr : r < 6) (hN : N ≤ 8) (y2 : S.1 19 0 r = nI N) (hv : ∀ j, j < N → S.1 20 r j = nI (c j)) : ∃ S', f_X4_take 0 (nI r) 0 S = some S' ∧ KP S S' ∧ PlC S' N c (fun d m => iso Q n n d m) := by
  have f1 : KP S (put S 42 0 0 (nI N)) := KP.put1 S (by omega) _ _ _
  obtain ⟨S1, a1, a2, a3, a4⟩ := take17 (c := c) hr hN (fun b4 S => fl_X4_take_49 (fun S => some S) 300 b4 (0 : Int32) S) N 0 300 (put S 42 0 0 (nI N)) (by omega) (by omega) (by rw [put_at, if_pos ⟨rfl, rfl, rfl⟩]) (fun j hj => by rw [put_at, if_neg (by omega)]; exact hv j hj) (fun j hj => absurd hj (by omega))
  have f2 := f1.tr a2
  obtain ⟨S2, b1, b2, b3⟩ := take49 (c := c) hV hD 21 0 300 S1 (by omega) (by omega) (f2.bc hB) (f2.rk hR) a3 a4 (fun d hd => absurd hd (by omega))
  refine ⟨S2, ?_, f2.tr b2, b3⟩
  unfold f_X4_take
  rw [sizeOf_eq (z := 0) hr, obind, y2]
  dsimp only
  rw [n9 8, if_neg (nI_nlt hN (by omega))]
  exact a1.trans b1
/-- the first day from d on, of k days, on which q tells 0 -/
def fcF (q : Nat → Nat → Int32) (m : Nat) : Nat → Nat → Int32
  | 0, _ => -9
  | k + 1, d => if q d m = 0 then nI d else fcF q m k (d + 1)
theorem fc_fr (Q : Nat → Nat → Nat) (n m : Nat) : ∀ k d, fcF (fun d m => iso Q n n d m) m k d = frF Q n n m k d := by
  intro k
  induction k with
  | zero => intro d; rfl
  | succ k ih => intro d; rw [fcF, frF, ih]
theorem fc_in (q : Nat → Nat → Int32) (m : Nat) : ∀ k d, d + k = 21 → fcF q m k d = -9 ∨ ∃ y, d ≤ y ∧ y ≤ 20 ∧ fcF q m k d = nI y := by
  intro k
  induction k with
  | zero => intro d _; exact Or.inl rfl
  | succ k ih =>
    intro d hd
    rw [fcF]
    by_cases c : q d m = 0
    · rw [if_pos c]; exact Or.inr ⟨d, Nat.le_refl _, by omega, rfl⟩
    · rw [if_neg c]
      rcases ih (d + 1) (by omega) with e | ⟨y, y1, y2, y3⟩
      · exact Or.inl e
      · exact Or.inr ⟨y, by omega, y2, y3⟩
theorem clear_loop {S : Stt} {N k0 : Nat} {c : Nat → Nat} {q : Nat → Nat → Int32} (hP : PlC S N c q) (hN : N ≤ 8) (hk : k0 < N) (hc : c k0 < 32) : ∀ (k d fuel : Nat), d + k = 21 → k < fuel → fl_X4_firstClear_2 (fun S => some ((-9 : Int32), S)) fuel (nI k0) (nI d) S = some (fcF q (c k0) k d, S) := by
  intro k
  induction k with
  | zero =>
    intro d fuel h1 h2
    obtain ⟨g, rfl⟩ : ∃ g, fuel = g + 1 := ⟨fuel - 1, by omega⟩
    rw [fls_X4_firstClear_2]
    unfold fb_X4_firstClear_2
    rw [n9 20, nI_iflt (by omega) (by omega), if_pos (by omega)]
    rfl
  | succ k ih =>
    intro d fuel h1 h2
    obtain ⟨g, rfl⟩ : ∃ g, fuel = g + 1 := ⟨fuel - 1, by omega⟩
    rw [fls_X4_firstClear_2]
    unfold fb_X4_firstClear_2
    rw [n9 20, nI_iflt (by omega) (by omega), if_neg (by omega), ixb_nI (show d < 21 by omega) (by omega), grd_t, ixb_nI (show k0 < 8 by omega) (by omega), grd_t, cl_nI (by omega), cl_nI (by omega), hP.2.1 k0 hk, hasBit_eq _ hc, obind, if_b2i, hP.2.2 d (by omega) _ hc, nI_1, fcF]
    by_cases z : q d (c k0) = 0
    · rw [if_pos (decide_eq_true z), if_pos z]
    · rw [if_neg (by rw [decide_eq_false z]; decide), if_neg z]
      exact ih (d + 1) g (by omega) (by omega)
theorem clear_eq {S : Stt} {N k0 d : Nat} {c : Nat → Nat} {q : Nat → Nat → Int32} (hP : PlC S N c q) (hN : N ≤ 8) (hk : k0 < N) (hc : c k0 < 32) (hd : d ≤ 21) : f_X4_firstClear (nI k0) (nI d) S = some (fcF q (c k0) (21 - d) d, S) := clear_loop hP hN hk hc (21 - d) d 300 (by omega) (by omega)
theorem PlC.frame {S S' : Stt} {N : Nat} {c : Nat → Nat} {q : Nat → Nat → Int32} (h : PlC S N c q) (hf : ∀ F a i, 40 ≤ F → F ≤ 42 → S'.1 F a i = S.1 F a i) : PlC S' N c q := by
  refine ⟨by rw [hf 42 0 0 (by omega) (by omega)]; exact h.1, fun k hk => by rw [hf 41 0 k (by omega) (by omega)]; exact h.2.1 k hk, fun d hd m hm => by rw [hf 40 0 d (by omega) (by omega)]; exact h.2.2 d hd m hm⟩
/-- the reference: what it told, its count of ways -/
def WD (M M' : Stt) : Prop := (∀ F a i, ¬ (F = 0 ∧ a = 22 ∧ i = 0) → ¬ F = 15 → M'.1 F a i = M.1 F a i) ∧ M'.2 = M.2
theorem WD.tr {M M' M2 : Stt} (h : WD M M') (h2 : WD M' M2) : WD M M2 := ⟨fun F a i q1 q2 => (h2.1 F a i q1 q2).trans (h.1 F a i q1 q2), h2.2.trans h.2⟩
theorem WD.same {M M' : Stt} (h : WD M M') : SameM M M' := ⟨fun F a i q => h.1 F a i (by omega) (by omega), by rw [h.2], by rw [h.2]⟩
theorem W22.wd {M M' : Stt} (h : W22 M M') : WD M M' := ⟨fun F a i q1 _ => h.1 F a i q1, h.2⟩
theorem WD.put1 (M : Stt) (i : Nat) (x : Int32) : WD M (put M 15 0 i x) := ⟨fun F a j _ q2 => by rw [put_at, if_neg (fun z => q2 z.1)], rfl⟩
theorem plan_loop {n r t N : Nat} {c : Nat → Nat} {Q : Nat → Nat → Nat} (hV : BkV n Q) (hr : r < 6) (hN : N ≤ 8) (hc : ∀ j, j < N → c j < 32) (ke : Int32 → Int32 → Int32 → Stt → Option (Int32 × Stt)) : ∀ (k i fuel fr : Nat) (x4 : Int32) (S M : Stt), i + k = N → k < fuel → ((x4 = -9 ∧ fr = 0) ∨ ∃ y, y ≤ 20 ∧ x4 = nI y ∧ fr = y + 1) → PlC S N c (fun d m => iso Q n n d m) → BM M n Q → LoR M n n → M.1 2 0 r = nI N → (∀ j, j < N → M.1 3 0 (40 * r + j) = nI (c j)) → S.1 46 0 0 = x4 → (∀ j, j < i → S.1 43 0 j = M.1 15 0 j) →
    (∃ S' M', fl_X4_planAsTheyCome_10 (fun S => some ((1 : Int32), S)) fuel (nI fr) (nI i) S = some (0, S') ∧ fl_X8_deeds_32 ke fuel (nI r) (nI t) x4 (nI i) M = some (-6, M') ∧ KP S S' ∧ WD M M') ∨ ∃ x4' S' M', fl_X4_planAsTheyCome_10 (fun S => some ((1 : Int32), S)) fuel (nI fr) (nI i) S = some (1, S') ∧ fl_X8_deeds_32 ke fuel (nI r) (nI t) x4 (nI i) M = ke (nI r) (nI t) x4' M' ∧ KP S S' ∧ WD M M' ∧ S'.1 46 0 0 = x4' ∧ S'.1 42 0 0 = nI N ∧ ∀ j, j < N → S'.1 43 0 j = M'.1 15 0 j := by
  intro k
  induction k with
  | zero =>
    intro i fuel fr x4 S M h1 h2 hx hP hB hL hs hv h46 hp
    obtain ⟨g, rfl⟩ : ∃ g, fuel = g + 1 := ⟨fuel - 1, by omega⟩
    refine Or.inr ⟨x4, S, M, ?_, ?_, ⟨fun _ _ _ _ _ => rfl, rfl⟩, ⟨fun _ _ _ _ _ => rfl, rfl⟩, h46, hP.1, fun j hj => hp j (by omega)⟩
    · rw [fls_X4_planAsTheyCome_10]
      unfold fb_X4_planAsTheyCome_10
      rw [hP.1, if_pos (nI_le (by omega) (by omega))]
    · rw [fls_X8_deeds_32]
      unfold fb_X8_deeds_32
      rw [ixb_nI hr (by omega), grd_t, cl_nI (by omega), hs, if_pos (nI_le (by omega) (by omega))]
  | succ k ih =>
    intro i fuel fr x4 S M h1 h2 hx hP hB hL hs hv h46 hp
    obtain ⟨g, rfl⟩ : ∃ g, fuel = g + 1 := ⟨fuel - 1, by omega⟩
    have hfr : fr ≤ 21 := by
      rcases hx with ⟨-, q⟩ | ⟨y, y1, -, y2⟩ <;> omega
    have eC := clear_eq hP hN (show i < N by omega) (hc i (by omega)) hfr
    obtain ⟨M1, b1, b2⟩ := freeFrom_eq hV hB hL (hc i (by omega)) hfr
    rw [← fc_fr] at b1
    have hin := fc_in (fun d m => iso Q n n d m) (c i) (21 - fr) fr (by omega)
    obtain ⟨v, hv'⟩ : ∃ v, fcF (fun d m => iso Q n n d m) (c i) (21 - fr) fr = v := ⟨_, rfl⟩
    rw [hv'] at eC b1 hin
    have eM : fl_X8_deeds_32 ke (g + 1) (nI r) (nI t) x4 (nI i) M = if v = -9 then some (-6, M1) else fl_X8_deeds_32 ke g (nI r) (nI t) v (nI (i + 1)) (put M1 15 0 i v) := by
      rw [fls_X8_deeds_32]
      unfold fb_X8_deeds_32
      rw [ixb_nI hr (by omega), grd_t, cl_nI (by omega), hs, if_neg (nI_ge (by omega) (by omega)), rowAt_eq hr (by omega), obind]
      dsimp only
      rw [hv i (by omega)]
      have go : fj_X8_deeds_66_32 (fl_X8_deeds_32 ke g) ke (nI r) (nI t) (nI i) (nI (c i)) (nI fr) M = if v = -9 then some (-6, M1) else fl_X8_deeds_32 ke g (nI r) (nI t) v (nI (i + 1)) (put M1 15 0 i v) := by
        unfold fj_X8_deeds_66_32
        rw [b1, obind, ixb_nI (show i < 8 by omega) (by omega), grd_t, cl_nI (by omega), nI_1]
      rcases hx with ⟨q1, q2⟩ | ⟨y, y1, y2, y3⟩
      · rw [if_pos q1]
        rw [q2] at go
        exact go
      · rw [y2, if_neg (nI_ne_neg (by omega) neg9), nI_1, ← y3]
        exact go
    have eS : fl_X4_planAsTheyCome_10 (fun S => some ((1 : Int32), S)) (g + 1) (nI fr) (nI i) S = if v = -9 then some (0, S) else fl_X4_planAsTheyCome_10 (fun S => some ((1 : Int32), S)) g (v + 1) (nI (i + 1)) (put (put S 43 0 i v) 46 0 0 v) := by
      rw [fls_X4_planAsTheyCome_10]
      unfold fb_X4_planAsTheyCome_10
      rw [hP.1, if_neg (nI_ge (by omega) (by omega)), eC, obind, ixb_nI (show i < 8 by omega) (by omega), grd_t, cl_nI (by omega), nI_1]
    rw [eM, eS]
    rcases hin with e | ⟨y, y1, y2, y3⟩
    · exact Or.inl ⟨S, M1, by rw [if_pos e], by rw [if_pos e], ⟨fun _ _ _ _ _ => rfl, rfl⟩, b2.wd⟩
    · have nv : ¬ v = -9 := by rw [y3]; exact nI_ne_neg (by omega) neg9
      rw [if_neg nv, if_neg nv]
      have fS : KP S (put (put S 43 0 i v) 46 0 0 v) := (KP.put1 S (by omega) _ _ _).tr (KP.put1 _ (by omega) _ _ _)
      have fM : WD M (put M1 15 0 i v) := b2.wd.tr (WD.put1 M1 i v)
      have hM2 : BM (put M1 15 0 i v) n Q := hB.frame (fM.1 0 10 0 (by omega) (by omega)) (fun F j q1 q2 => fM.1 F 0 j (by omega) (by omega))
      have hL2 : LoR (put M1 15 0 i v) n n := by
        unfold LoR at *
        rw [fM.1 0 20 0 (by omega) (by omega)]
        exact hL
      have ev : v + 1 = nI (y + 1) := by rw [y3, nI_1]
      rcases ih (i + 1) g (y + 1) v (put (put S 43 0 i v) 46 0 0 v) (put M1 15 0 i v) (by omega) (by omega) (Or.inr ⟨y, y2, y3, rfl⟩) (hP.frame (fun F a j q1 q2 => by rw [put_at, if_neg (by omega), put_at, if_neg (by omega)])) hM2 hL2 (by rw [fM.1 2 0 r (by omega) (by omega)]; exact hs) (fun j hj => by rw [fM.1 3 0 _ (by omega) (by omega)]; exact hv j hj) (by rw [put_at, if_pos ⟨rfl, rfl, rfl⟩]) (fun j hj => by
        rw [put_at, if_neg (by omega), put_at, put_at]
        by_cases cj : j = i
        · rw [if_pos ⟨rfl, rfl, cj⟩, if_pos ⟨rfl, rfl, cj⟩]
        · rw [if_neg (fun q => cj q.2.2), if_neg (fun q => cj q.2.2), b2.1 15 0 j (by omega)]
          exact hp j (by omega)) with ⟨S', M', d1, d2, d3, d4⟩ | ⟨x4', S', M', d1, d2, d3, d4, d5, d6, d7⟩
      · exact Or.inl ⟨S', M', by rw [ev]; exact d1, d2, fS.tr d3, fM.tr d4⟩
      · exact Or.inr ⟨x4', S', M', by rw [ev]; exact d1, d2, fS.tr d3, fM.tr d4, d5, d6, d7⟩
/-! laying a row of answers -/
theorem lay_loopM {t N : Nat} (ht : t < 6) (hN : N ≤ 8) : ∀ (k i fuel : Nat) (M : Stt), i + k = N → k < fuel → ∃ M', fl_X8_layTold_9 (fun S => some S) fuel (nI t) (nI N) (nI i) M = some M' ∧ (∀ F a j, ¬ (F = 3 ∧ a = 0 ∧ 40 * t + i ≤ j ∧ j < 40 * t + 40) → M'.1 F a j = M.1 F a j) ∧ M'.2 = M.2 ∧ ∀ j, i ≤ j → j < N → M'.1 3 0 (40 * t + j) = M.1 15 0 j := by
  intro k
  induction k with
  | zero =>
    intro i fuel M h1 h2
    obtain ⟨g, rfl⟩ : ∃ g, fuel = g + 1 := ⟨fuel - 1, by omega⟩
    refine ⟨M, ?_, fun _ _ _ _ => rfl, rfl, fun j q1 q2 => absurd q2 (by omega)⟩
    rw [fls_X8_layTold_9]
    unfold fb_X8_layTold_9
    rw [if_pos (nI_le (by omega) (by omega))]
  | succ k ih =>
    intro i fuel M h1 h2
    obtain ⟨g, rfl⟩ : ∃ g, fuel = g + 1 := ⟨fuel - 1, by omega⟩
    obtain ⟨M', b1, b2, b3, b4⟩ := ih (i + 1) g (put M 3 0 (40 * t + i) (M.1 15 0 i)) (by omega) (by omega)
    refine ⟨M', ?_, fun F a j q => ?_, b3.trans rfl, fun j q1 q2 => ?_⟩
    · rw [fls_X8_layTold_9]
      unfold fb_X8_layTold_9
      rw [if_neg (nI_ge (by omega) (by omega)), ixb_nI (show i < 8 by omega) (by omega), grd_t, cl_nI (by omega), setRow_eq ht (by omega), obind, nI_1]
      exact b1
    · rw [b2 F a j (by omega), put_at, if_neg (by omega)]
    · by_cases c : j = i
      · subst c
        rw [b2 3 0 _ (by omega), put_at, if_pos ⟨rfl, rfl, rfl⟩]
      · rw [b4 j (by omega) q2, put_at, if_neg (by omega)]
theorem row_M {M : Stt} {t N : Nat} (ht : t < 6) (hN : N ≤ 40) : ∃ M', f_X8_row (nI t) (nI N) M = some (nI N, M') ∧ (∀ F a j, ¬ (F = 3 ∧ a = 0 ∧ 40 * t ≤ j ∧ j < 40 * t + 40) → ¬ (F = 2 ∧ a = 0 ∧ j = t) → M'.1 F a j = M.1 F a j) ∧ M'.2 = M.2 ∧ M'.1 2 0 t = nI N := by
  obtain ⟨M', d1, d2, d3, d4, d5⟩ := mrow_loop ht (nI N) 40 0 300 (put M 2 0 t (nI N)) (by omega) (by omega)
  refine ⟨M', ?_, fun F a j q1 q2 => ?_, d5.trans rfl, ?_⟩
  · unfold f_X8_row
    rw [isRow_yes ht, obind, if_neg n10, if_pos (show nI N ≤ 40 from nI_le (b := 40) hN (by omega)), if_pos (nI_pos' (by omega)), ixb_nI ht (by omega), grd_t, cl_nI (by omega)]
    exact d1
  · rw [d2 F a j q1, put_at, if_neg q2]
  · rw [d2 2 0 t (by omega), put_at, if_pos ⟨rfl, rfl, rfl⟩]
theorem layTold_eq {M : Stt} {t N : Nat} (ht : t < 6) (hN : N ≤ 8) : ∃ M', f_X8_layTold (nI t) (nI N) M = some M' ∧ (∀ F a j, ¬ (F = 3 ∧ a = 0 ∧ 40 * t ≤ j ∧ j < 40 * t + 40) → ¬ (F = 2 ∧ a = 0 ∧ j = t) → M'.1 F a j = M.1 F a j) ∧ M'.2 = M.2 ∧ M'.1 2 0 t = nI N ∧ ∀ j, j < N → M'.1 3 0 (40 * t + j) = M.1 15 0 j := by
  obtain ⟨M1, a1, a2, a3, a4⟩ := row_M (M := M) ht (show N ≤ 40 by omega)
  obtain ⟨M2, b1, b2, b3, b4⟩ := lay_loopM ht hN N 0 300 M1 (by omega) (by omega)
  refine ⟨M2, ?_, fun F a j q1 q2 => ?_, b3.trans a3, ?_, fun j hj => ?_⟩
  · unfold f_X8_layTold
    rw [a1, obind]
    exact b1
  · rw [b2 F a j (by omega), a2 F a j q1 q2]
  · rw [b2 2 0 t (by omega)]; exact a4
  · rw [b4 j (by omega) hj, a2 15 0 j (by omega) (by omega)]
theorem tellDays_loop {t N : Nat} (ht : t < 6) (hN : N ≤ 8) : ∀ (k i fuel : Nat) (S : Stt), i + k = N → k < fuel → S.1 42 0 0 = nI N → ∃ S', fl_X4_tellDays_12 (fun S => some S) fuel 0 (nI t) (nI i) S = some S' ∧ (∀ F a j, ¬ (F = 20 ∧ a = t ∧ i ≤ j) → S'.1 F a j = S.1 F a j) ∧ S'.2 = S.2 ∧ ∀ j, i ≤ j → j < N → S'.1 20 t j = S.1 43 0 j := by
  intro k
  induction k with
  | zero =>
    intro i fuel S h1 h2 hc
    obtain ⟨g, rfl⟩ : ∃ g, fuel = g + 1 := ⟨fuel - 1, by omega⟩
    refine ⟨S, ?_, fun _ _ _ _ => rfl, rfl, fun j q1 q2 => absurd q2 (by omega)⟩
    rw [fls_X4_tellDays_12]
    unfold fb_X4_tellDays_12
    rw [hc, if_pos (nI_le (by omega) (by omega))]
  | succ k ih =>
    intro i fuel S h1 h2 hc
    obtain ⟨g, rfl⟩ : ∃ g, fuel = g + 1 := ⟨fuel - 1, by omega⟩
    obtain ⟨S', b1, b2, b3, b4⟩ := ih (i + 1) g (put S 20 t i (S.1 43 0 i)) (by omega) (by omega) (by rw [put_at, if_neg (by omega)]; exact hc)
    refine ⟨S', ?_, fun F a j q => ?_, b3.trans rfl, fun j q1 q2 => ?_⟩
    · rw [fls_X4_tellDays_12]
      unfold fb_X4_tellDays_12
      rw [hc, if_neg (nI_ge (by omega) (by omega)), ixb_nI (show i < 8 by omega) (by omega), grd_t, cl_nI (by omega), write_eq (z := 0) ht (show i < 40 by omega), obind, nI_1]
      exact b1
    · rw [b2 F a j (by omega), put_at, if_neg (by omega)]
    · by_cases c : j = i
      · subst c
        rw [b2 20 t j (by omega), put_at, if_pos ⟨rfl, rfl, rfl⟩]
      · rw [b4 j (by omega) q2, put_at, if_neg (by omega)]
theorem tellDays_eq {S : Stt} {t N : Nat} (ht : t < 6) (hN : N ≤ 8) (hc : S.1 42 0 0 = nI N) : ∃ S', f_X4_tellDays 0 (nI t) S = some S' ∧ (∀ F a j, ¬ (F = 20 ∧ a = t) → ¬ (F = 19 ∧ a = 0 ∧ j = t) → S'.1 F a j = S.1 F a j) ∧ S'.2 = S.2 ∧ S'.1 19 0 t = nI N ∧ ∀ j, j < N → S'.1 20 t j = S.1 43 0 j := by
  obtain ⟨S1, a1, a2, a3, a4, a5⟩ := make_eq (z := 0) (r := t) (n := N) ht (show N ≤ 40 by omega) 0 S
  obtain ⟨S2, b1, b2, b3, b4⟩ := tellDays_loop ht hN N 0 300 S1 (by omega) (by omega) (by rw [a2 42 0 0 (by omega) (by omega)]; exact hc)
  refine ⟨S2, ?_, fun F a j q1 q2 => ?_, b3.trans a5, ?_, fun j hj => ?_⟩
  · unfold f_X4_tellDays
    rw [hc, a1, obind]
    exact b1
  · rw [b2 F a j (by omega), a2 F a j q1 q2]
  · rw [b2 19 0 t (by omega)]; exact a3
  · rw [b4 j (by omega) hj, a2 43 0 j (by omega) (by omega)]
theorem sim_deeds (x1 x2 : Int32) : SimI (f_X7_deeds x1 x2) (f_X8_deeds x1 x2) := by
  intro S M h
  obtain ⟨n, Q, hV, hB, hR, hM, hDP, hL, hr0⟩ := h.bk
  unfold f_X7_deeds f_X8_deeds
  rw [n9 8]
  rcases deeds_ref h x1 x2 (mo := 8) (by omega) with ⟨v, S', M', v0, v1, a1, a2, a3⟩ | ⟨r, t, N, c, hr, ht, hN, rfl, rfl, y2, y3, hcv, a1, a2⟩
  · refine ⟨v, S', M', by rw [a1, obind, if_neg v1], ?_, a3⟩
    rw [a2 (fj_X8_deeds_18 x1 x2)]
    unfold fj_X8_deeds_18
    rw [if_neg (nI_n0 v0)]
  rw [a1, obind, if_pos rfl, a2 (fj_X8_deeds_18 (nI r) (nI t))]
  unfold fj_X8_deeds_18
  rw [if_pos p00]
  obtain ⟨S1, b1, b2, b3⟩ := take_eq (c := c) hV hB hR hDP.dd hr hN y2 (fun j hj => (hcv j hj).1)
  have fS : KP S (put S1 46 0 0 (-9)) := b2.tr (KP.put1 S1 (by omega) _ _ _)
  rcases plan_loop (t := t) hV hr hN (fun j hj => (hcv j hj).2.2) (fun x1 x2 x4 S => grd (ixb x1 6) ((f_X8_layTold x2 (S.1 2 0 x1.toNatClampNeg) S).bind fun q17 => some (x4, q17))) N 0 300 0 (-9) (put S1 46 0 0 (-9)) M (by omega) (by omega) (Or.inl ⟨rfl, rfl⟩) (b3.frame (fun F a j q1 q2 => by rw [put_at, if_neg (by omega)])) hM hL y3 (fun j hj => (hcv j hj).2.1) (by rw [put_at, if_pos ⟨rfl, rfl, rfl⟩]) (fun j hj => absurd hj (by omega)) with ⟨S2, M2, d1, d2, d3, d4⟩ | ⟨x4', S2, M2, d1, d2, d3, d4, d5, d6, d7⟩
  · have d1 : f_X4_planAsTheyCome S1 = some (0, S2) := d1
    refine ⟨-6, S2, M2, ?_, d2, h.same (fS.tr d3).same d4.same⟩
    dsimp only
    rw [b1, obind, d1, obind, if_pos rfl]
  · have d1 : f_X4_planAsTheyCome S1 = some (1, S2) := d1
    obtain ⟨S3, e1, e2, e3, e4, e5⟩ := tellDays_eq ht hN d6
    obtain ⟨M3, g1, g2, g3, g4, g5⟩ := layTold_eq (M := M2) ht hN
    refine ⟨x4', S3, M3, ?_, ?_, (h.same (fS.tr d3).same d4.same).row ht e2 (fun F a j q1 q2 q3 => g2 F a j q1 q2) e3 g3 (Or.inr ⟨N, by omega, e4, g4, fun j hj => by rw [e5 j hj, g5 j hj, d7 j hj]⟩)⟩
    · dsimp only
      rw [b1, obind, d1, obind, if_neg n10]
      dsimp only
      rw [e1, obind, e2 46 0 0 (by omega) (by omega), d5]
    · refine Eq.trans d2 ?_
      rw [ixb_nI hr (by omega), grd_t, cl_nI (by omega), d4.1 2 0 r (by omega) (by omega), y3, g1, obind]
