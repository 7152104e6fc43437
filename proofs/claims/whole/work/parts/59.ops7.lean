/-! read -/
def seen (v : Nat → Int32) : Nat → Nat → Bool
  | 0, _ => false
  | i + 1, m => seen v i m || decide (v i = nI m)
theorem seen_iff (v : Nat → Int32) (m : Nat) : ∀ i, seen v i m = true ↔ ∃ j, j < i ∧ v j = nI m := by
  intro i
  induction i with
  | zero => exact ⟨fun h => (by cases h), fun ⟨j, h, _⟩ => absurd h (by omega)⟩
  | succ i ih =>
    rw [seen, Bool.or_eq_true, ih, decide_eq_true_iff]
    constructor
    · rintro (⟨j, h1, h2⟩ | h)
      · exact ⟨j, by omega, h2⟩
      · exact ⟨i, by omega, h⟩
    · rintro ⟨j, h1, h2⟩
      by_cases c : j = i
      · exact Or.inr (c ▸ h2)
      · exact Or.inl ⟨j, by omega, h2⟩
def okR (v : Nat → Int32) (n : Nat) : Prop := (∀ j, j < n → ∃ y, y < n ∧ v j = nI y) ∧ ∀ j j', j < n → j' < n → v j = v j' → j = j'
theorem names_loop {S : Stt} {r n : Nat} (hr : r < 6) (hn : n ≤ 6) (hc : S.1 17 0 0 = nI n) (hs : S.1 19 0 r = nI n) : ∀ (k i fuel : Nat) (x2 : Int32), i + k = n → k < fuel → (∀ m, m < 32 → bt x2 m = seen (S.1 20 r) i m) → (∀ j, j < i → ∃ y, y < n ∧ S.1 20 r j = nI y) → (∀ j j', j < i → j' < i → S.1 20 r j = S.1 20 r j' → j = j') → ∃ c : Bool, fl_X7_namesEachPageOnce_4 (fun S => some ((1 : Int32), S)) fuel (nI r) x2 (nI i) S = some (b2i c, S) ∧ (c = true ↔ okR (S.1 20 r) n) := by
  intro k
  induction k with
  | zero =>
    intro i fuel x2 h1 h2 h3 h4 h5
    obtain ⟨g, rfl⟩ : ∃ g, fuel = g + 1 := ⟨fuel - 1, by omega⟩
    have hi : i = n := by omega
    subst hi
    refine ⟨true, ?_, fun _ => ⟨h4, h5⟩, fun _ => rfl⟩
    rw [fls_X7_namesEachPageOnce_4]
    unfold fb_X7_namesEachPageOnce_4
    rw [sizeOf_eq (z := 0) hr, obind]
    dsimp only
    rw [hs, nI_ifle (by omega) (by omega), if_pos (by omega)]
    rfl
  | succ k ih =>
    intro i fuel x2 h1 h2 h3 h4 h5
    obtain ⟨g, rfl⟩ : ∃ g, fuel = g + 1 := ⟨fuel - 1, by omega⟩
    rw [fls_X7_namesEachPageOnce_4]
    unfold fb_X7_namesEachPageOnce_4
    rw [sizeOf_eq (z := 0) hr, obind]
    dsimp only
    rw [hs, nI_ifle (by omega) (by omega), if_neg (by omega), placeOf_eq (z := 0) hr (show i < 40 by omega), obind]
    dsimp only
    have no : (S.1 20 r i < 0 ∨ nI n ≤ S.1 20 r i) → ∃ c : Bool, ((f_X0_isOne 0 (S.1 20 r i) S).bind fun q6 => if q6.1 = 0 then (some ((0 : Int32), q6.2)) else ((f_X7_hasBit x2 (S.1 20 r i) q6.2).bind fun q9 => if q9.1 = 0 then ((fl_X7_namesEachPageOnce_4 (fun S => some ((1 : Int32), S)) g) (nI r) (x2 ||| ((1 : Int32) <<< ((S.1 20 r i) &&& 31))) (nI i + (1 : Int32)) q9.2) else (some ((0 : Int32), q9.2)))) = some (b2i c, S) ∧ (c = true ↔ okR (S.1 20 r) n) := by
      intro hx
      refine ⟨false, by rw [isOneB_no hc hx, obind, if_pos rfl]; rfl, fun q => (by cases q), fun q => ?_⟩
      obtain ⟨y, hy, e⟩ := q.1 i (by omega)
      rw [e] at hx
      rcases hx with hx | hx
      · exact absurd hx (nI_pos (by omega))
      · exact absurd hx (nI_ge hy (by omega))
    rcases ix3 (S.1 20 r i) (n := n) (by omega) with q | q | ⟨y, hy, ey⟩
    · exact no (Or.inl q.1)
    · exact no (Or.inr q.1)
    · show ∃ c : Bool, ((f_X0_isOne 0 (S.1 20 r i) S).bind _) = _ ∧ _
      rw [ey, isOneB_eq hc (by omega) (by omega), obind, if_b2i, if_pos (decide_eq_true hy), hasBit_eq _ (by omega), obind, if_b2i, h3 y (by omega)]
      by_cases cs : seen (S.1 20 r) i y = true
      · rw [if_pos cs]
        refine ⟨false, rfl, fun q => (by cases q), fun q => ?_⟩
        obtain ⟨j, hj, ej⟩ := (seen_iff _ _ _).mp cs
        have := q.2 j i (by omega) (by omega) (ej.trans ey.symm)
        omega
      · rw [if_neg cs, nI_1]
        refine ih (i + 1) g _ (by omega) (by omega) (fun m hm => ?_) (fun j hj => ?_) (fun j j' hj hj' e => ?_)
        · rw [b_or, h3 m hm, b_pow (by omega) hm, seen, ey, decide_eq_decide.mpr (show (nI y = nI m) ↔ (m = y) from ⟨fun q => ((nI_eq (by omega) (by omega)).mp q).symm, fun q => by rw [q]⟩)]
        · by_cases c : j = i
          · subst c; exact ⟨y, hy, ey⟩
          · exact h4 j (by omega)
        · by_cases c : j = i
          · subst c
            by_cases c' : j' = j
            · exact c'.symm
            · exact absurd ((seen_iff _ _ _).mpr ⟨j', by omega, e.symm.trans ey⟩) cs
          · by_cases c' : j' = i
            · subst c'
              exact absurd ((seen_iff _ _ _).mpr ⟨j, by omega, e.trans ey⟩) cs
            · exact h5 j j' (by omega) (by omega) e
theorem ok_onto {v : Nat → Int32} {n : Nat} (hn : n ≤ 6) (h : okR v n) {m : Nat} (hm : m < n) : ∃ j, j < n ∧ v j = nI m := by
  have key : ∀ j, j < n → (v j).toNatClampNeg < n ∧ v j = nI (v j).toNatClampNeg := by
    intro j hj
    obtain ⟨y, hy, e⟩ := h.1 j hj
    rw [e, cl_nI (by omega)]
    exact ⟨hy, rfl⟩
  obtain ⟨j, hj, e⟩ := fb_onto (f := fun j => (v j).toNatClampNeg) (fun j hj => (key j hj).1) (fun i j hij hj e => by
    have e : (v i).toNatClampNeg = (v j).toNatClampNeg := e
    have := h.2 i j (by omega) hj (by rw [(key i (by omega)).2, (key j hj).2, e])
    omega) hm
  exact ⟨j, hj, by rw [(key j hj).2]; exact congrArg nI e⟩
theorem onto_ok {v : Nat → Int32} {n : Nat} (hn : n ≤ 6) (h : ∀ m, m < n → ∃ j, j < n ∧ v j = nI m) : okR v n := by
  have ht : ∃ τ : Nat → Nat, ∀ m, m < n → τ m < n ∧ v (τ m) = nI m := by
    refine ⟨fun m => if hm : m < n then Classical.choose (h m hm) else 0, fun m hm => ?_⟩
    dsimp only
    rw [dif_pos hm]
    exact Classical.choose_spec (h m hm)
  obtain ⟨τ, ht⟩ := ht
  have on : ∀ j, j < n → ∃ m, m < n ∧ τ m = j := fun j hj => fb_onto (f := τ) (fun m hm => (ht m hm).1) (fun a b hab hb e => by
    have e1 := (ht a (by omega)).2
    rw [e, (ht b hb).2] at e1
    have := (nI_eq (by omega) (by omega)).mp e1
    omega) hj
  refine ⟨fun j hj => ?_, fun j j' hj hj' e => ?_⟩
  · obtain ⟨m, hm, rfl⟩ := on j hj
    exact ⟨m, hm, (ht m hm).2⟩
  · obtain ⟨m, hm, rfl⟩ := on j hj
    obtain ⟨m', hm', rfl⟩ := on j' hj'
    rw [(ht m hm).2, (ht m' hm').2] at e
    rw [(nI_eq (by omega) (by omega)).mp e]
theorem full_bits : ∀ n, n ≤ 6 → ∀ m, m < 32 → bt (((1 : Int32) <<< (nI n &&& 31)) - 1) m = decide (m < n) := by decide +kernel
theorem read55 {M : Stt} {r n : Nat} (hr : r < 6) (hn : n ≤ 6) (hc : M.1 0 10 0 = nI n) (ke : Int32 → Int32 → Stt → Option (Int32 × Stt)) : ∀ (k i fuel : Nat) (x3 : Int32), i + k = n → k < fuel → (∀ m, m < 32 → bt x3 m = (decide (m < n) && seen (fun j => M.1 3 0 (40 * r + j)) i m)) → ∃ x, fl_X8_read_55 ke fuel (nI r) x3 (nI i) M = ke (nI r) x M ∧ ∀ m, m < 32 → bt x m = (decide (m < n) && seen (fun j => M.1 3 0 (40 * r + j)) n m) := by
  intro k
  induction k with
  | zero =>
    intro i fuel x3 h1 h2 h3
    obtain ⟨g, rfl⟩ : ∃ g, fuel = g + 1 := ⟨fuel - 1, by omega⟩
    have hi : i = n := by omega
    subst hi
    refine ⟨x3, ?_, h3⟩
    rw [fls_X8_read_55]
    unfold fb_X8_read_55
    rw [hc, nI_ifle (by omega) (by omega), if_pos (by omega)]
  | succ k ih =>
    intro i fuel x3 h1 h2 h3
    obtain ⟨g, rfl⟩ : ∃ g, fuel = g + 1 := ⟨fuel - 1, by omega⟩
    rw [fls_X8_read_55]
    unfold fb_X8_read_55
    rw [hc, nI_ifle (by omega) (by omega), if_neg (by omega), rowAt_eq hr (by omega), obind]
    dsimp only
    rcases place3 (M.1 3 0 (40 * r + i)) (n := n) (by omega) with ⟨q1, q2⟩ | ⟨y, hy, ey, -, -, -⟩
    · rw [isPage_no hc q2, obind, if_pos rfl, nI_1]
      refine ih (i + 1) g _ (by omega) (by omega) (fun m hm => ?_)
      rw [or0, h3 m hm, seen]
      by_cases c : m < n
      · rw [decide_eq_false (show ¬ M.1 3 0 (40 * r + i) = nI m from ?_), Bool.or_false]
        intro e
        rw [e] at q1
        rcases q1 with q1 | q1
        · exact nI_pos (by omega) q1
        · exact nI_ge c (by omega) q1
      · rw [decide_eq_false c]; rfl
    · rw [ey, isPage_eq hc (by omega) (by omega), obind, if_b2i, if_pos (decide_eq_true hy), rowAt_eq hr (by omega), obind, nI_1]
      dsimp only
      rw [ey]
      refine ih (i + 1) g _ (by omega) (by omega) (fun m hm => ?_)
      rw [b_or, h3 m hm, b_pow (by omega) hm, seen, ey, decide_eq_decide.mpr (show (nI y = nI m) ↔ (m = y) from ⟨fun q => ((nI_eq (by omega) (by omega)).mp q).symm, fun q => by rw [q]⟩)]
      by_cases c : m < n
      · rw [decide_eq_true c, Bool.true_and, Bool.true_and]
      · rw [decide_eq_false c, decide_eq_false (show ¬ m = y by omega)]; rfl
theorem read83 {r n : Nat} {σ : Nat → Nat} (hr : r < 6) (hn : n ≤ 6) (hσ : ∀ j, j < n → σ j < n) (hi2 : ∀ i j, i < n → j < n → σ i = σ j → i = j) : ∀ (k i fuel : Nat) (S : Stt), i + k = n → k < fuel → S.1 17 0 0 = nI n → (∀ j, j < n → S.1 20 r j = nI (σ j)) → ∃ S', fl_X7_read_83 (fun S => some ((1 : Int32), S)) fuel (nI r) (nI i) S = some (1, S') ∧ (∀ F a j, ¬ (F = 15 ∧ a = 0) → S'.1 F a j = S.1 F a j) ∧ S'.2 = S.2 ∧ (∀ j, i ≤ j → j < n → S'.1 15 0 (σ j) = nI j) ∧ ∀ j, j < i → S'.1 15 0 (σ j) = S.1 15 0 (σ j) := by
  intro k
  induction k with
  | zero =>
    intro i fuel S h1 h2 hc hv
    obtain ⟨g, rfl⟩ : ∃ g, fuel = g + 1 := ⟨fuel - 1, by omega⟩
    refine ⟨S, ?_, fun _ _ _ _ => rfl, rfl, fun j q1 q2 => absurd q2 (by omega), fun _ _ => rfl⟩
    rw [fls_X7_read_83]
    unfold fb_X7_read_83
    rw [hc, nI_ifle (by omega) (by omega), if_pos (by omega)]
  | succ k ih =>
    intro i fuel S h1 h2 hc hv
    obtain ⟨g, rfl⟩ : ∃ g, fuel = g + 1 := ⟨fuel - 1, by omega⟩
    have hs := hσ i (by omega)
    obtain ⟨S', b1, b2, b3, b4, b5⟩ := ih (i + 1) g (put S 15 0 (σ i) (nI i)) (by omega) (by omega) (by rw [put_at, if_neg (by omega)]; exact hc) (fun j hj => by rw [put_at, if_neg (by omega)]; exact hv j hj)
    refine ⟨S', ?_, fun F a j q => ?_, b3.trans rfl, fun j q1 q2 => ?_, fun j q1 => ?_⟩
    · rw [fls_X7_read_83]
      unfold fb_X7_read_83
      rw [hc, nI_ifle (by omega) (by omega), if_neg (by omega), placeOf_eq (z := 0) hr (show i < 40 by omega), obind]
      dsimp only
      show ((f_X0_isOne 0 (S.1 20 r i) S).bind fun q17 => if q17.1 = 0 then _ else (grd (ixb (S.1 20 r i) 6) _)) = _
      rw [hv i (by omega), isOneB_eq hc (by omega) (by omega), obind, if_b2i, if_pos (decide_eq_true hs), ixb_nI (show σ i < 6 by omega) (by omega), grd_t, cl_nI (by omega), nI_1]
      exact b1
    · rw [b2 F a j q, put_at, if_neg (by omega)]
    · by_cases c : j = i
      · subst c
        rw [b5 j (by omega), put_at, if_pos ⟨rfl, rfl, rfl⟩]
      · exact b4 j (by omega) q2
    · rw [b5 j (by omega), put_at, if_neg]
      intro q
      have := hi2 j i (by omega) (by omega) q.2.2
      omega
theorem read121 {r n : Nat} {σ : Nat → Nat} (hr : r < 6) (hn : n ≤ 6) (hσ : ∀ j, j < n → σ j < n) (hi2 : ∀ i j, i < n → j < n → σ i = σ j → i = j) : ∀ (k i fuel : Nat) (M : Stt), i + k = n → k < fuel → M.1 0 10 0 = nI n → (∀ j, j < n → M.1 3 0 (40 * r + j) = nI (σ j)) → ∃ M', fl_X8_read_121 (fun S => some ((1 : Int32), S)) fuel (nI r) (nI i) M = some (1, M') ∧ (∀ F a j, ¬ (F = 12 ∧ a = 0) → M'.1 F a j = M.1 F a j) ∧ M'.2 = M.2 ∧ (∀ j, i ≤ j → j < n → M'.1 12 0 (σ j) = nI j) ∧ ∀ j, j < i → M'.1 12 0 (σ j) = M.1 12 0 (σ j) := by
  intro k
  induction k with
  | zero =>
    intro i fuel M h1 h2 hc hv
    obtain ⟨g, rfl⟩ : ∃ g, fuel = g + 1 := ⟨fuel - 1, by omega⟩
    refine ⟨M, ?_, fun _ _ _ _ => rfl, rfl, fun j q1 q2 => absurd q2 (by omega), fun _ _ => rfl⟩
    rw [fls_X8_read_121]
    unfold fb_X8_read_121
    rw [hc, nI_ifle (by omega) (by omega), if_pos (by omega)]
  | succ k ih =>
    intro i fuel M h1 h2 hc hv
    obtain ⟨g, rfl⟩ : ∃ g, fuel = g + 1 := ⟨fuel - 1, by omega⟩
    have hs := hσ i (by omega)
    obtain ⟨M', b1, b2, b3, b4, b5⟩ := ih (i + 1) g (put M 12 0 (σ i) (nI i)) (by omega) (by omega) (by rw [put_at, if_neg (by omega)]; exact hc) (fun j hj => by rw [put_at, if_neg (by omega)]; exact hv j hj)
    refine ⟨M', ?_, fun F a j q => ?_, b3.trans rfl, fun j q1 q2 => ?_, fun j q1 => ?_⟩
    · rw [fls_X8_read_121]
      unfold fb_X8_read_121
      rw [hc, nI_ifle (by omega) (by omega), if_neg (by omega), rowAt_eq hr (by omega), obind]
      dsimp only
      rw [hv i (by omega), ixb_nI (show σ i < 6 by omega) (by omega), grd_t, cl_nI (by omega), nI_1]
      exact b1
    · rw [b2 F a j q, put_at, if_neg (by omega)]
    · by_cases c : j = i
      · subst c
        rw [b5 j (by omega), put_at, if_pos ⟨rfl, rfl, rfl⟩]
      · exact b4 j (by omega) q2
    · rw [b5 j (by omega), put_at, if_neg]
      intro q
      have := hi2 j i (by omega) (by omega) q.2.2
      omega
theorem sim_read (x1 : Int32) : SimI (f_X7_read x1) (f_X8_read x1) := by
  intro S M h
  obtain ⟨n, Q, hV, hB, hR, hM, hDP, hL, hr0⟩ := h.bk
  have hn := hV.1
  unfold f_X7_read f_X8_read
  rcases row3 h x1 with ⟨a1, a2, a3⟩ | h23
  · exact ⟨-1, S, M, by rw [a1, obind, if_pos rfl], by rw [a2, obind, if_pos rfl], h⟩
  obtain ⟨r, hr, rfl⟩ : ∃ r, r < 6 ∧ x1 = nI r := by
    rcases h23 with ⟨r, hr, e, -⟩ | ⟨r, m, hr, e, -⟩
    · exact ⟨r, hr, e⟩
    · exact ⟨r, hr, e⟩
  rw [isOne_yes (z := 0) hr, obind, if_neg n10, isRow_yes hr, obind, if_neg n10]
  dsimp only
  rw [hB.1, hM.1]
  by_cases c0 : n = 0
  · subst c0
    exact ⟨-4, S, M, by rw [if_pos (show nI 0 = 0 from rfl)], by rw [if_pos (show nI 0 = 0 from rfl)], h⟩
  rw [if_neg (nI_ne0 (by omega) (by omega)), if_neg (nI_ne0 (by omega) (by omega))]
  rcases h.2.1 r hr with ⟨y1, y2⟩ | ⟨k, hk, y2, y3, y4⟩
  · obtain ⟨S', M', e1, e2, e3⟩ := h.refuse (k := 1) (by omega) (by omega)
    exact ⟨-3, S', M', by rw [there_no (z := 0) hr y1, obind, if_pos rfl, n9 1, e1, obind], by rw [askedRow_gone hr y2 e2, obind, if_neg nn3], e3⟩
  rw [there_yes (z := 0) hr y2 (by omega), obind, if_neg n10, sizeOf_eq (z := 0) hr, obind, askedRow_there hr y3 (by omega), obind, if_pos p00]
  dsimp only
  rw [ixb_nI hr (by omega), grd_t, cl_nI (by omega), y2, y3, hB.1, hM.1, nI_if (by omega) (by omega), nI_if (by omega) (by omega)]
  by_cases ck : ¬ k = n
  · obtain ⟨S', M', e1, e2, e3⟩ := h.refuse (k := 5) (by omega) (by omega)
    exact ⟨-3, S', M', by rw [if_neg ck, n9 5, e1, obind], by rw [if_neg ck, n9 5, e2, obind], e3⟩
  have ck := Classical.not_not.mp ck
  subst ck
  rw [if_pos rfl, if_pos rfl]
  obtain ⟨c, e1, e2⟩ := names_loop hr hn hB.1 y2 k 0 300 0 (by omega) (by omega) (fun m hm => by rw [b_0]; rfl) (fun j hj => absurd hj (by omega)) (fun j j' hj => absurd hj (by omega))
  have e1 : f_X7_namesEachPageOnce (nI r) S = some (b2i c, S) := e1
  obtain ⟨x, d1, d2⟩ := read55 hr hn hM.1 (fun x1 x3 S => if x3 = (((1 : Int32) <<< ((S.1 0 10 0) &&& 31)) - (1 : Int32)) then (fl_X8_read_121 (fun S => some ((1 : Int32), S)) 300 x1 (0 : Int32) S) else ((f_X8_meet (3 : Int32) S).bind fun q23 => some (q23.1, q23.2))) k 0 300 0 (by omega) (by omega) (fun m hm => by rw [b_0, seen, Bool.and_false])
  rw [show (fl_X8_read_55 _ 300 (nI r) 0 0 M : Option (Int32 × Stt)) = _ from d1, e1, obind, if_b2i]
  dsimp only
  rw [hM.1]
  have vv : ∀ j, j < k → S.1 20 r j = M.1 3 0 (40 * r + j) := fun j hj => y4 j hj
  have eqv : x = ((1 : Int32) <<< (nI k &&& 31)) - 1 ↔ okR (S.1 20 r) k := by
    constructor
    · intro ex
      refine onto_ok hn (fun m hm => ?_)
      have := d2 m (by omega)
      rw [ex, full_bits k hn m (by omega), decide_eq_true hm, Bool.true_and] at this
      obtain ⟨j, hj, e⟩ := (seen_iff _ _ _).mp this.symm
      exact ⟨j, hj, (vv j hj).trans e⟩
    · intro ho
      refine b_ext (fun m hm => ?_)
      rw [d2 m hm, full_bits k hn m hm]
      by_cases cm : m < k
      · obtain ⟨j, hj, e⟩ := ok_onto hn ho cm
        rw [(seen_iff _ m k).mpr ⟨j, hj, (vv j hj).symm.trans e⟩, Bool.and_true]
      · rw [decide_eq_false cm]; rfl
  by_cases ho : okR (S.1 20 r) k
  · rw [if_pos (e2.mpr ho), if_pos (eqv.mpr ho)]
    have key : ∀ j, j < k → (S.1 20 r j).toNatClampNeg < k ∧ S.1 20 r j = nI (S.1 20 r j).toNatClampNeg := by
      intro j hj
      obtain ⟨y, hy, e⟩ := ho.1 j hj
      rw [e, cl_nI (by omega)]
      exact ⟨hy, rfl⟩
    have inj : ∀ i j, i < k → j < k → (S.1 20 r i).toNatClampNeg = (S.1 20 r j).toNatClampNeg → i = j := fun i j hi hj e => ho.2 i j hi hj (by rw [(key i hi).2, (key j hj).2, e])
    obtain ⟨S', s1, s2, s3, s4, -⟩ := read83 (σ := fun j => (S.1 20 r j).toNatClampNeg) hr hn (fun j hj => (key j hj).1) inj k 0 300 S (by omega) (by omega) hB.1 (fun j hj => (key j hj).2)
    obtain ⟨M', t1, t2, t3, t4, -⟩ := read121 (σ := fun j => (S.1 20 r j).toNatClampNeg) hr hn (fun j hj => (key j hj).1) inj k 0 300 M (by omega) (by omega) hM.1 (fun j hj => by rw [← vv j hj]; exact (key j hj).2)
    have hf : ∃ f : Nat → Nat, ∀ i, i < k → f i < k ∧ (S.1 20 r (f i)).toNatClampNeg = i := by
      have ex : ∀ i, i < k → ∃ j, j < k ∧ (S.1 20 r j).toNatClampNeg = i := fun i hi => by
        obtain ⟨j, hj, e⟩ := ok_onto hn ho hi
        exact ⟨j, hj, by rw [e, cl_nI (by omega)]⟩
      refine ⟨fun i => if hi : i < k then Classical.choose (ex i hi) else 0, fun i hi => ?_⟩
      dsimp only
      rw [dif_pos hi]
      exact Classical.choose_spec (ex i hi)
    obtain ⟨f, hf⟩ := hf
    refine ⟨1, S', M', s1, t1, h.days hV hB hR hM hr0 f ⟨fun i hi => (hf i hi).1, fun i j hi hj e => ?_⟩ s2 s3 (fun i hi => ?_) t2 t3 (fun i hi => ?_)⟩
    · rw [setD5, setD5] at e
      have := (hf i hi).2
      rw [e, (hf j hj).2] at this
      exact this.symm
    · have := s4 (f i) (by omega) (hf i hi).1
      rw [(hf i hi).2] at this
      exact this
    · have := t4 (f i) (by omega) (hf i hi).1
      rw [(hf i hi).2] at this
      exact this
  · rw [if_neg (fun q => ho (e2.mp q)), if_neg (fun q => ho (eqv.mp q))]
    obtain ⟨S', M', e1, e2, e3⟩ := h.refuse (k := 3) (by omega) (by omega)
    exact ⟨-3, S', M', by rw [show f_X7_refuse 3 S = some (-3, S') from e1, obind], by rw [show f_X8_meet 3 M = some (-3, M') from e2, obind], e3⟩
