/-! keep, on -/
theorem shelf2 (x : Int32) : ((∀ S, f_X7_isShelf x S = some (0, S)) ∧ ¬ (0 ≤ x ∧ x ≤ 2)) ∨ ∃ k, k < 3 ∧ x = nI k ∧ (∀ S, f_X7_isShelf x S = some (1, S)) ∧ (0 ≤ x ∧ x ≤ 2) := by
  rcases ixle x (k := 2) (by omega) with ⟨h, h2⟩ | ⟨d, hd, rfl, h1, h2, h3⟩
  · refine Or.inl ⟨fun S => ?_, h⟩
    unfold f_X7_isShelf
    rcases h2 with h2 | ⟨h2, h3⟩
    · rw [if_pos h2]
    · rw [if_neg h2, if_pos]
      rw [Int32.lt_iff_toInt_lt, nI_toInt (by omega)] at h3
      rw [n9 3, Int32.le_iff_toInt_le, nI_toInt (by omega)]
      omega
  · refine Or.inr ⟨d, by omega, rfl, fun S => ?_, h3⟩
    unfold f_X7_isShelf
    rw [if_neg h1, n9 3, if_neg (nI_ge (by omega) (by omega))]
theorem ixk (a i w : Nat) : nI a + 1 + 6 * nI i + nI w = nI (a + 1 + 6 * i + w) := by rw [n9 1, n9 6, pk_mul, nI_add, nI_add, nI_add]
theorem keepI {a i n : Nat} (ha : a ≤ 76) (hi : i < 6) (ke : Int32 → Int32 → Stt → Option (Int32 × Stt)) : ∀ (k w fuel : Nat) (M : Stt), w + k = 6 → k < fuel → ∃ M', fl_X8_keep_49 ke fuel (nI a) (nI i) (nI w) M = ke (nI a) (nI i) M' ∧ (∀ F x j, ¬ (F = 14 ∧ x = 0 ∧ a + 1 + 6 * i + w ≤ j ∧ j < a + 1 + 6 * i + 6) → M'.1 F x j = M.1 F x j) ∧ M'.2 = M.2 ∧ ∀ v, w ≤ v → v < 6 → M'.1 14 0 (a + 1 + 6 * i + v) = M.1 (7 + v) 0 i := by
  intro k
  induction k with
  | zero =>
    intro w fuel M h1 h2
    obtain ⟨g, rfl⟩ : ∃ g, fuel = g + 1 := ⟨fuel - 1, by omega⟩
    refine ⟨M, ?_, fun _ _ _ _ => rfl, rfl, fun j q1 q2 => absurd q2 (by omega)⟩
    rw [fls_X8_keep_49]
    unfold fb_X8_keep_49
    rw [n9 5, nI_iflt (by omega) (by omega), if_pos (by omega)]
  | succ k ih =>
    intro w fuel M h1 h2
    obtain ⟨g, rfl⟩ : ∃ g, fuel = g + 1 := ⟨fuel - 1, by omega⟩
    obtain ⟨M', b1, b2, b3, b4⟩ := ih (w + 1) g (put M 14 0 (a + 1 + 6 * i + w) (M.1 (7 + w) 0 i)) (by omega) (by omega)
    refine ⟨M', ?_, fun F x j q => ?_, b3.trans rfl, fun v q1 q2 => ?_⟩
    · rw [fls_X8_keep_49]
      unfold fb_X8_keep_49
      rw [n9 5, nI_iflt (by omega) (by omega), if_neg (by omega), pageOf_eq hi (by omega), obind, ixk, ixb_nI (by omega) (by omega), grd_t, cl_nI (by omega), nI_1]
      exact b1
    · rw [b2 F x j (by omega), put_at, if_neg (by omega)]
    · by_cases c : v = w
      · subst c
        rw [b2 14 0 _ (by omega), put_at, if_pos ⟨rfl, rfl, rfl⟩]
      · rw [b4 v (by omega) q2, put_at, if_neg (by omega)]
theorem keepO {a n : Nat} (ha : a ≤ 76) (hn : n ≤ 6) : ∀ (k i fuel : Nat) (M : Stt), i + k = n → k < fuel → M.1 0 10 0 = nI n → ∃ M', fl_X8_keep_38 (fun S => some ((S.1 0 10 0), S)) fuel (nI a) (nI i) M = some (nI n, M') ∧ (∀ F x j, ¬ (F = 14 ∧ x = 0 ∧ a + 1 + 6 * i ≤ j ∧ j < a + 1 + 6 * n) → M'.1 F x j = M.1 F x j) ∧ M'.2 = M.2 ∧ ∀ y v, i ≤ y → y < n → v < 6 → M'.1 14 0 (a + 1 + 6 * y + v) = M.1 (7 + v) 0 y := by
  intro k
  induction k with
  | zero =>
    intro i fuel M h1 h2 hc
    obtain ⟨g, rfl⟩ : ∃ g, fuel = g + 1 := ⟨fuel - 1, by omega⟩
    refine ⟨M, ?_, fun _ _ _ _ => rfl, rfl, fun y v q1 q2 => absurd q2 (by omega)⟩
    rw [fls_X8_keep_38]
    unfold fb_X8_keep_38
    rw [hc, nI_ifle (by omega) (by omega), if_pos (by omega)]
    show some (M.1 0 10 0, M) = _
    rw [hc]
  | succ k ih =>
    intro i fuel M h1 h2 hc
    obtain ⟨g, rfl⟩ : ∃ g, fuel = g + 1 := ⟨fuel - 1, by omega⟩
    obtain ⟨M1, a1, a2, a3, a4⟩ := keepI (a := a) (i := i) (n := n) ha (by omega) (fun x2 x3 S => (fl_X8_keep_38 (fun S => some ((S.1 0 10 0), S)) g) x2 (x3 + (1 : Int32)) S) 6 0 300 M (by omega) (by omega)
    obtain ⟨M', b1, b2, b3, b4⟩ := ih (i + 1) g M1 (by omega) (by omega) (by rw [a2 0 10 0 (by omega)]; exact hc)
    refine ⟨M', ?_, fun F x j q => ?_, b3.trans a3, fun y v q1 q2 q3 => ?_⟩
    · rw [fls_X8_keep_38]
      unfold fb_X8_keep_38
      rw [hc, nI_ifle (by omega) (by omega), if_neg (by omega)]
      refine a1.trans ?_
      show fl_X8_keep_38 _ g (nI a) (nI i + 1) M1 = _
      rw [nI_1]
      exact b1
    · rw [b2 F x j (by omega), a2 F x j (by omega)]
    · by_cases c : y = i
      · subst c
        rw [b2 14 0 _ (by omega)]
        exact a4 v (by omega) q3
      · rw [b4 y v (by omega) q2 q3, a2 _ _ _ (by omega)]
theorem sim_keep (x1 : Int32) : SimI (f_X7_keep x1) (f_X8_keep x1) := by
  intro S M h
  obtain ⟨n, Q, hV, hB, hR, hM, hDP, hL, hr⟩ := h.bk
  have hn := hV.1
  unfold f_X7_keep f_X8_keep
  rw [in_eq, obind]
  rcases shelf2 x1 with ⟨b1, b2⟩ | ⟨k, hk, rfl, b1, b2⟩
  · exact ⟨-1, S, M, by rw [b1, obind, if_pos rfl], by rw [if_neg b2, if_pos rfl], h⟩
  rw [b1, obind, if_neg n10, if_pos b2, if_neg n10]
  dsimp only
  rw [hB.1, hM.1, n9 0, nI_if (by omega) (by omega), nI_if (by omega) (by omega)]
  by_cases c : n = 0
  · exact ⟨-4, S, M, by rw [if_pos c], by rw [if_pos c], h⟩
  rw [if_neg c, if_neg c, ixb_nI hk (by omega), grd_t, cl_nI (by omega), n9 38, pk_mul, ixb_nI (by omega) (by omega), grd_t, cl_nI (by omega)]
  obtain ⟨S1, a1, a2, a3, a4⟩ := become_eq (S := S) (b0 := 2 + k) (b1 := 0) (by omega) hn hB.1
  obtain ⟨M1, c1, c2, c3, c4⟩ := keepO (a := 38 * k) (n := n) (by omega) hn n 0 300 (put M 14 0 (38 * k) (nI n)) (by omega) (by omega) (by rw [put_at, if_neg (by omega)]; exact hM.1)
  have fM : ∀ F x j, ¬ (F = 14 ∧ x = 0 ∧ 38 * k ≤ j ∧ j < 38 * k + 38) → M1.1 F x j = M.1 F x j := fun F x j q => by rw [c2 F x j (by omega), put_at, if_neg (by omega)]
  refine ⟨nI n, S1, M1, ?_, c1, h.books a2.samex ⟨fun F a i q => fM F a i (by omega), by rw [c3]; rfl, by rw [c3]; rfl⟩ (h.2.2.2.2.1.frame (fun F i q1 q2 => a2.1 F 0 i (by omega)) (fM 0 10 0 (by omega)) (fun F i q1 q2 => fM F 0 i (by omega))) (fun k2 hk2 => ?_)⟩
  · rw [a1, obind, a2.1 17 0 0 (by omega), hB.1]
  · by_cases ck : k2 = k
    · subst ck
      refine Or.inr ⟨n, Q, by omega, hV, become_bc hB a3 a4, become_rk hR a4, hDP, ?_, fun i hi => ?_⟩
      · rw [c2 14 0 _ (by omega), put_at, if_pos ⟨rfl, rfl, rfl⟩]
      · have key : ∀ w, w ≤ 5 → M1.1 14 0 (38 * k2 + 1 + 6 * i + w) = S1.1 (tf w) (2 + k2) i := by
          intro w hw
          have ht : (10 ≤ tf w ∧ tf w ≤ 16) ∨ tf w = 18 := by unfold tf; split <;> (try omega); split <;> (try omega); split <;> (try omega); split <;> (try omega); split <;> omega
          rw [c4 i w (by omega) hi (by omega), a4 (tf w) i ht hi, raw_eq hB hM hr hi hw, put_at, if_neg (by omega)]
        exact ⟨key 0 (by omega), key 1 (by omega), key 2 (by omega), key 3 (by omega), key 4 (by omega), key 5 (by omega)⟩
    · rcases h.2.2.2.2.2.1 k2 hk2 with ⟨y1, y2⟩ | ⟨n', Q', y0, y1, y2, y3, y4, y5, y6⟩
      · exact Or.inl ⟨by rw [a2.1 17 (2 + k2) 0 (by omega)]; exact y1, by rw [fM 14 0 _ (by omega)]; exact y2⟩
      · have := y1.1
        refine Or.inr ⟨n', Q', y0, y1, a2.bc (by omega) y2, a2.rk (by omega) y3, y4, by rw [fM 14 0 _ (by omega)]; exact y5, fun i hi => ?_⟩
        rw [fM 14 0 _ (by omega), fM 14 0 _ (by omega), fM 14 0 _ (by omega), fM 14 0 _ (by omega), fM 14 0 _ (by omega), fM 14 0 _ (by omega), a2.1 10 (2 + k2) i (by omega), a2.1 11 (2 + k2) i (by omega), a2.1 12 (2 + k2) i (by omega), a2.1 13 (2 + k2) i (by omega), a2.1 14 (2 + k2) i (by omega), a2.1 15 (2 + k2) i (by omega)]
        exact y6 i hi
theorem ixk0 (a i : Nat) : nI a + 1 + 6 * nI i = nI (a + 1 + 6 * i) := by rw [n9 1, n9 6, pk_mul, nI_add, nI_add]
theorem onO {a n : Nat} (ha : a ≤ 76) (hn : n ≤ 6) : ∀ (k i fuel : Nat) (M : Stt), i + k = n → k < fuel → M.1 0 10 0 = nI n → ∃ M', fl_X8_on_45 (fun S => some ((S.1 0 10 0), S)) fuel (nI a) (nI i) M = some (nI n, M') ∧ (∀ F x j, ¬ (7 ≤ F ∧ F ≤ 12 ∧ x = 0 ∧ i ≤ j) → M'.1 F x j = M.1 F x j) ∧ M'.2 = M.2 ∧ ∀ y v, i ≤ y → y < n → v < 6 → M'.1 (7 + v) 0 y = M.1 14 0 (a + 1 + 6 * y + v) := by
  intro k
  induction k with
  | zero =>
    intro i fuel M h1 h2 hc
    obtain ⟨g, rfl⟩ : ∃ g, fuel = g + 1 := ⟨fuel - 1, by omega⟩
    refine ⟨M, ?_, fun _ _ _ _ => rfl, rfl, fun y v q1 q2 => absurd q2 (by omega)⟩
    rw [fls_X8_on_45]
    unfold fb_X8_on_45
    rw [hc, nI_ifle (by omega) (by omega), if_pos (by omega)]
    show some (M.1 0 10 0, M) = _
    rw [hc]
  | succ k ih =>
    intro i fuel M h1 h2 hc
    obtain ⟨g, rfl⟩ : ∃ g, fuel = g + 1 := ⟨fuel - 1, by omega⟩
    have step : ∃ M1, fl_X8_on_45 (fun S => some ((S.1 0 10 0), S)) (g + 1) (nI a) (nI i) M = fl_X8_on_45 (fun S => some ((S.1 0 10 0), S)) g (nI a) (nI (i + 1)) M1 ∧ (∀ F x j, ¬ (7 ≤ F ∧ F ≤ 12 ∧ x = 0 ∧ j = i) → M1.1 F x j = M.1 F x j) ∧ M1.2 = M.2 ∧ ∀ v, v < 6 → M1.1 (7 + v) 0 i = M.1 14 0 (a + 1 + 6 * i + v) := by
      rw [fls_X8_on_45]
      unfold fb_X8_on_45
      rw [hc, nI_ifle (by omega) (by omega), if_neg (by omega), ixk0, n9 1, n9 2, n9 3, n9 4, n9 5, nI_add, nI_add, nI_add, nI_add, nI_add, nI_add, ixb_nI (show i < 6 by omega) (by omega), ixb_nI (show a + 1 + 6 * i < 114 by omega) (by omega), ixb_nI (show a + 1 + 6 * i + 1 < 114 by omega) (by omega), ixb_nI (show a + 1 + 6 * i + 2 < 114 by omega) (by omega), ixb_nI (show a + 1 + 6 * i + 3 < 114 by omega) (by omega), ixb_nI (show a + 1 + 6 * i + 4 < 114 by omega) (by omega), ixb_nI (show a + 1 + 6 * i + 5 < 114 by omega) (by omega), cl_nI (show i < 2 ^ 31 by omega), cl_nI (show a + 1 + 6 * i < 2 ^ 31 by omega), cl_nI (show a + 1 + 6 * i + 1 < 2 ^ 31 by omega), cl_nI (show a + 1 + 6 * i + 2 < 2 ^ 31 by omega), cl_nI (show a + 1 + 6 * i + 3 < 2 ^ 31 by omega), cl_nI (show a + 1 + 6 * i + 4 < 2 ^ 31 by omega), cl_nI (show a + 1 + 6 * i + 5 < 2 ^ 31 by omega)]
      refine ⟨_, rfl, fun F x j q => ?_, rfl, fun v hv => ?_⟩
      · rw [put_at, if_neg (by omega), put_at, if_neg (by omega), put_at, if_neg (by omega), put_at, if_neg (by omega), put_at, if_neg (by omega), put_at, if_neg (by omega)]
      · rcases (show v = 0 ∨ v = 1 ∨ v = 2 ∨ v = 3 ∨ v = 4 ∨ v = 5 by omega) with rfl | rfl | rfl | rfl | rfl | rfl <;> simp [put_at]
    obtain ⟨M1, a1, a2, a3, a4⟩ := step
    obtain ⟨M', b1, b2, b3, b4⟩ := ih (i + 1) g M1 (by omega) (by omega) (by rw [a2 0 10 0 (by omega)]; exact hc)
    refine ⟨M', a1.trans b1, fun F x j q => ?_, b3.trans a3, fun y v q1 q2 q3 => ?_⟩
    · rw [b2 F x j (by omega), a2 F x j (by omega)]
    · by_cases c : y = i
      · subst c
        rw [b2 _ _ _ (by omega)]
        exact a4 v q3
      · rw [b4 y v (by omega) q2 q3, a2 _ _ _ (by omega)]
theorem sim_on (x1 : Int32) : SimI (f_X7_on x1) (f_X8_on x1) := by
  intro S M h
  unfold f_X7_on f_X8_on
  rw [in_eq, obind]
  rcases shelf2 x1 with ⟨b1, b2⟩ | ⟨k, hk, rfl, b1, b2⟩
  · exact ⟨-1, S, M, by rw [b1, obind, if_pos rfl], by rw [if_neg b2, if_pos rfl], h⟩
  rw [b1, obind, if_neg n10, if_pos b2, if_neg n10, ixb_nI hk (by omega), grd_t, grd_t, cl_nI (by omega), n9 38, pk_mul, ixb_nI (by omega) (by omega), grd_t, grd_t, cl_nI (by omega)]
  dsimp only
  rcases h.2.2.2.2.2.1 k hk with ⟨y1, y2⟩ | ⟨n, Q, y0, hV, hB, hR, hDP, y5, y6⟩
  · obtain ⟨S', M', e1, e2, e3⟩ := h.refuse (k := 1) (by omega) (by omega)
    exact ⟨-3, S', M', by rw [y1, if_pos rfl, n9 1, e1, obind], by rw [y2, if_pos rfl, n9 1, e2, obind], e3⟩
  have hn := hV.1
  rw [hB.1, y5, if_neg (nI_ne0 y0 (by omega)), if_neg (nI_ne_neg (by omega) neg9)]
  obtain ⟨S1, a1, a2, a3, a4⟩ := become_eq (S := S) (b0 := 0) (b1 := 2 + k) (by omega) hn hB.1
  obtain ⟨M1, c1, c2, c3, c4⟩ := onO (a := 38 * k) (n := n) (by omega) hn n 0 300 (put M 0 10 0 (nI n)) (by omega) (by omega) (by rw [put_at, if_pos ⟨rfl, rfl, rfl⟩])
  have key : ∀ w i, i < n → w ≤ 5 → M1.1 (7 + w) 0 i = S1.1 (tf w) 0 i := by
    intro w i hi hw
    rw [c4 i w (by omega) hi (by omega), put_at, if_neg (by omega)]
    obtain ⟨q0, q1, q2, q3, q4, q5⟩ := y6 i hi
    rcases (show w = 0 ∨ w = 1 ∨ w = 2 ∨ w = 3 ∨ w = 4 ∨ w = 5 by omega) with rfl | rfl | rfl | rfl | rfl | rfl
    · exact q0.trans (a4 10 i (by omega) hi).symm
    · exact q1.trans (a4 12 i (by omega) hi).symm
    · exact q2.trans (a4 13 i (by omega) hi).symm
    · exact q3.trans (a4 11 i (by omega) hi).symm
    · exact q4.trans (a4 14 i (by omega) hi).symm
    · exact q5.trans (a4 15 i (by omega) hi).symm
  have hB1 : BC S1 0 n Q := become_bc hB a3 a4
  refine ⟨nI n, S1, M1, ?_, c1, h.book1 a2 (fun F a i q1 q2 => ?_) (c3.trans rfl) ⟨n, Q, hV, hB1, become_rk hR a4, ⟨?_, fun i hi => ?_⟩, hDP, fun i hi => ⟨(key 3 i hi (by omega)).symm, (key 4 i hi (by omega)).symm⟩⟩⟩
  · rw [a1, obind, a3]
  · rw [c2 F a i (by omega), put_at, if_neg (by omega)]
  · rw [c2 0 10 0 (by omega), put_at, if_pos ⟨rfl, rfl, rfl⟩]
  · obtain ⟨p0, p1, p2, p3, p4, p5, p6⟩ := hB1.2 i hi
    exact ⟨(key 0 i hi (by omega)).trans p0, fun q => (key 3 i hi (by omega)).trans (p1 q), (key 1 i hi (by omega)).trans p2, (key 2 i hi (by omega)).trans p3, fun q => (key 4 i hi (by omega)).trans (p4 q), (key 5 i hi (by omega)).trans p5⟩
