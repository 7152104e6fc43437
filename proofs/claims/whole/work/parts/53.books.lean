/-! a book that changes -/
def KB (b : Nat) (S S' : Stt) : Prop := (∀ F a i, ¬ (10 ≤ F ∧ F ≤ 18 ∧ a = b) → S'.1 F a i = S.1 F a i) ∧ S'.2 = S.2
theorem KB.rf (b : Nat) (S : Stt) : KB b S S := ⟨fun _ _ _ _ => rfl, rfl⟩
theorem KB.tr {b : Nat} {S S' S2 : Stt} (h : KB b S S') (h2 : KB b S' S2) : KB b S S2 := ⟨fun F a i q => (h2.1 F a i q).trans (h.1 F a i q), h2.2.trans h.2⟩
theorem KB.same {S S' : Stt} (h : KB 1 S S') : Same S S' := ⟨fun F a i q => h.1 F a i (by omega), h.2⟩
theorem KB.bc {b b2 n : Nat} {S S' : Stt} {Q : Nat → Nat → Nat} (h : KB b S S') (hb : b2 ≠ b) (hB : BC S b2 n Q) : BC S' b2 n Q := hB.frame (fun F i q1 q2 => h.1 F b2 i (by omega))
theorem KB.rk {b b2 n : Nat} {S S' : Stt} {Q : Nat → Nat → Nat} (h : KB b S S') (hb : b2 ≠ b) (hB : RkC S b2 n Q) : RkC S' b2 n Q := hB.frame (fun F i q1 q2 => h.1 F b2 i (by omega))
theorem pbecome_eq {b0 b1 i : Nat} (hb : b0 ≠ b1) (S : Stt) : ∃ S', f_X3_become b0 i b1 i S = some S' ∧ (∀ F, 10 ≤ F → F ≤ 16 → S'.1 F b0 i = S.1 F b1 i) ∧ (∀ F a j, ¬ (10 ≤ F ∧ F ≤ 16 ∧ a = b0 ∧ j = i) → S'.1 F a j = S.1 F a j) ∧ S'.2 = S.2 := by
  have hb2 : ¬ b1 = b0 := fun q => hb q.symm
  refine ⟨_, rfl, fun F h1 h2 => ?_, fun F a j h => ?_, rfl⟩
  · rcases (show F = 10 ∨ F = 11 ∨ F = 12 ∨ F = 13 ∨ F = 14 ∨ F = 15 ∨ F = 16 by omega) with rfl | rfl | rfl | rfl | rfl | rfl | rfl <;> simp [put_at, hb2]
  · rw [put_at, if_neg (by omega), put_at, if_neg (by omega), put_at, if_neg (by omega), put_at, if_neg (by omega), put_at, if_neg (by omega), put_at, if_neg (by omega), put_at, if_neg (by omega)]
theorem become_loop {b0 b1 n : Nat} (hb : b0 ≠ b1) (hn : n ≤ 6) : ∀ (k i fuel : Nat) (S : Stt), i + k = n → k < fuel → S.1 17 b0 0 = nI n → ∃ S', fl_X0_become_10 (fun S => some S) fuel b0 b1 (nI i) S = some S' ∧ (∀ F a j, ¬ (((10 ≤ F ∧ F ≤ 16) ∨ F = 18) ∧ a = b0 ∧ i ≤ j) → S'.1 F a j = S.1 F a j) ∧ S'.2 = S.2 ∧ ∀ F j, ((10 ≤ F ∧ F ≤ 16) ∨ F = 18) → i ≤ j → j < n → S'.1 F b0 j = S.1 F b1 j := by
  intro k
  induction k with
  | zero =>
    intro i fuel S h1 h2 hc
    obtain ⟨g, rfl⟩ : ∃ g, fuel = g + 1 := ⟨fuel - 1, by omega⟩
    refine ⟨S, ?_, fun _ _ _ _ => rfl, rfl, fun F j _ q1 q2 => absurd q2 (by omega)⟩
    rw [fls_X0_become_10]
    unfold fb_X0_become_10
    rw [hc, nI_ifle (by omega) (by omega), if_pos (by omega)]
  | succ k ih =>
    intro i fuel S h1 h2 hc
    obtain ⟨g, rfl⟩ : ∃ g, fuel = g + 1 := ⟨fuel - 1, by omega⟩
    obtain ⟨S1, a1, a2, a3, a4⟩ := pbecome_eq (i := i) hb S
    obtain ⟨S', b1', b2, b3, b4⟩ := ih (i + 1) g (put S1 18 b0 i (S1.1 18 b1 i)) (by omega) (by omega) (by rw [put_at, if_neg (by omega), a3 17 b0 0 (by omega)]; exact hc)
    refine ⟨S', ?_, fun F a j q => ?_, ?_, fun F j hF q1 q2 => ?_⟩
    · rw [fls_X0_become_10]
      unfold fb_X0_become_10
      rw [hc, nI_ifle (by omega) (by omega), if_neg (by omega), ixb_nI (show i < 6 by omega) (by omega), grd_t, grd_t, cl_nI (by omega), a1, obind, grd_t, grd_t, nI_1]
      exact b1'
    · rw [b2 F a j (by omega), put_at, if_neg (by omega), a3 F a j (by omega)]
    · rw [b3]; exact a4
    · by_cases c : j = i
      · subst c
        rw [b2 F b0 j (by omega), put_at]
        by_cases c2 : F = 18
        · subst c2
          rw [if_pos ⟨rfl, rfl, rfl⟩, a3 18 b1 j (by omega)]
        · rw [if_neg (fun q => c2 q.1), a2 F (by omega) (by omega)]
      · rw [b4 F j hF (by omega) q2, put_at, if_neg (by omega), a3 F b1 j (by omega)]
theorem become_eq {S : Stt} {b0 b1 n : Nat} (hb : b0 ≠ b1) (hn : n ≤ 6) (hc : S.1 17 b1 0 = nI n) : ∃ S', f_X0_become b0 b1 S = some S' ∧ KB b0 S S' ∧ S'.1 17 b0 0 = nI n ∧ ∀ F j, ((10 ≤ F ∧ F ≤ 16) ∨ F = 18) → j < n → S'.1 F b0 j = S.1 F b1 j := by
  obtain ⟨S', a1, a2, a3, a4⟩ := become_loop hb hn n 0 300 (put S 17 b0 0 (nI n)) (by omega) (by omega) (by rw [put_at, if_pos ⟨rfl, rfl, rfl⟩])
  refine ⟨S', ?_, ⟨fun F a i q => ?_, a3.trans rfl⟩, ?_, fun F j hF hj => ?_⟩
  · unfold f_X0_become
    rw [hc]
    exact a1
  · rw [a2 F a i (by omega), put_at, if_neg (by omega)]
  · rw [a2 17 b0 0 (by omega), put_at, if_pos ⟨rfl, rfl, rfl⟩]
  · rw [a4 F j hF (by omega) hj, put_at, if_neg (by omega)]
theorem become_bc {S S' : Stt} {b0 b1 n : Nat} {Q : Nat → Nat → Nat} (hB : BC S b1 n Q) (h1 : S'.1 17 b0 0 = nI n) (h2 : ∀ F j, ((10 ≤ F ∧ F ≤ 16) ∨ F = 18) → j < n → S'.1 F b0 j = S.1 F b1 j) : BC S' b0 n Q := by
  refine ⟨h1, fun i hi => ?_⟩
  have := hB.2 i hi
  unfold PgC at *
  rw [h2 10 i (by omega) hi, h2 11 i (by omega) hi, h2 12 i (by omega) hi, h2 13 i (by omega) hi, h2 14 i (by omega) hi, h2 15 i (by omega) hi, h2 16 i (by omega) hi]
  exact this
theorem become_rk {S S' : Stt} {b0 b1 n : Nat} {Q : Nat → Nat → Nat} (hR : RkC S b1 n Q) (h2 : ∀ F j, ((10 ≤ F ∧ F ≤ 16) ∨ F = 18) → j < n → S'.1 F b0 j = S.1 F b1 j) : RkC S' b0 n Q := by
  obtain ⟨ρ, r1, r2⟩ := hR
  exact ⟨ρ, fun k hk => by rw [h2 18 k (by omega) hk]; exact r1 k hk, r2⟩
/-- other days -/
def setD (Q : Nat → Nat → Nat) (f : Nat → Nat) : Nat → Nat → Nat := fun k i => if k = 5 then f i else Q k i
theorem setD5 (Q : Nat → Nat → Nat) (f : Nat → Nat) (i : Nat) : setD Q f 5 i = f i := rfl
theorem setD_ne {Q : Nat → Nat → Nat} {f : Nat → Nat} {k : Nat} (h : k ≠ 5) (i : Nat) : setD Q f k i = Q k i := if_neg h
theorem setD_wt (Q : Nat → Nat → Nat) (f : Nat → Nat) (i : Nat) : wt (setD Q f) i = wt Q i := rfl
theorem RkC.ext {S : Stt} {b n : Nat} {Q Q' : Nat → Nat → Nat} (h : RkC S b n Q) (he : ∀ i, i < n → wt Q' i = wt Q i) : RkC S b n Q' := by
  obtain ⟨ρ, r1, r2⟩ := h
  refine ⟨ρ, r1, fun k k' q1 q2 => ?_⟩
  have := r2 k k' q1 q2
  unfold Bef at *
  rw [he _ (r1 k (by omega)).2, he _ (r1 k' q2).2]
  exact this
theorem RkC.frame1 {S S' : Stt} {b n : Nat} {Q : Nat → Nat → Nat} (h : RkC S b n Q) (hf : ∀ k, S'.1 18 b k = S.1 18 b k) : RkC S' b n Q := by
  obtain ⟨ρ, h1, h2⟩ := h
  exact ⟨ρ, fun k hk => by rw [hf k]; exact h1 k hk, h2⟩
theorem BkV.setD {n : Nat} {Q : Nat → Nat → Nat} (h : BkV n Q) {f : Nat → Nat} (hf : ∀ i, i < n → f i ≤ 99) : BkV n (setD Q f) :=
  ⟨h.1, fun i hi => by
    obtain ⟨v0, v1, v2, v3, v4, v5⟩ := h.2 i hi
    exact ⟨v0, v1, v2, v3, v4, hf i hi⟩⟩
theorem BC.setD {S S' : Stt} {b n : Nat} {Q : Nat → Nat → Nat} (h : BC S b n Q) {f : Nat → Nat} (hf : ∀ i, i < n → S'.1 15 b i = nI (f i)) (hs : ∀ F i, 10 ≤ F → F ≤ 17 → F ≠ 15 → S'.1 F b i = S.1 F b i) : BC S' b n (setD Q f) := by
  refine ⟨by rw [hs 17 0 (by omega) (by omega) (by omega)]; exact h.1, fun i hi => ?_⟩
  obtain ⟨p0, p1, p2, p3, p4, p5, p6⟩ := h.2 i hi
  unfold PgC
  rw [hs 10 i (by omega) (by omega) (by omega), hs 11 i (by omega) (by omega) (by omega), hs 12 i (by omega) (by omega) (by omega), hs 13 i (by omega) (by omega) (by omega), hs 14 i (by omega) (by omega) (by omega), hs 16 i (by omega) (by omega) (by omega)]
  exact ⟨p0, p1, p2, p3, p4, hf i hi, p6⟩
theorem BM.setD {M M' : Stt} {n : Nat} {Q : Nat → Nat → Nat} (h : BM M n Q) {f : Nat → Nat} (hf : ∀ i, i < n → M'.1 12 0 i = nI (f i)) (hc : M'.1 0 10 0 = M.1 0 10 0) (hs : ∀ F i, 7 ≤ F → F ≤ 11 → M'.1 F 0 i = M.1 F 0 i) : BM M' n (setD Q f) := by
  refine ⟨by rw [hc]; exact h.1, fun i hi => ?_⟩
  obtain ⟨p0, p1, p2, p3, p4, p5⟩ := h.2 i hi
  unfold PgM
  rw [hs 7 i (by omega) (by omega), hs 8 i (by omega) (by omega), hs 9 i (by omega) (by omega), hs 10 i (by omega) (by omega), hs 11 i (by omega) (by omega)]
  exact ⟨p0, p1, p2, p3, p4, hf i hi⟩
theorem turnE_loop {b n : Nat} (hn : n ≤ 6) : ∀ (k i fuel : Nat) (S : Stt), i + k = n → k < fuel → S.1 17 b 0 = nI n → ∃ S', fl_X0_turnFromEnd_2 (fun S => some S) fuel b (nI i) S = some S' ∧ (∀ F a j, ¬ (F = 15 ∧ a = b ∧ i ≤ j) → S'.1 F a j = S.1 F a j) ∧ S'.2 = S.2 ∧ ∀ j, i ≤ j → j < n → S'.1 15 b j = nI (n - 1 - j) := by
  intro k
  induction k with
  | zero =>
    intro i fuel S h1 h2 hc
    obtain ⟨g, rfl⟩ : ∃ g, fuel = g + 1 := ⟨fuel - 1, by omega⟩
    refine ⟨S, ?_, fun _ _ _ _ => rfl, rfl, fun j q1 q2 => absurd q2 (by omega)⟩
    rw [fls_X0_turnFromEnd_2]
    unfold fb_X0_turnFromEnd_2
    rw [hc, nI_ifle (by omega) (by omega), if_pos (by omega)]
  | succ k ih =>
    intro i fuel S h1 h2 hc
    obtain ⟨g, rfl⟩ : ∃ g, fuel = g + 1 := ⟨fuel - 1, by omega⟩
    obtain ⟨S', b1, b2, b3, b4⟩ := ih (i + 1) g (put S 15 b i (nI (n - 1 - i))) (by omega) (by omega) (by rw [put_at, if_neg (by omega)]; exact hc)
    refine ⟨S', ?_, fun F a j q => ?_, b3.trans rfl, fun j q1 q2 => ?_⟩
    · rw [fls_X0_turnFromEnd_2]
      unfold fb_X0_turnFromEnd_2
      rw [hc, nI_ifle (by omega) (by omega), if_neg (by omega), ixb_nI (show i < 6 by omega) (by omega), grd_t, cl_nI (by omega), nI_1, nIm1 (by omega), pk_sub (by omega)]
      exact b1
    · rw [b2 F a j (by omega), put_at, if_neg (by omega)]
    · by_cases c : j = i
      · subst c
        rw [b2 15 b j (by omega), put_at, if_pos ⟨rfl, rfl, rfl⟩]
      · exact b4 j (by omega) q2
theorem turnE_eq {S : Stt} {b n : Nat} (hn : n ≤ 6) (hc : S.1 17 b 0 = nI n) : ∃ S', f_X0_turnFromEnd b S = some S' ∧ (∀ F a j, ¬ (F = 15 ∧ a = b) → S'.1 F a j = S.1 F a j) ∧ S'.2 = S.2 ∧ ∀ j, j < n → S'.1 15 b j = nI (n - 1 - j) := by
  obtain ⟨S', b1, b2, b3, b4⟩ := turnE_loop (b := b) hn n 0 300 S (by omega) (by omega) hc
  exact ⟨S', b1, fun F a j q => b2 F a j (by omega), b3, fun j hj => b4 j (by omega) hj⟩
theorem turnF_loop {b n : Nat} (hn : n ≤ 6) : ∀ (k i fuel : Nat) (S : Stt), i + k = n → k < fuel → S.1 17 b 0 = nI n → ∃ S', fl_X0_turnFromFront_2 (fun S => some S) fuel b (nI i) S = some S' ∧ (∀ F a j, ¬ (F = 15 ∧ a = b ∧ i ≤ j) → S'.1 F a j = S.1 F a j) ∧ S'.2 = S.2 ∧ ∀ j, i ≤ j → j < n → S'.1 15 b j = nI j := by
  intro k
  induction k with
  | zero =>
    intro i fuel S h1 h2 hc
    obtain ⟨g, rfl⟩ : ∃ g, fuel = g + 1 := ⟨fuel - 1, by omega⟩
    refine ⟨S, ?_, fun _ _ _ _ => rfl, rfl, fun j q1 q2 => absurd q2 (by omega)⟩
    rw [fls_X0_turnFromFront_2]
    unfold fb_X0_turnFromFront_2
    rw [hc, nI_ifle (by omega) (by omega), if_pos (by omega)]
  | succ k ih =>
    intro i fuel S h1 h2 hc
    obtain ⟨g, rfl⟩ : ∃ g, fuel = g + 1 := ⟨fuel - 1, by omega⟩
    obtain ⟨S', b1, b2, b3, b4⟩ := ih (i + 1) g (put S 15 b i (nI i)) (by omega) (by omega) (by rw [put_at, if_neg (by omega)]; exact hc)
    refine ⟨S', ?_, fun F a j q => ?_, b3.trans rfl, fun j q1 q2 => ?_⟩
    · rw [fls_X0_turnFromFront_2]
      unfold fb_X0_turnFromFront_2
      rw [hc, nI_ifle (by omega) (by omega), if_neg (by omega), ixb_nI (show i < 6 by omega) (by omega), grd_t, cl_nI (by omega), nI_1]
      exact b1
    · rw [b2 F a j (by omega), put_at, if_neg (by omega)]
    · by_cases c : j = i
      · subst c
        rw [b2 15 b j (by omega), put_at, if_pos ⟨rfl, rfl, rfl⟩]
      · exact b4 j (by omega) q2
theorem turnF_eq {S : Stt} {b n : Nat} (hn : n ≤ 6) (hc : S.1 17 b 0 = nI n) : ∃ S', f_X0_turnFromFront b S = some S' ∧ (∀ F a j, ¬ (F = 15 ∧ a = b) → S'.1 F a j = S.1 F a j) ∧ S'.2 = S.2 ∧ ∀ j, j < n → S'.1 15 b j = nI j := by
  obtain ⟨S', b1, b2, b3, b4⟩ := turnF_loop (b := b) hn n 0 300 S (by omega) (by omega) hc
  exact ⟨S', b1, fun F a j q => b2 F a j (by omega), b3, fun j hj => b4 j (by omega) hj⟩
/-! the words of a page -/
def fitK (w m k : Nat) : Bool := (List.range k).all (fun f => !(w.testBit f) || m.testBit f)
theorem fitK_s (w m k : Nat) : fitK w m (k + 1) = (fitK w m k && (!(w.testBit k) || m.testBit k)) := by
  unfold fitK
  rw [List.range_succ, List.all_append]
  simp
theorem words_loop {b i w : Nat} : ∀ (k f fuel : Nat) (S : Stt), f + k = 5 → k < fuel → (∀ m, m < 32 → bt (S.1 16 b i) m = fitK w m f) → ∃ S', fl_X3_putWords_12 (fun S => some S) fuel b i (nI w) (nI f) S = some S' ∧ (∀ F a j, ¬ (F = 16 ∧ a = b ∧ j = i) → S'.1 F a j = S.1 F a j) ∧ S'.2 = S.2 ∧ ∀ m, m < 32 → bt (S'.1 16 b i) m = fitP w m := by
  intro k
  induction k with
  | zero =>
    intro f fuel S h1 h2 hc
    obtain ⟨g, rfl⟩ : ∃ g, fuel = g + 1 := ⟨fuel - 1, by omega⟩
    have hf : f = 5 := by omega
    subst hf
    refine ⟨S, ?_, fun _ _ _ _ => rfl, rfl, fun m hm => hc m hm⟩
    rw [fls_X3_putWords_12]
    unfold fb_X3_putWords_12
    rw [n9 5, if_pos (nI_le (by omega) (by omega))]
  | succ k ih =>
    intro f fuel S h1 h2 hc
    obtain ⟨g, rfl⟩ : ∃ g, fuel = g + 1 := ⟨fuel - 1, by omega⟩
    by_cases c : bt (nI w) f = true
    · have hw : w.testBit f = true := by rw [← b_nI w f (by omega)]; exact c
      obtain ⟨S', e1, e2, e3, e4⟩ := ih (f + 1) g (put S 16 b i (S.1 16 b i &&& litC f)) (by omega) (by omega) (fun m hm => by
        rw [put_at, if_pos ⟨rfl, rfl, rfl⟩, b_and, hc m hm, b_litC f (by omega) m hm, fitK_s, hw]
        simp)
      refine ⟨S', ?_, fun F a j q => ?_, e3.trans rfl, e4⟩
      · rw [fls_X3_putWords_12]
        unfold fb_X3_putWords_12
        rw [n9 5, nI_ifle (by omega) (by omega), if_neg (by omega), hasBit_eq _ (by omega), obind, if_b2i, if_pos c, ixb_nI (by omega) (by omega), grd_t, cl_nI (by omega), nI_1]
        exact e1
      · rw [e2 F a j q, put_at, if_neg q]
    · have hw : w.testBit f = false := by
        have := b_nI w f (by omega)
        rw [← this]
        exact Bool.eq_false_iff.mpr c
      obtain ⟨S', e1, e2, e3, e4⟩ := ih (f + 1) g S (by omega) (by omega) (fun m hm => by
        rw [hc m hm, fitK_s, hw]
        simp)
      refine ⟨S', ?_, e2, e3, e4⟩
      rw [fls_X3_putWords_12]
      unfold fb_X3_putWords_12
      rw [n9 5, nI_ifle (by omega) (by omega), if_neg (by omega), hasBit_eq _ (by omega), obind, if_b2i, if_neg c, nI_1]
      exact e1
theorem words_eq {b i w : Nat} (S : Stt) : ∃ S', f_X3_putWords b i (nI w) S = some S' ∧ (∀ F a j, ¬ ((F = 13 ∨ F = 16) ∧ a = b ∧ j = i) → S'.1 F a j = S.1 F a j) ∧ S'.2 = S.2 ∧ S'.1 13 b i = nI w ∧ ∀ m, m < 32 → bt (S'.1 16 b i) m = fitP w m := by
  obtain ⟨S', e1, e2, e3, e4⟩ := words_loop (b := b) (i := i) (w := w) 5 0 300 (put (put S 13 b i (nI w)) 16 b i (-1)) (by omega) (by omega) (fun m hm => by
    rw [put_at, if_pos ⟨rfl, rfl, rfl⟩, b_m1 m hm]
    rfl)
  refine ⟨S', ?_, fun F a j q => ?_, e3.trans rfl, ?_, e4⟩
  · unfold f_X3_putWords
    exact e1
  · rw [e2 F a j (by omega), put_at, if_neg (by omega), put_at, if_neg (by omega)]
  · rw [e2 13 b i (by omega), put_at, if_neg (by omega), put_at, if_pos ⟨rfl, rfl, rfl⟩]
theorem append_eq {S : Stt} {b n : Nat} {Q Q' : Nat → Nat → Nat} {x1 x2 x3 x5 : Int32} (hB : BC S b n Q) (hQ : ∀ k i, i < n → Q' k i = Q k i) (hV : BkV (n + 1) Q') (e0 : x1 = nI (Q' 0 n)) (e1 : (Q' 0 n = 2 ∨ Q' 0 n = 5) → x2 = nI (Q' 1 n)) (e2 : x3 = nI (Q' 2 n)) (e4 : Q' 0 n = 3 → x5 = nI (Q' 4 n)) (e5 : Q' 5 n = n) : ∃ S', f_X0_append b x1 x2 x3 (nI (Q' 3 n)) x5 S = some S' ∧ KB b S S' ∧ BC S' b (n + 1) Q' ∧ RkC S' b (n + 1) Q' ∧ S'.1 11 b n = x2 ∧ S'.1 14 b n = x5 ∧ ∀ F i, 10 ≤ F → F ≤ 16 → i < n → S'.1 F b i = S.1 F b i := by
  have hn := hV.1
  obtain ⟨S1, w1, w2, w3, w4, w5⟩ := words_eq (b := b) (i := n) (w := Q' 3 n) (put (put (put S 10 b n x1) 11 b n x2) 12 b n x3)
  have c1 : S1.1 17 b 0 = nI n := by rw [w2 17 b 0 (by omega), put_at, if_neg (by omega), put_at, if_neg (by omega), put_at, if_neg (by omega)]; exact hB.1
  have t0 : ∃ T, put (put (put S1 14 b n x5) 15 b n (nI n)) 17 b 0 (nI (n + 1)) = T := ⟨_, rfl⟩
  obtain ⟨T, hT⟩ := t0
  have tA : ∀ F a j, ¬ (10 ≤ F ∧ F ≤ 17 ∧ a = b ∧ (j = n ∨ F = 17)) → T.1 F a j = S.1 F a j := by
    intro F a j q
    rw [← hT, put_at, if_neg (by omega), put_at, if_neg (by omega), put_at, if_neg (by omega), w2 F a j (by omega), put_at, if_neg (by omega), put_at, if_neg (by omega), put_at, if_neg (by omega)]
  have tB : BC T b (n + 1) Q' := by
    refine ⟨by rw [← hT, put_at, if_pos ⟨rfl, rfl, rfl⟩], fun i hi => ?_⟩
    by_cases c : i = n
    · subst c
      refine ⟨?_, fun q => ?_, ?_, ?_, fun q => ?_, ?_, fun m hm => ?_⟩
      · rw [← hT, put_at, if_neg (by omega), put_at, if_neg (by omega), put_at, if_neg (by omega), w2 10 b i (by omega), put_at, if_neg (by omega), put_at, if_neg (by omega), put_at, if_pos ⟨rfl, rfl, rfl⟩, e0]
      · rw [← hT, put_at, if_neg (by omega), put_at, if_neg (by omega), put_at, if_neg (by omega), w2 11 b i (by omega), put_at, if_neg (by omega), put_at, if_pos ⟨rfl, rfl, rfl⟩, e1 q]
      · rw [← hT, put_at, if_neg (by omega), put_at, if_neg (by omega), put_at, if_neg (by omega), w2 12 b i (by omega), put_at, if_pos ⟨rfl, rfl, rfl⟩, e2]
      · rw [← hT, put_at, if_neg (by omega), put_at, if_neg (by omega), put_at, if_neg (by omega), w4]
      · rw [← hT, put_at, if_neg (by omega), put_at, if_neg (by omega), put_at, if_pos ⟨rfl, rfl, rfl⟩, e4 q]
      · rw [← hT, put_at, if_neg (by omega), put_at, if_pos ⟨rfl, rfl, rfl⟩, e5]
      · rw [← hT, put_at, if_neg (by omega), put_at, if_neg (by omega), put_at, if_neg (by omega), w5 m hm]
    · have := hB.2 i (by omega)
      unfold PgC at *
      rw [hQ 0 i (by omega), hQ 1 i (by omega), hQ 2 i (by omega), hQ 3 i (by omega), hQ 4 i (by omega), hQ 5 i (by omega), tA 10 b i (by omega), tA 11 b i (by omega), tA 12 b i (by omega), tA 13 b i (by omega), tA 14 b i (by omega), tA 15 b i (by omega), tA 16 b i (by omega)]
      exact this
  obtain ⟨S', r1, r2, r3, r4⟩ := rank_eq hV tB
  refine ⟨S', ?_, ⟨fun F a i q => ?_, ?_⟩, ?_, r4, ?_, ?_, fun F i q1 q2 q3 => ?_⟩
  · unfold f_X0_append
    rw [hB.1, n9 6, nI_iflt (by omega) (by omega), if_pos (by omega), ixb_nI (show n < 6 by omega) (by omega), grd_t, cl_nI (by omega), w1, obind]
    have ee : (put S1 14 b n x5).1 17 b 0 = nI n := by rw [put_at, if_neg (by omega)]; exact c1
    have e3 : (put (put S1 14 b n x5) 15 b n (nI n)).1 17 b 0 = nI n := by rw [put_at, if_neg (by omega)]; exact ee
    rw [ee, e3, nI_1, hT, r1, obind]
  · rw [r2 F a i (by omega), tA F a i (by omega)]
  · rw [r3, ← hT]
    exact w3
  · refine ⟨?_, fun i hi => (tB.2 i hi).frame (fun F q1 q2 => r2 F b i (by omega))⟩
    rw [r2 17 b 0 (by omega)]; exact tB.1
  · rw [r2 11 b n (by omega), ← hT, put_at, if_neg (by omega), put_at, if_neg (by omega), put_at, if_neg (by omega), w2 11 b n (by omega), put_at, if_neg (by omega), put_at, if_pos ⟨rfl, rfl, rfl⟩]
  · rw [r2 14 b n (by omega), ← hT, put_at, if_neg (by omega), put_at, if_neg (by omega), put_at, if_pos ⟨rfl, rfl, rfl⟩]
  · rw [r2 F b i (by omega), tA F b i (by omega)]
