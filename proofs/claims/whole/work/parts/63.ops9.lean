/-! front, lots, kinds -/
theorem setD_setD (Q : Nat → Nat → Nat) (e f : Nat → Nat) : setD (setD Q e) f = setD Q f := by
  funext k i
  unfold setD
  by_cases c : k = 5
  · rw [if_pos c, if_pos c]
  · rw [if_neg c, if_neg c, if_neg c]
theorem aside_loop {n : Nat} (hn : n ≤ 6) : ∀ (k i fuel : Nat) (M : Stt), i + k = n → k < fuel → M.1 0 10 0 = nI n → ∃ M', fl_X8_putAside_2 (fun S => some S) fuel (nI i) M = some M' ∧ (∀ F a j, ¬ (F = 17 ∧ a = 0 ∧ i ≤ j) → M'.1 F a j = M.1 F a j) ∧ M'.2 = M.2 ∧ ∀ j, i ≤ j → j < n → M'.1 17 0 j = M.1 12 0 j := by
  intro k
  induction k with
  | zero =>
    intro i fuel M h1 h2 hc
    obtain ⟨g, rfl⟩ : ∃ g, fuel = g + 1 := ⟨fuel - 1, by omega⟩
    refine ⟨M, ?_, fun _ _ _ _ => rfl, rfl, fun j q1 q2 => absurd q2 (by omega)⟩
    rw [fls_X8_putAside_2]
    unfold fb_X8_putAside_2
    rw [hc, nI_ifle (by omega) (by omega), if_pos (by omega)]
  | succ k ih =>
    intro i fuel M h1 h2 hc
    obtain ⟨g, rfl⟩ : ∃ g, fuel = g + 1 := ⟨fuel - 1, by omega⟩
    obtain ⟨M', b1, b2, b3, b4⟩ := ih (i + 1) g (put M 17 0 i (M.1 12 0 i)) (by omega) (by omega) (by rw [put_at, if_neg (by omega)]; exact hc)
    refine ⟨M', ?_, fun F a j q => ?_, b3.trans rfl, fun j q1 q2 => ?_⟩
    · rw [fls_X8_putAside_2]
      unfold fb_X8_putAside_2
      rw [hc, nI_ifle (by omega) (by omega), if_neg (by omega), ixb_nI (show i < 6 by omega) (by omega), grd_t, grd_t, cl_nI (by omega), nI_1]
      exact b1
    · rw [b2 F a j (by omega), put_at, if_neg (by omega)]
    · by_cases c : j = i
      · subst c
        rw [b2 17 0 j (by omega), put_at, if_pos ⟨rfl, rfl, rfl⟩]
      · rw [b4 j (by omega) q2, put_at, if_neg (by omega)]
theorem aside_eq {M : Stt} {n : Nat} (hn : n ≤ 6) (hc : M.1 0 10 0 = nI n) : ∃ M', f_X8_putAside M = some M' ∧ (∀ F a j, ¬ (F = 17 ∧ a = 0) → M'.1 F a j = M.1 F a j) ∧ M'.2 = M.2 ∧ ∀ j, j < n → M'.1 17 0 j = M.1 12 0 j := by
  obtain ⟨M', b1, b2, b3, b4⟩ := aside_loop hn n 0 300 M (by omega) (by omega) hc
  exact ⟨M', b1, fun F a j q => b2 F a j (by omega), b3, fun j hj => b4 j (by omega) hj⟩
theorem back_loop {n : Nat} (hn : n ≤ 6) : ∀ (k i fuel : Nat) (M : Stt), i + k = n → k < fuel → M.1 0 10 0 = nI n → ∃ M', fl_X8_comeBack_2 (fun S => some S) fuel (nI i) M = some M' ∧ (∀ F a j, ¬ (F = 12 ∧ a = 0 ∧ i ≤ j ∧ j < n) → M'.1 F a j = M.1 F a j) ∧ M'.2 = M.2 ∧ ∀ j, i ≤ j → j < n → M'.1 12 0 j = M.1 17 0 j := by
  intro k
  induction k with
  | zero =>
    intro i fuel M h1 h2 hc
    obtain ⟨g, rfl⟩ : ∃ g, fuel = g + 1 := ⟨fuel - 1, by omega⟩
    refine ⟨M, ?_, fun _ _ _ _ => rfl, rfl, fun j q1 q2 => absurd q2 (by omega)⟩
    rw [fls_X8_comeBack_2]
    unfold fb_X8_comeBack_2
    rw [hc, nI_ifle (by omega) (by omega), if_pos (by omega)]
  | succ k ih =>
    intro i fuel M h1 h2 hc
    obtain ⟨g, rfl⟩ : ∃ g, fuel = g + 1 := ⟨fuel - 1, by omega⟩
    obtain ⟨M', b1, b2, b3, b4⟩ := ih (i + 1) g (put M 12 0 i (M.1 17 0 i)) (by omega) (by omega) (by rw [put_at, if_neg (by omega)]; exact hc)
    refine ⟨M', ?_, fun F a j q => ?_, b3.trans rfl, fun j q1 q2 => ?_⟩
    · rw [fls_X8_comeBack_2]
      unfold fb_X8_comeBack_2
      rw [hc, nI_ifle (by omega) (by omega), if_neg (by omega), ixb_nI (show i < 6 by omega) (by omega), grd_t, grd_t, cl_nI (by omega), nI_1]
      exact b1
    · rw [b2 F a j (by omega), put_at, if_neg (by omega)]
    · by_cases c : j = i
      · subst c
        rw [b2 12 0 j (by omega), put_at, if_pos ⟨rfl, rfl, rfl⟩]
      · rw [b4 j (by omega) q2, put_at, if_neg (by omega)]
theorem back_eq {M : Stt} {n : Nat} (hn : n ≤ 6) (hc : M.1 0 10 0 = nI n) : ∃ M', f_X8_comeBack M = some M' ∧ (∀ F a j, ¬ (F = 12 ∧ a = 0 ∧ j < n) → M'.1 F a j = M.1 F a j) ∧ M'.2 = M.2 ∧ ∀ j, j < n → M'.1 12 0 j = M.1 17 0 j := by
  obtain ⟨M', b1, b2, b3, b4⟩ := back_loop hn n 0 300 M (by omega) (by omega) hc
  exact ⟨M', b1, fun F a j q => b2 F a j (by omega), b3, fun j hj => b4 j (by omega) hj⟩
theorem front6 {n : Nat} (hn : n ≤ 6) (ke : Stt → Option (Int32 × Stt)) : ∀ (k i fuel : Nat) (M : Stt), i + k = n → k < fuel → M.1 0 10 0 = nI n → ∃ M', fl_X8_front_6 ke fuel (nI i) M = ke M' ∧ (∀ F a j, ¬ (F = 12 ∧ a = 0 ∧ i ≤ j ∧ j < n) → M'.1 F a j = M.1 F a j) ∧ M'.2 = M.2 ∧ ∀ j, i ≤ j → j < n → M'.1 12 0 j = nI j := by
  intro k
  induction k with
  | zero =>
    intro i fuel M h1 h2 hc
    obtain ⟨g, rfl⟩ : ∃ g, fuel = g + 1 := ⟨fuel - 1, by omega⟩
    refine ⟨M, ?_, fun _ _ _ _ => rfl, rfl, fun j q1 q2 => absurd q2 (by omega)⟩
    rw [fls_X8_front_6]
    unfold fb_X8_front_6
    rw [hc, nI_ifle (by omega) (by omega), if_pos (by omega)]
  | succ k ih =>
    intro i fuel M h1 h2 hc
    obtain ⟨g, rfl⟩ : ∃ g, fuel = g + 1 := ⟨fuel - 1, by omega⟩
    obtain ⟨M', b1, b2, b3, b4⟩ := ih (i + 1) g (put M 12 0 i (nI i)) (by omega) (by omega) (by rw [put_at, if_neg (by omega)]; exact hc)
    refine ⟨M', ?_, fun F a j q => ?_, b3.trans rfl, fun j q1 q2 => ?_⟩
    · rw [fls_X8_front_6]
      unfold fb_X8_front_6
      rw [hc, nI_ifle (by omega) (by omega), if_neg (by omega), ixb_nI (show i < 6 by omega) (by omega), grd_t, cl_nI (by omega), nI_1]
      exact b1
    · rw [b2 F a j (by omega), put_at, if_neg (by omega)]
    · by_cases c : j = i
      · subst c
        rw [b2 12 0 j (by omega), put_at, if_pos ⟨rfl, rfl, rfl⟩]
      · exact b4 j (by omega) q2
theorem front34 {n : Nat} (hn : n ≤ 6) (x1 : Int32) (ke : Int32 → Stt → Option (Int32 × Stt)) : ∀ (k i fuel : Nat) (M : Stt), i + k = n → k < fuel → M.1 0 10 0 = nI n → ∃ M', fl_X8_front_34 ke fuel x1 (nI i) M = ke x1 M' ∧ (∀ F a j, ¬ (F = 12 ∧ a = 0 ∧ i ≤ j ∧ j < n) → M'.1 F a j = M.1 F a j) ∧ M'.2 = M.2 ∧ ∀ j, i ≤ j → j < n → M'.1 12 0 j = nI (n - 1 - j) := by
  intro k
  induction k with
  | zero =>
    intro i fuel M h1 h2 hc
    obtain ⟨g, rfl⟩ : ∃ g, fuel = g + 1 := ⟨fuel - 1, by omega⟩
    refine ⟨M, ?_, fun _ _ _ _ => rfl, rfl, fun j q1 q2 => absurd q2 (by omega)⟩
    rw [fls_X8_front_34]
    unfold fb_X8_front_34
    rw [hc, nI_ifle (by omega) (by omega), if_pos (by omega)]
  | succ k ih =>
    intro i fuel M h1 h2 hc
    obtain ⟨g, rfl⟩ : ∃ g, fuel = g + 1 := ⟨fuel - 1, by omega⟩
    obtain ⟨M', b1, b2, b3, b4⟩ := ih (i + 1) g (put M 12 0 i (nI (n - 1 - i))) (by omega) (by omega) (by rw [put_at, if_neg (by omega)]; exact hc)
    refine ⟨M', ?_, fun F a j q => ?_, b3.trans rfl, fun j q1 q2 => ?_⟩
    · rw [fls_X8_front_34]
      unfold fb_X8_front_34
      rw [hc, nI_ifle (by omega) (by omega), if_neg (by omega), ixb_nI (show i < 6 by omega) (by omega), grd_t, cl_nI (by omega), nI_1, nIm1 (by omega), pk_sub (by omega)]
      exact b1
    · rw [b2 F a j (by omega), put_at, if_neg (by omega)]
    · by_cases c : j = i
      · subst c
        rw [b2 12 0 j (by omega), put_at, if_pos ⟨rfl, rfl, rfl⟩]
      · exact b4 j (by omega) q2
theorem Same.putS {S S' : Stt} (h : Same S S') (F a i : Nat) (x : Int32) : Same (put S F a i x) (put S' F a i x) := by
  refine ⟨fun G b j q => ?_, h.2⟩
  rw [put_at, put_at]
  by_cases c : G = F ∧ b = a ∧ j = i
  · rw [if_pos c, if_pos c]
  · rw [if_neg c, if_neg c]; exact h.1 G b j q
theorem SameM.putS {M M' : Stt} (h : SameM M M') (F a i : Nat) (x : Int32) : SameM (put M F a i x) (put M' F a i x) := by
  refine ⟨fun G b j q => ?_, h.2⟩
  rw [put_at, put_at]
  by_cases c : G = F ∧ b = a ∧ j = i
  · rw [if_pos c, if_pos c]
  · rw [if_neg c, if_neg c]; exact h.1 G b j q
theorem sim_front : SimI f_X7_front f_X8_front := by
  intro S M h
  obtain ⟨n, Q, hV, hB, hR, hM, hDP, hL, hr⟩ := h.bk
  have hn := hV.1
  have vE : BkV n (setD Q (fun i => n - 1 - i)) := hV.setD (fun i hi => by omega)
  have vF : BkV n (setD Q (fun i => i)) := hV.setD (fun i hi => by omega)
  have dE : DD n (setD Q (fun i => n - 1 - i)) := fun i j hi hj e _ => by rw [setD5, setD5] at e; omega
  have dF : DD n (setD Q (fun i => i)) := fun i j hi hj e _ => e
  obtain ⟨S1, a1, a2, a3, a4⟩ := become_eq (S := S) (b0 := 1) (b1 := 0) (by omega) hn hB.1
  have hB1 := become_bc hB a3 a4
  have hR1 := become_rk hR a4
  obtain ⟨S2, b1, b2, b3, b4⟩ := turnE_eq hn hB1.1
  have hB2 : BC S2 1 n (setD Q (fun i => n - 1 - i)) := hB1.setD b4 (fun F i q1 q2 q3 => b2 F 1 i (by omega))
  have hR2 : RkC S2 1 n (setD Q (fun i => n - 1 - i)) := (hR1.frame1 (fun k => b2 18 1 k (by omega))).ext (fun _ _ => rfl)
  obtain ⟨S3, c1, c2⟩ := waitingInAll_eq vE hB2 hR2 dE
  have hB3 := c2.bc hB2
  have hR3 := c2.rk hR2
  obtain ⟨S4, d1, d2, d3, d4⟩ := turnF_eq (S := put S3 62 0 0 (nI (aw (setD Q (fun i => n - 1 - i)) n n n))) (b := 1) hn (by rw [put_at, if_neg (by omega)]; exact hB3.1)
  have hB4 : BC S4 1 n (setD Q (fun i => i)) := by
    have := hB3.setD (S' := S4) (f := fun i => i) d4 (fun F i q1 q2 q3 => by rw [d2 F 1 i (by omega), put_at, if_neg (by omega)])
    rw [setD_setD] at this
    exact this
  have hR4 : RkC S4 1 n (setD Q (fun i => i)) := (hR3.frame1 (fun k => by rw [d2 18 1 k (by omega), put_at, if_neg (by omega)])).ext (fun _ _ => rfl)
  obtain ⟨S5, e1, e2⟩ := waitingInAll_eq vF hB4 hR4 dF
  -- the reference
  obtain ⟨M1, f1, f2, f3, f4⟩ := aside_eq hn hM.1
  have cM1 : M1.1 0 10 0 = nI n := by rw [f2 0 10 0 (by omega)]; exact hM.1
  obtain ⟨M2, g1, g2, g3, g4⟩ := front6 hn (fun S => (f_X8_allWaits  S).bind fun q5 => fl_X8_front_34 (fun x1 S => (f_X8_allWaits  S).bind fun q9 => (f_X8_comeBack  q9.2).bind fun q11 => (f_X8_ask q9.1 x1 q11).bind fun q13 => some (q13.1, q13.2)) 300 q5.1 (0 : Int32) q5.2) n 0 300 M1 (by omega) (by omega) cM1
  have hM2 : BM M2 n (setD Q (fun i => i)) := hM.setD (fun i hi => g4 i (by omega) hi) (by rw [g2 0 10 0 (by omega), f2 0 10 0 (by omega)]) (fun F i q1 q2 => by rw [g2 F 0 i (by omega), f2 F 0 i (by omega)])
  have lM2 : LoR M2 n n := Or.inl ⟨by rw [g2 0 20 0 (by omega), f2 0 20 0 (by omega)]; exact h.2.2.2.2.2.2, Nat.le_refl _⟩
  obtain ⟨M3, i1, i2⟩ := allWaits_eq vF hM2 lM2
  obtain ⟨M4, j1, j2, j3, j4⟩ := front34 hn (nI (aw (setD Q (fun i => i)) n n n)) (fun x1 S => (f_X8_allWaits  S).bind fun q9 => (f_X8_comeBack  q9.2).bind fun q11 => (f_X8_ask q9.1 x1 q11).bind fun q13 => some (q13.1, q13.2)) n 0 300 M3 (by omega) (by omega) (i2.bm hM2).1
  have hM4 : BM M4 n (setD Q (fun i => n - 1 - i)) := by
    have := (i2.bm hM2).setD (M' := M4) (f := fun i => n - 1 - i) (fun i hi => j4 i (by omega) hi) (by rw [j2 0 10 0 (by omega)]) (fun F i q1 q2 => by rw [j2 F 0 i (by omega)])
    rw [setD_setD] at this
    exact this
  have lM4 : LoR M4 n n := by
    have := i2.lo lM2
    unfold LoR at *
    rw [j2 0 20 0 (by omega)]
    exact this
  obtain ⟨M5, k1, k2⟩ := allWaits_eq vE hM4 lM4
  obtain ⟨M6, l1, l2, l3, l4⟩ := back_eq hn (k2.bm hM4).1
  have hS : Same S S3 := a2.same.tr (Same.tr ⟨fun F a i q => b2 F a i (by omega), b3⟩ c2.same)
  have hSM : SameM M M6 := by
    refine ⟨fun F a i q => ?_, ?_, ?_⟩
    · by_cases c : F = 12 ∧ a = 0 ∧ i < n
      · obtain ⟨rfl, rfl, ci⟩ := c
        rw [l4 i ci, k2.1 17 0 i (by omega), j2 17 0 i (by omega), i2.1 17 0 i (by omega), g2 17 0 i (by omega), f4 i ci]
      · rw [l2 F a i c, k2.1 F a i (by omega), j2 F a i (by omega), i2.1 F a i (by omega), g2 F a i (by omega), f2 F a i (by omega)]
    · rw [l3, k2.2, j3, i2.2, g3, f3]
    · rw [l3, k2.2, j3, i2.2, g3, f3]
  refine ⟨nI (aw (setD Q (fun i => i)) n n n), S5, put M6 0 2 0 (nI (aw (setD Q (fun i => n - 1 - i)) n n n)), ?_, ?_, (h.ask _).same ((hS.putS 62 0 0 _).tr (Same.tr ⟨fun F a i q => d2 F a i (by omega), d3⟩ e2.same)) (hSM.putS 0 2 0 _)⟩
  · unfold f_X7_front
    rw [a1, obind, b1, obind, c1, obind]
    dsimp only
    rw [d1, obind, e1, obind]
  · unfold f_X8_front
    rw [f1, obind]
    refine g1.trans ?_
    rw [i1, obind]
    refine j1.trans ?_
    rw [k1, obind]
    dsimp only
    rw [l1, obind]
    rfl
/-! lots -/
theorem wait_bit {S : Stt} {n d m : Nat} {Q : Nat → Nat → Nat} (hV : BkV n Q) (hC : CI S (wy Q n n d) (fun m => cn Q n n d m)) (hm : m < 32) : bt (S.1 33 0 0 &&& (S.1 32 0 0 ^^^ (-1))) m = decide (iso Q n n d m = -9) := by
  obtain ⟨s1, s2, s3⟩ := iso_bits hV hC hm
  rw [b_and, b_not _ hm, s1, s2]
  rcases s3 with q | q | q <;> rw [q] <;> decide
theorem lots_num {q : Nat} (hq : q < 2 ^ 31) : ∃ z : Nat, z < 2 ^ 31 ∧ (48271 : Int64) * lN q - (48271 : Int64) * lN q / (2147483647 : Int64) * (2147483647 : Int64) = lN z ∧ (lN z - lN z / (32 : Int64) * (32 : Int64)).toInt32 = nI (z % 32) ∧ (lN z / (32 : Int64) - lN z / (32 : Int64) / (21 : Int64) * (21 : Int64)).toInt32 = nI (z / 32 % 21) := by
  have hz := Nat.mod_lt (48271 * q) (show 2147483647 > 0 by omega)
  refine ⟨48271 * q % 2147483647, by omega, ?_, ?_, ?_⟩
  · rw [show (48271 : Int64) = lN 48271 from rfl, lN_mul, show (2147483647 : Int64) = lN 2147483647 from rfl, pk_lRem (by omega) (by omega) (by omega)]
  · rw [show (32 : Int64) = lN 32 from rfl, pk_lRem (by omega) (by omega) (by omega), lN_i]
  · rw [show (32 : Int64) = lN 32 from rfl, show (21 : Int64) = lN 21 from rfl, pk_lDiv (by omega) (by omega) (by omega), pk_lRem (by omega) (by omega) (by omega), lN_i]
theorem lots_loop {n N : Nat} {Q : Nat → Nat → Nat} (hV : BkV n Q) (hD : DD n Q) (hN : N ≤ 60) : ∀ (k i fuel c q : Nat) (S M : Stt), i + k = N → k < fuel → q < 2 ^ 31 → BC S 0 n Q → RkC S 0 n Q → BM M n Q → LoR M n n → ∃ r S' M', fl_X7_lots_34 (fun x3 S => some (x3, S)) fuel (nI N) (nI c) (lN q) (nI i) S = some (r, S') ∧ fl_X8_lots_31 (fun x5 S => some (x5, S)) fuel (nI N) (lN q) (nI c) (nI i) M = some (r, M') ∧ K30 S S' ∧ W22 M M' := by
  intro k
  induction k with
  | zero =>
    intro i fuel c q S M h1 h2 hq hB hR hM hL
    obtain ⟨g, rfl⟩ : ∃ g, fuel = g + 1 := ⟨fuel - 1, by omega⟩
    refine ⟨nI c, S, M, ?_, ?_, K30.rf S, W22.rf M⟩
    · rw [fls_X7_lots_34]
      unfold fb_X7_lots_34
      rw [if_pos (nI_le (by omega) (by omega))]
    · rw [fls_X8_lots_31]
      unfold fb_X8_lots_31
      rw [if_pos (nI_le (by omega) (by omega))]
  | succ k ih =>
    intro i fuel c q S M h1 h2 hq hB hR hM hL
    obtain ⟨g, rfl⟩ : ∃ g, fuel = g + 1 := ⟨fuel - 1, by omega⟩
    obtain ⟨z, hz, z1, z2, z3⟩ := lots_num hq
    have hz2 := Nat.mod_lt (z / 32) (show 21 > 0 by omega)
    have hz3 := Nat.mod_lt z (show 32 > 0 by omega)
    obtain ⟨S1, a1, a2, a3⟩ := hear_eq hV hB hR hD (d := z / 32 % 21) (by omega)
    obtain ⟨M1, b1, b2⟩ := isOn_eq hV hM hL (d := z / 32 % 21) (m := z % 32) (by omega) hz3
    have wb := wait_bit hV a3 hz3
    obtain ⟨v, hv⟩ : ∃ v, iso Q n n (z / 32 % 21) (z % 32) = v := ⟨_, rfl⟩
    rw [hv] at b1 wb
    obtain ⟨r, S2, M2, c1, c2, c3, c4⟩ := ih (i + 1) g (c + (if v = -9 then 1 else 0)) z S1 M1 (by omega) (by omega) hz (a2.bc hB) (a2.rk hR) (b2.bm hM) (b2.lo hL)
    refine ⟨r, S2, M2, ?_, ?_, a2.tr c3, b2.tr c4⟩
    · rw [fls_X7_lots_34]
      unfold fb_X7_lots_34
      rw [if_neg (nI_ge (by omega) (by omega)), z1, z2, z3, a1, obind]
      unfold f_X1_waiting
      rw [obind]
      dsimp only
      rw [hasBit_eq _ hz3, obind, if_b2i, wb, nI_1 i]
      by_cases cv : v = -9
      · rw [if_pos cv] at c1
        rw [if_pos (decide_eq_true cv), nI_1 c]
        exact c1
      · rw [if_neg cv] at c1
        rw [if_neg (by rw [decide_eq_false cv]; decide)]
        exact c1
    · rw [fls_X8_lots_31]
      unfold fb_X8_lots_31
      rw [if_neg (nI_ge (by omega) (by omega)), z1, z2, z3, b1, obind, nI_1 i, nI_1 c, n9 0, nI_add c 0]
      dsimp only
      by_cases cv : v = -9
      · rw [if_pos cv] at c2
        rw [if_pos cv]
        exact c2
      · rw [if_neg cv] at c2
        rw [if_neg cv]
        exact c2
theorem sim_lots (x1 x2 : Int32) : SimI (f_X7_lots x1 x2) (f_X8_lots x1 x2) := by
  intro S M h
  obtain ⟨n, Q, hV, hB, hR, hM, hDP, hL, hr⟩ := h.bk
  have e0 : (0 : Int32).toInt = 0 := by decide
  have e1 : (1 : Int32).toInt = 1 := by decide
  have e60 : (60 : Int32).toInt = 60 := by decide
  unfold f_X7_lots f_X8_lots
  by_cases c1 : x1 < 1
  · refine ⟨-1, S, M, by rw [if_pos c1], ?_, h⟩
    rw [in_no (fun q => by
      have := q.1
      rw [Int32.lt_iff_toInt_lt] at c1
      rw [Int32.le_iff_toInt_le] at this
      omega), obind, if_pos rfl]
  rw [if_neg c1]
  by_cases c2 : 60 < x1
  · refine ⟨-1, S, M, by rw [if_pos c2], ?_, h⟩
    rw [in_no (fun q => by
      have := q.2
      rw [Int32.lt_iff_toInt_lt] at c2
      rw [Int32.le_iff_toInt_le] at this
      omega), obind, if_pos rfl]
  rw [if_neg c2]
  rw [Int32.lt_iff_toInt_lt] at c1 c2
  rw [in_yes (a := 1) (b := 60) ⟨by rw [Int32.le_iff_toInt_le]; omega, by rw [Int32.le_iff_toInt_le]; omega⟩, obind, if_neg n10]
  dsimp only
  by_cases c3 : x2 < 1
  · refine ⟨-1, S, M, by rw [if_pos c3], ?_, h⟩
    rw [in_no (fun q => by
      have := q.1
      rw [Int32.lt_iff_toInt_lt] at c3
      rw [Int32.le_iff_toInt_le] at this
      omega), obind, if_pos rfl]
  rw [if_neg c3]
  rw [Int32.lt_iff_toInt_lt] at c3
  by_cases c4 : x2 ≤ 2147483646
  · rw [if_pos c4, in_yes (a := 1) ⟨by rw [Int32.le_iff_toInt_le]; omega, c4⟩, obind, if_neg n10]
    obtain ⟨N, hN, rfl, eN⟩ := i_nat (x := x1) (by omega)
    obtain ⟨q, hq, rfl, eq⟩ := i_nat (x := x2) (by omega)
    obtain ⟨r, S2, M2, d1, d2, d3, d4⟩ := lots_loop (N := N) hV hDP.dd (by omega) N 0 300 0 q S M (by omega) (by omega) hq hB hR hM hL
    refine ⟨r, S2, M2, ?_, ?_, h.k30 d3 d4⟩
    · rw [nI_l hq]; exact d1
    · rw [nI_l hq]; exact d2
  · exact ⟨-1, S, M, by rw [if_neg c4], by rw [in_no (fun q => c4 q.2), obind, if_pos rfl], h⟩
