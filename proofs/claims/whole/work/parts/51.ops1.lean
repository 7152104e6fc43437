/-! binds, means, meanings, verdict, odds, waits, all, free -/
theorem Rel.k30 {S S' M M' : Stt} (h : Rel S M) (h1 : K30 S S') (h2 : W22 M M') : Rel S' M' := h.same h1.same h2.same
theorem sim_binds (x1 : Int32) : SimI (f_X7_binds x1) (f_X8_binds x1) := by
  intro S M h
  obtain ⟨n, Q, hV, hB, hR, hM, hDP, hL, -⟩ := h.bk
  rcases day2 x1 with ⟨d1, d2⟩ | ⟨d, hd, rfl, d1, d2⟩
  · refine ⟨-1, S, M, ?_, ?_, h⟩
    · unfold f_X7_binds; rw [d1, obind, if_pos rfl]
    · unfold f_X8_binds; rw [d2, obind, if_pos rfl]
  · refine ⟨bits (bnd Q n n d) n, S, M, ?_, ?_, h⟩
    · unfold f_X7_binds; rw [d1, obind, if_neg n10, bound_eq hV hB (by omega), obind]
    · unfold f_X8_binds; rw [d2, obind, if_neg n10, bindSet_eq hV hM hL (by omega), obind]
theorem sim_means (x1 x2 : Int32) : SimI (f_X7_means x1 x2) (f_X8_means x1 x2) := by
  intro S M h
  obtain ⟨n, Q, hV, hB, hR, hM, hDP, hL, -⟩ := h.bk
  have key : ∀ w, w < 32 → nI 5 ≤ nI w → nI w ≤ nI 6 → ∃ r S' M', fj_X7_means_11 (nI w) x2 S = some (r, S') ∧ f_X8_means (nI w) x2 M = some (r, M') ∧ Rel S' M' := by
    intro w hw h1 h2
    unfold fj_X7_means_11 f_X8_means
    rw [in_eq, if_pos ⟨h1, h2⟩, obind, if_neg n10]
    rcases day2 x2 with ⟨d1, d2⟩ | ⟨d, hd, rfl, d1, d2⟩
    · exact ⟨-1, S, M, by rw [d1, obind, if_pos rfl], by rw [d2, obind, if_pos rfl], h⟩
    · exact ⟨fac Q n n d w, S, M, by rw [d1, obind, if_neg n10, bound_eq hV hB (by omega), obind, factsFor_eq hV hB hDP.dd hd hw, obind], by rw [d2, obind, if_neg n10, meanOf_eq hV hM hL hd hw, obind], h⟩
  unfold f_X7_means
  by_cases c5 : x1 = 5
  · rw [if_pos c5, c5]
    exact key 5 (by omega) (by decide) (by decide)
  · rw [if_neg c5]
    by_cases c6 : x1 = 6
    · rw [if_pos c6, c6]
      exact key 6 (by omega) (by decide) (by decide)
    · rw [if_neg c6]
      refine ⟨-1, S, M, rfl, ?_, h⟩
      unfold f_X8_means
      have no : ¬ ((5 : Int32) ≤ x1 ∧ x1 ≤ 6) := by
        rintro ⟨q1, q2⟩
        rw [Int32.le_iff_toInt_le] at q1 q2
        have e5 : (5 : Int32).toInt = 5 := by decide
        have e6 : (6 : Int32).toInt = 6 := by decide
        have a5 : ¬ x1.toInt = 5 := fun q => c5 (Int32.toInt_inj.mp (q.trans e5.symm))
        have a6 : ¬ x1.toInt = 6 := fun q => c6 (Int32.toInt_inj.mp (q.trans e6.symm))
        omega
      rw [in_eq, if_neg no, obind, if_pos rfl]
theorem sh5 : ∀ f, f < 5 → (1 : Int32) <<< (nI f &&& 31) = nI (2 ^ f) ∧ 2 ^ f < 128 := by decide
theorem fac_num {n lo : Nat} {Q : Nat → Nat → Nat} (hV : BkV n Q) (d w : Nat) : ∃ u, u < 128 ∧ fac Q n lo d w = nI u := by
  unfold fac
  rcases ld_in Q n lo d w n with h | ⟨h1, h2⟩
  · rw [if_pos h]
    exact ⟨31, by omega, rfl⟩
  · have hq := qd_facts h2
    have hv := ((hV.2 _ h1).2.2.2.2.1 hq.2.2.1).1
    have := hV.1
    rw [if_neg (by omega)]
    exact ⟨_, (sh5 _ (by omega)).2, (sh5 _ (by omega)).1⟩
theorem sim_meanings (x1 : Int32) : SimI (f_X7_meanings x1) (f_X8_meanings x1) := by
  intro S M h
  obtain ⟨n, Q, hV, hB, hR, hM, hDP, hL, -⟩ := h.bk
  unfold f_X7_meanings f_X8_meanings
  rcases day2 x1 with ⟨d1, d2⟩ | ⟨d, hd, rfl, d1, d2⟩
  · exact ⟨-1, S, M, by rw [d1, obind, if_pos rfl], by rw [d2, obind, if_pos rfl], h⟩
  · obtain ⟨u, hu, eu⟩ := fac_num (lo := n) hV d 5
    obtain ⟨v, hv, ev⟩ := fac_num (lo := n) hV d 6
    refine ⟨nI (pcnt u) * nI (pcnt v), S, M, ?_, ?_, h⟩
    · rw [d1, obind, if_neg n10, bound_eq hV hB (by omega), obind, n9 5, factsFor_eq hV hB hDP.dd hd (by omega), obind, bitCount_eq, obind, n9 6, factsFor_eq hV hB hDP.dd hd (by omega), obind, bitCount_eq, obind, eu, ev, bc_128 u hu, bc_128 v hv]
    · rw [d2, obind, if_neg n10, n9 5, meanOf_eq hV hM hL hd (by omega), obind, eu, sizeOf8_eq, obind, n9 6, meanOf_eq hV hM hL hd (by omega), obind, ev, sizeOf8_eq, obind]
theorem ci_put {S : Stt} {w : Nat} {g : Nat → Nat} (h : CI S w g) {F a i : Nat} (hF : F < 30 ∨ 33 < F) (x : Int32) : CI (put S F a i x) w g := by
  have t : ∀ m k, tc (put S F a i x) m k = tc S m k := fun m k => tc_congr k (fun j _ => by rw [put_at, if_neg (by omega)])
  refine ⟨by rw [put_at, if_neg (by omega)]; exact h.1, fun m hm => ?_⟩
  rw [t, put_at, if_neg (by omega), put_at, if_neg (by omega)]
  exact h.2 m hm
theorem sim_verdict (x1 x2 : Int32) : SimI (f_X7_verdict x1 x2) (f_X8_verdict x1 x2) := by
  intro S M h
  obtain ⟨n, Q, hV, hB, hR, hM, hDP, hL, -⟩ := h.bk
  unfold f_X7_verdict f_X8_verdict
  rcases case2 x1 with ⟨c1, c2⟩ | ⟨m, hm, rfl, c1, c2⟩
  · exact ⟨-1, S, M, by rw [c1, obind, if_pos rfl], by rw [c2, obind, if_pos rfl], h⟩
  · rcases day2 x2 with ⟨d1, d2⟩ | ⟨d, hd, rfl, d1, d2⟩
    · exact ⟨-1, S, M, by rw [c1, obind, if_neg n10, d1, obind, if_pos rfl], by rw [c2, obind, if_neg n10, d2, obind, if_pos rfl], h⟩
    · obtain ⟨S1, a1, a2, a3⟩ := hear_eq hV hB hR hDP.dd hd
      obtain ⟨M1, b1, b2⟩ := isOn_eq hV hM hL hd hm
      obtain ⟨M2, e1, e2, e3⟩ := onesOf_eq (lo := n) hV (b2.bm hM) (d := d) hm
      refine ⟨iso Q n n d m, put S1 62 0 0 (nI (cn Q n n d m)), put M2 0 2 0 (nI (cn Q n n d m)), ?_, ?_, (h.k30 a2 (b2.tr e2)).ask _⟩
      · rw [c1, obind, if_neg n10, d1, obind, if_neg n10, a1, obind, timesOne_eq hV a3 hm, obind, stateOf_eq hV (ci_put a3 (by omega) _) hm, obind]
      · rw [c2, obind, if_neg n10, d2, obind, if_neg n10, b1, obind, bindSet_eq hV (b2.bm hM) (b2.lo hL) (by omega), obind, n9 5, meanOf_eq hV (b2.bm hM) (b2.lo hL) hd (by omega), obind, n9 6, meanOf_eq hV (b2.bm hM) (b2.lo hL) hd (by omega), obind, e1, obind]
        rfl
/-! odds: the greatest number that divides both -/
theorem frac_loop {c w : Nat} (hc : c ≤ w) (hw : w ≤ 25) (h0 : 0 < w) (S : Stt) : ∀ (k fuel : Nat), k < fuel → Nat.gcd c w ≤ k → k ≤ w → fl_X7_tellFraction_2 (fun S => some S) fuel (nI c) (nI w) (nI k) S = some (putL (putL S 0 (nI (c / Nat.gcd c w)).toInt64) 1 (nI (w / Nat.gcd c w)).toInt64) := by
  intro k
  induction k with
  | zero =>
    intro fuel _ hg _
    have := Nat.gcd_pos_of_pos_right c h0
    omega
  | succ k ih =>
    intro fuel h1 hg hk
    obtain ⟨g, rfl⟩ : ∃ g, fuel = g + 1 := ⟨fuel - 1, by omega⟩
    have ne : ¬ nI (k + 1) = 0 := nI_ne0 (by omega) (by omega)
    rw [fls_X7_tellFraction_2]
    unfold fb_X7_tellFraction_2
    rw [pk_m1, n9 1, nI_iflt (by omega) (by omega), if_neg (by omega), decide_eq_true ne, grd_t, grd_t, grd_t, grd_t, pk_rem (by omega) (by omega) (by omega), pk_rem (by omega) (by omega) (by omega), pk_div (by omega) (by omega) (by omega), pk_div (by omega) (by omega) (by omega)]
    have z : ∀ a : Nat, a < 2 ^ 31 → ((nI a = 0) ↔ a = 0) := fun a ha => nI_eq (b := 0) ha (by omega)
    by_cases c1 : c % (k + 1) = 0
    · rw [if_pos ((z _ (Nat.lt_of_le_of_lt (Nat.mod_le _ _) (by omega))).mpr c1)]
      by_cases c2 : w % (k + 1) = 0
      · rw [if_pos ((z _ (Nat.lt_of_le_of_lt (Nat.mod_le _ _) (by omega))).mpr c2)]
        have e : k + 1 = Nat.gcd c w := Nat.le_antisymm (Nat.le_of_dvd (Nat.gcd_pos_of_pos_right c h0) (Nat.dvd_gcd (Nat.dvd_of_mod_eq_zero c1) (Nat.dvd_of_mod_eq_zero c2))) hg
        rw [e]
      · rw [if_neg (fun q => c2 ((z _ (Nat.lt_of_le_of_lt (Nat.mod_le _ _) (by omega))).mp q))]
        refine ih g (by omega) ?_ (by omega)
        have : ¬ Nat.gcd c w = k + 1 := fun q => c2 (Nat.mod_eq_zero_of_dvd (q ▸ Nat.gcd_dvd_right c w))
        omega
    · rw [if_neg (fun q => c1 ((z _ (Nat.lt_of_le_of_lt (Nat.mod_le _ _) (by omega))).mp q))]
      refine ih g (by omega) ?_ (by omega)
      have : ¬ Nat.gcd c w = k + 1 := fun q => c1 (Nat.mod_eq_zero_of_dvd (q ▸ Nat.gcd_dvd_left c w))
      omega
theorem euclid_loop (ke : Int32 → Int32 → Stt → Option (Int32 × Stt)) (x3 : Int32) (S : Stt) : ∀ (y x fuel : Nat), x < 2 ^ 30 → y < 2 ^ 30 → y < fuel → fl_X8_odds_49 ke fuel x3 (nI x) (nI y) S = ke x3 (nI (Nat.gcd x y)) S := by
  intro y
  induction y using Nat.strongRecOn with
  | ind y ih =>
    intro x fuel hx hy hf
    obtain ⟨g, rfl⟩ : ∃ g, fuel = g + 1 := ⟨fuel - 1, by omega⟩
    rw [fls_X8_odds_49]
    unfold fb_X8_odds_49
    by_cases c : y = 0
    · subst c
      rw [if_pos (by rfl), Nat.gcd_zero_right]
    · have ne : ¬ nI y = 0 := nI_ne0 (by omega) (by omega)
      have hm := Nat.mod_lt x (show y > 0 by omega)
      rw [if_neg ne, decide_eq_true ne, grd_t, pk_rem (by omega) (by omega) (by omega), ih (x % y) hm y g hy (by omega) (by omega), Nat.gcd_comm y (x % y), ← Nat.gcd_rec, Nat.gcd_comm]
theorem Rel.longs {S M : Stt} (h : Rel S M) (a b : Int64) : Rel (putL (putL S 0 a) 1 b) (putL (putL M 3 a) 4 b) := by
  obtain ⟨⟨a1, a2, a3, a4, a5⟩, r⟩ := h
  refine ⟨⟨a1, a2, a3, ?_, ?_⟩, r⟩
  · simp [putL_2]
  · simp [putL_2]
theorem sim_odds (x1 x2 : Int32) : SimI (f_X7_odds x1 x2) (f_X8_odds x1 x2) := by
  intro S M h
  obtain ⟨n, Q, hV, hB, hR, hM, hDP, hL, -⟩ := h.bk
  unfold f_X7_odds f_X8_odds
  rcases case2 x1 with ⟨c1, c2⟩ | ⟨m, hm, rfl, c1, c2⟩
  · exact ⟨-1, S, M, by rw [c1, obind, if_pos rfl], by rw [c2, obind, if_pos rfl], h⟩
  · rcases day2 x2 with ⟨d1, d2⟩ | ⟨d, hd, rfl, d1, d2⟩
    · exact ⟨-1, S, M, by rw [c1, obind, if_neg n10, d1, obind, if_pos rfl], by rw [c2, obind, if_neg n10, d2, obind, if_pos rfl], h⟩
    · obtain ⟨S1, a1, a2, a3⟩ := hear_eq hV hB hR hDP.dd hd
      obtain ⟨M2, e1, e2, e3⟩ := onesOf_eq (lo := n) hV hM (d := d) hm
      obtain ⟨l1, l2⟩ := cn_le (lo := n) hV d m
      have l3 := wy_pos (lo := n) hV d
      have gp := Nat.gcd_pos_of_pos_right (cn Q n n d m) (show 0 < wy Q n n d by omega)
      have gl := Nat.le_of_dvd (show 0 < wy Q n n d by omega) (Nat.gcd_dvd_right (cn Q n n d m) (wy Q n n d))
      refine ⟨1, _, _, ?_, ?_, (h.k30 a2 e2).longs (nI (cn Q n n d m / Nat.gcd (cn Q n n d m) (wy Q n n d))).toInt64 (nI (wy Q n n d / Nat.gcd (cn Q n n d m) (wy Q n n d))).toInt64⟩
      · rw [c1, obind, if_neg n10, d1, obind, if_neg n10, a1, obind, timesOne_eq hV a3 hm, obind]
        show Option.bind (f_X7_tellFraction (nI (cn Q n n d m)) (S1.1 31 0 0) S1) _ = _
        rw [a3.1]
        unfold f_X7_tellFraction
        rw [frac_loop l1 l2 (by omega) S1 (wy Q n n d) 300 (by omega) gl (Nat.le_refl _), obind]
      · rw [c2, obind, if_neg n10, d2, obind, if_neg n10, bindSet_eq hV hM hL (by omega), obind, n9 5, meanOf_eq hV hM hL hd (by omega), obind, n9 6, meanOf_eq hV hM hL hd (by omega), obind, e1, obind]
        show fl_X8_odds_49 _ 300 (nI (cn Q n n d m)) (nI (cn Q n n d m)) (M2.1 0 22 0) M2 = _
        have ne : ¬ nI (Nat.gcd (cn Q n n d m) (wy Q n n d)) = 0 := nI_ne0 gp (by omega)
        rw [e3, euclid_loop _ _ _ _ _ _ (by omega) (by omega) (by omega)]
        show grd _ (grd _ (some ((1 : Int32), putL (putL M2 3 _) 4 (M2.1 0 22 0 / nI _).toInt64))) = _
        rw [decide_eq_true ne, grd_t, grd_t, e3, pk_div (by omega) gp (by omega), pk_div (by omega) gp (by omega)]
theorem sim_waits (x1 : Int32) : SimI (f_X7_waits x1) (f_X8_waits x1) := by
  intro S M h
  obtain ⟨n, Q, hV, hB, hR, hM, hDP, hL, -⟩ := h.bk
  unfold f_X7_waits f_X8_waits
  rcases day2 x1 with ⟨d1, d2⟩ | ⟨d, hd, rfl, d1, d2⟩
  · exact ⟨-1, S, M, by rw [d1, obind, if_pos rfl], by rw [d2, obind, if_pos rfl], h⟩
  · obtain ⟨S1, a1, a2, a3⟩ := hear_eq hV hB hR hDP.dd hd
    obtain ⟨M1, b1, b2⟩ := waitsOn_eq hV hM hL hd 1
    obtain ⟨M2, e1, e2⟩ := waitsOn_eq hV (b2.bm hM) (b2.lo hL) hd (-9)
    refine ⟨nI (wc Q n n d (-9)), put S1 62 0 0 (nI (wc Q n n d 1)), put M2 0 2 0 (nI (wc Q n n d 1)), ?_, ?_, (h.k30 a2 (b2.tr e2)).ask _⟩
    · rw [d1, obind, if_neg n10, a1, obind, bitCount_eq, obind, always_bc hV a3]
      unfold f_X1_waiting
      rw [obind, bitCount_eq, obind, waiting_bc hV (ci_put a3 (by omega) _)]
    · rw [d2, obind, if_neg n10, b1, obind, e1, obind]
      rfl
theorem sim_all : SimI f_X7_all f_X8_all := by
  intro S M h
  obtain ⟨n, Q, hV, hB, hR, hM, hDP, hL, -⟩ := h.bk
  obtain ⟨S1, a1, a2⟩ := waitingInAll_eq hV hB hR hDP.dd
  obtain ⟨M1, b1, b2⟩ := allWaits_eq hV hM hL
  refine ⟨nI (aw Q n n n), S1, M1, ?_, ?_, h.k30 a2 b2⟩
  · unfold f_X7_all; rw [a1, obind]
  · unfold f_X8_all; rw [b1, obind]
/-- the first day from d on, of k days, on which case m is sure to be 0 -/
def frF (Q : Nat → Nat → Nat) (n lo m : Nat) : Nat → Nat → Int32
  | 0, _ => -9
  | k + 1, d => if iso Q n lo d m = 0 then nI d else frF Q n lo m k (d + 1)
theorem free_loopM {n lo m : Nat} {Q : Nat → Nat → Nat} (hV : BkV n Q) (hm : m < 32) : ∀ (k d fuel : Nat) (M : Stt), d + k = 21 → k < fuel → BM M n Q → LoR M n lo → ∃ M', fl_X8_freeFrom_2 (fun S => some ((-9 : Int32), S)) fuel (nI m) (nI d) M = some (frF Q n lo m k d, M') ∧ W22 M M' := by
  intro k
  induction k with
  | zero =>
    intro d fuel M h1 h2 hB hL
    obtain ⟨g, rfl⟩ : ∃ g, fuel = g + 1 := ⟨fuel - 1, by omega⟩
    refine ⟨M, ?_, W22.rf M⟩
    rw [fls_X8_freeFrom_2]
    unfold fb_X8_freeFrom_2
    rw [n9 20, nI_iflt (by omega) (by omega), if_pos (by omega)]
    rfl
  | succ k ih =>
    intro d fuel M h1 h2 hB hL
    obtain ⟨g, rfl⟩ : ∃ g, fuel = g + 1 := ⟨fuel - 1, by omega⟩
    obtain ⟨M1, a1, a2⟩ := isOn_eq hV hB hL (d := d) (by omega) hm
    rw [fls_X8_freeFrom_2]
    unfold fb_X8_freeFrom_2
    rw [n9 20, nI_iflt (by omega) (by omega), if_neg (by omega), a1, obind]
    unfold frF
    show ∃ M', (if iso Q n lo d m = 0 then _ else _) = _ ∧ _
    by_cases c : iso Q n lo d m = 0
    · rw [if_pos c, if_pos c]
      exact ⟨M1, rfl, a2⟩
    · rw [if_neg c, if_neg c, nI_1]
      obtain ⟨M2, b1, b2⟩ := ih (d + 1) g M1 (by omega) (by omega) (a2.bm hB) (a2.lo hL)
      exact ⟨M2, b1, a2.tr b2⟩
theorem freeFrom_eq {M : Stt} {n lo m : Nat} {Q : Nat → Nat → Nat} (hV : BkV n Q) (hB : BM M n Q) (hL : LoR M n lo) (hm : m < 32) {d : Nat} (hd : d ≤ 21) : ∃ M', f_X8_freeFrom (nI m) (nI d) M = some (frF Q n lo m (21 - d) d, M') ∧ W22 M M' := free_loopM hV hm (21 - d) d 300 M (by omega) (by omega) hB hL
theorem free_loopC {n m : Nat} {Q : Nat → Nat → Nat} (hV : BkV n Q) (hD : DD n Q) (hm : m < 32) : ∀ (k d fuel : Nat) (S : Stt), d + k = 21 → k < fuel → BC S 0 n Q → RkC S 0 n Q → ∃ S', fl_X7_free_18 (fun S => some ((-9 : Int32), S)) fuel (nI m) (nI d) S = some (frF Q n n m k d, S') ∧ K30 S S' := by
  intro k
  induction k with
  | zero =>
    intro d fuel S h1 h2 hB hR
    obtain ⟨g, rfl⟩ : ∃ g, fuel = g + 1 := ⟨fuel - 1, by omega⟩
    refine ⟨S, ?_, K30.rf S⟩
    rw [fls_X7_free_18]
    unfold fb_X7_free_18
    rw [n9 20, nI_iflt (by omega) (by omega), if_pos (by omega)]
    rfl
  | succ k ih =>
    intro d fuel S h1 h2 hB hR
    obtain ⟨g, rfl⟩ : ∃ g, fuel = g + 1 := ⟨fuel - 1, by omega⟩
    obtain ⟨S1, a1, a2, a3⟩ := hear_eq hV hB hR hD (d := d) (by omega)
    rw [fls_X7_free_18]
    unfold fb_X7_free_18
    rw [n9 20, nI_iflt (by omega) (by omega), if_neg (by omega), a1, obind, stateOf_eq hV a3 hm, obind]
    unfold frF
    show ∃ M', (if iso Q n n d m = 0 then _ else _) = _ ∧ _
    by_cases c : iso Q n n d m = 0
    · rw [if_pos c, if_pos c]
      exact ⟨S1, rfl, a2⟩
    · rw [if_neg c, if_neg c, nI_1]
      obtain ⟨S2, b1, b2⟩ := ih (d + 1) g S1 (by omega) (by omega) (a2.bc hB) (a2.rk hR)
      exact ⟨S2, b1, a2.tr b2⟩
theorem sim_free (x1 x2 : Int32) : SimI (f_X7_free x1 x2) (f_X8_free x1 x2) := by
  intro S M h
  obtain ⟨n, Q, hV, hB, hR, hM, hDP, hL, -⟩ := h.bk
  unfold f_X7_free f_X8_free
  rcases case2 x1 with ⟨c1, c2⟩ | ⟨m, hm, rfl, c1, c2⟩
  · exact ⟨-1, S, M, by rw [c1, obind, if_pos rfl], by rw [c2, obind, if_pos rfl], h⟩
  · rcases day2 x2 with ⟨d1, d2⟩ | ⟨d, hd, rfl, d1, d2⟩
    · exact ⟨-1, S, M, by rw [c1, obind, if_neg n10, d1, obind, if_pos rfl], by rw [c2, obind, if_neg n10, d2, obind, if_pos rfl], h⟩
    · obtain ⟨S1, a1, a2⟩ := free_loopC hV hDP.dd hm (21 - d) d 300 S (by omega) (by omega) hB hR
      obtain ⟨M1, b1, b2⟩ := freeFrom_eq hV hM hL hm (show d ≤ 21 by omega)
      refine ⟨frF Q n n m (21 - d) d, S1, M1, ?_, ?_, h.k30 a2 b2⟩
      · rw [c1, obind, if_neg n10, d1, obind, if_neg n10]; exact a1
      · rw [c2, obind, if_neg n10, d2, obind, if_neg n10, b1, obind]
