/-! days, cases, verdicts as they are given -/
theorem ixle (x : Int32) {k : Nat} (hk : k < 2 ^ 30) : (¬ (0 ≤ x ∧ x ≤ nI k) ∧ (x < 0 ∨ (¬ x < 0 ∧ nI k < x))) ∨ ∃ d, d ≤ k ∧ x = nI d ∧ ¬ x < 0 ∧ ¬ nI k < x ∧ (0 ≤ x ∧ x ≤ nI k) := by
  rcases ix3 x (n := k + 1) (by omega) with h | h | ⟨d, hd, rfl⟩
  · exact Or.inl ⟨fun q => h.2 q.1, Or.inl h.1⟩
  · have h1 := h.1
    rw [Int32.le_iff_toInt_le, nI_toInt (by omega)] at h1
    refine Or.inl ⟨fun q => ?_, Or.inr ⟨h.2.1, ?_⟩⟩
    · have := q.2
      rw [Int32.le_iff_toInt_le, nI_toInt (by omega)] at this
      omega
    · rw [Int32.lt_iff_toInt_lt, nI_toInt (by omega)]
      omega
  · exact Or.inr ⟨d, by omega, rfl, nI_pos (by omega), nI_nlt (by omega) (by omega), nI_pos' (by omega), nI_le (by omega) (by omega)⟩
theorem day2 (x : Int32) : ((∀ S, f_X7_isDay x S = some (0, S)) ∧ (∀ M, f_X8_isDay x M = some (0, M))) ∨ ∃ d, d ≤ 20 ∧ x = nI d ∧ (∀ S, f_X7_isDay x S = some (1, S)) ∧ (∀ M, f_X8_isDay x M = some (1, M)) := by
  rcases ixle x (k := 20) (by omega) with ⟨h, h2⟩ | ⟨d, hd, rfl, h1, h2, h3⟩
  · refine Or.inl ⟨fun S => ?_, fun M => ?_⟩
    · unfold f_X7_isDay
      rcases h2 with h2 | ⟨h2, h3⟩
      · rw [if_pos h2]
      · rw [if_neg h2, n9 20, if_pos h3]
    · unfold f_X8_isDay
      rw [in_eq, obind, n9 20, if_neg h]
      rfl
  · refine Or.inr ⟨d, hd, rfl, fun S => ?_, fun M => ?_⟩
    · unfold f_X7_isDay
      rw [if_neg h1, n9 20, if_neg h2]
    · unfold f_X8_isDay
      rw [in_eq, obind, n9 20, if_pos h3]
      rfl
theorem case2 (x : Int32) : ((∀ S, f_X7_isCase x S = some (0, S)) ∧ (∀ M, f_X8_isCase x M = some (0, M))) ∨ ∃ d, d < 32 ∧ x = nI d ∧ (∀ S, f_X7_isCase x S = some (1, S)) ∧ (∀ M, f_X8_isCase x M = some (1, M)) := by
  rcases ixle x (k := 31) (by omega) with ⟨h, h2⟩ | ⟨d, hd, rfl, h1, h2, h3⟩
  · refine Or.inl ⟨fun S => ?_, fun M => ?_⟩
    · unfold f_X7_isCase
      rcases h2 with h2 | ⟨h2, h3⟩
      · rw [if_pos h2]
      · rw [if_neg h2, n9 32, if_pos]
        rw [Int32.lt_iff_toInt_lt, nI_toInt (by omega)] at h3
        rw [Int32.le_iff_toInt_le, nI_toInt (by omega)]
        omega
    · unfold f_X8_isCase
      rw [in_eq, obind, n9 31, if_neg h]
      rfl
  · refine Or.inr ⟨d, by omega, rfl, fun S => ?_, fun M => ?_⟩
    · unfold f_X7_isCase
      rw [if_neg h1, n9 32, if_neg (nI_ge (by omega) (by omega))]
    · unfold f_X8_isCase
      rw [in_eq, obind, n9 31, if_pos h3]
      rfl
theorem verd2 (x : Int32) : ((∀ S, f_X7_isVerdict x S = some (0, S)) ∧ ¬ (0 ≤ x ∧ x ≤ 1)) ∨ ∃ v, v ≤ 1 ∧ x = nI v ∧ (∀ S, f_X7_isVerdict x S = some (1, S)) ∧ (0 ≤ x ∧ x ≤ 1) := by
  rcases ixle x (k := 1) (by omega) with ⟨h, h2⟩ | ⟨d, hd, rfl, h1, h2, h3⟩
  · refine Or.inl ⟨fun S => ?_, h⟩
    unfold f_X7_isVerdict
    rw [if_neg (fun q => h (by rw [q]; exact ⟨by decide, by decide⟩)), if_neg (fun q => h (by rw [q]; exact ⟨by decide, by decide⟩))]
  · refine Or.inr ⟨d, hd, rfl, fun S => ?_, h3⟩
    unfold f_X7_isVerdict
    rcases (show d = 0 ∨ d = 1 by omega) with rfl | rfl
    · rw [if_pos (by rfl)]
    · rw [if_neg (by decide), if_pos (by rfl)]
theorem DP.dd {n : Nat} {Q : Nat → Nat → Nat} (h : DP n Q) : DD n Q := fun i j h1 h2 h3 _ => h.2 i j h1 h2 h3
/-- the book of both -/
theorem Rel.bk {S M : Stt} (h : Rel S M) : ∃ n Q, BkV n Q ∧ BC S 0 n Q ∧ RkC S 0 n Q ∧ BM M n Q ∧ DP n Q ∧ LoR M n n ∧ ∀ i, i < n → S.1 11 0 i = M.1 10 0 i ∧ S.1 14 0 i = M.1 11 0 i := by
  obtain ⟨-, -, -, -, ⟨n, Q, h1, h2, h3, h4, h5, h6⟩, -, h7⟩ := h
  exact ⟨n, Q, h1, h2, h3, h4, h5, Or.inl ⟨h7, Nat.le_refl _⟩, h6⟩
/-- a page that is given: none, on both sides, or one -/
theorem page2 {S M : Stt} {n b : Nat} (x : Int32) (hn : n ≤ 6) (hS : S.1 17 b 0 = nI n) (hM : M.1 0 10 0 = nI n) : (f_X0_isOne b x S = some (0, S) ∧ f_X8_isPage x M = some (0, M)) ∨ ∃ i, i < n ∧ x = nI i ∧ f_X0_isOne b x S = some (1, S) ∧ f_X8_isPage x M = some (1, M) := by
  rcases place3 x (n := n) (by omega) with ⟨p1, p2⟩ | ⟨i, hi, rfl, -, -, -⟩
  · exact Or.inl ⟨isOneB_no hS p1, isPage_no hM p2⟩
  · refine Or.inr ⟨i, hi, rfl, ?_, ?_⟩
    · rw [isOneB_eq hS (by omega) (by omega), decide_eq_true hi]; rfl
    · rw [isPage_eq hM (by omega) (by omega), decide_eq_true hi]; rfl
theorem fac_some {n lo : Nat} {Q : Nat → Nat → Nat} (hV : BkV n Q) (d w : Nat) : ∃ f, f < 5 ∧ ms Q n lo d w f = true := by
  unfold ms fac
  rcases ld_in Q n lo d w n with h | ⟨h1, h2⟩
  · rw [if_pos h]
    exact ⟨0, by omega, by decide⟩
  · have hq := qd_facts h2
    have hv := ((hV.2 _ h1).2.2.2.2.1 hq.2.2.1).1
    have := hV.1
    rw [if_neg (by omega)]
    exact ⟨Q 4 (ld Q n lo d w n), by omega, by rw [b_pow (by omega) (by omega), decide_eq_true rfl]⟩
theorem wy6_mono (Q : Nat → Nat → Nat) (n lo d f5 : Nat) {f6 : Nat} (h5 : ms Q n lo d 5 f5 = true) (h6 : ms Q n lo d 6 f6 = true) : ∀ j, f6 < j → 1 ≤ wy6 Q n lo d f5 j := by
  intro j
  induction j with
  | zero => intro h; omega
  | succ j ih =>
    intro h
    rw [wy6]
    by_cases c : f6 = j
    · subst c
      rw [if_pos ⟨h5, h6⟩]
      omega
    · have := ih (by omega)
      omega
theorem wy_pos {n lo : Nat} {Q : Nat → Nat → Nat} (hV : BkV n Q) (d : Nat) : 1 ≤ wy Q n lo d := by
  obtain ⟨f5, a1, a2⟩ := fac_some (lo := lo) hV d 5
  obtain ⟨f6, b1, b2⟩ := fac_some (lo := lo) hV d 6
  have key : ∀ k, f5 < k → 1 ≤ wy5 Q n lo d k := by
    intro k
    induction k with
    | zero => intro h; omega
    | succ k ih =>
      intro h
      rw [wy5]
      by_cases c : f5 = k
      · subst c
        have := wy6_mono Q n lo d f5 a2 b2 5 b1
        omega
      · have := ih (by omega)
        omega
  exact key 5 a1
theorem cn_le {n lo : Nat} {Q : Nat → Nat → Nat} (hV : BkV n Q) (d m : Nat) : cn Q n lo d m ≤ wy Q n lo d ∧ wy Q n lo d ≤ 25 := ⟨on5_le hV d m 5, wy5_le Q n lo d 5⟩
theorem stateOf_eq {S : Stt} {n d m : Nat} {Q : Nat → Nat → Nat} (hV : BkV n Q) (hC : CI S (wy Q n n d) (fun m => cn Q n n d m)) (hm : m < 32) : f_X1_stateOf (nI m) S = some (iso Q n n d m, S) := by
  have hc2 := hC.2 m hm
  dsimp only at hc2
  obtain ⟨-, -, c3, c4⟩ := hc2
  have hp := wy_pos (lo := n) hV d
  unfold f_X1_stateOf
  rw [hasBit_eq _ hm, obind, if_b2i, c3]
  unfold iso
  by_cases e1 : cn Q n n d m = wy Q n n d
  · rw [if_pos (decide_eq_true e1), if_neg (by omega), if_pos e1]
  · rw [if_neg (by rw [decide_eq_false e1]; decide)]
    show Option.bind (f_X7_hasBit (S.1 33 0 0) (nI m) S) _ = _
    rw [hasBit_eq _ hm, obind, if_b2i, c4]
    by_cases e2 : cn Q n n d m = 0
    · rw [if_neg (by rw [decide_eq_false (by omega)]; decide), if_pos e2]
    · rw [if_pos (decide_eq_true (by omega)), if_neg e2, if_neg e1]
theorem timesOne_loop {S : Stt} {w m : Nat} (hw : w ≤ 25) (h31 : S.1 31 0 0 = nI w) (hm : m < 32) : ∀ (k i fuel : Nat), i + k = w → k < fuel → fl_X1_timesOne_4 (fun x2 S => some (x2, S)) fuel (nI m) (nI (tc S m i)) (nI i) S = some (nI (tc S m w), S) := by
  intro k
  induction k with
  | zero =>
    intro i fuel h1 h2
    obtain ⟨g, rfl⟩ : ∃ g, fuel = g + 1 := ⟨fuel - 1, by omega⟩
    rw [fls_X1_timesOne_4]
    unfold fb_X1_timesOne_4
    rw [h31, nI_ifle (by omega) (by omega), if_pos (by omega), show i = w by omega]
  | succ k ih =>
    intro i fuel h1 h2
    obtain ⟨g, rfl⟩ : ∃ g, fuel = g + 1 := ⟨fuel - 1, by omega⟩
    have ih2 := ih (i + 1) g (by omega) (by omega)
    rw [fls_X1_timesOne_4]
    unfold fb_X1_timesOne_4
    rw [h31, nI_ifle (by omega) (by omega), if_neg (by omega), ixb_nI (show i < 25 by omega) (by omega), grd_t, cl_nI (by omega), hasBit_eq _ hm, obind, if_b2i]
    rw [tc] at ih2
    by_cases c : bt (S.1 30 0 i) m = true
    · rw [if_pos c] at ih2 ⊢
      rw [nI_1, nI_1]
      exact ih2
    · rw [if_neg c] at ih2 ⊢
      rw [nI_1]
      exact ih2
theorem timesOne_eq {S : Stt} {n d m : Nat} {Q : Nat → Nat → Nat} (hV : BkV n Q) (hC : CI S (wy Q n n d) (fun m => cn Q n n d m)) (hm : m < 32) : f_X1_timesOne (nI m) S = some (nI (cn Q n n d m), S) := by
  have hw := (cn_le (lo := n) hV d m).2
  have := timesOne_loop (S := S) hw hC.1 hm (wy Q n n d) 0 300 (by omega) (by omega)
  rw [(hC.2 m hm).1] at this
  exact this
/-- how many of the 32 cases are like that on day d -/
def wc (Q : Nat → Nat → Nat) (n lo d : Nat) (like : Int32) : Nat := cnt (fun m => decide (iso Q n lo d m = like)) 32
theorem wc_le (Q : Nat → Nat → Nat) (n lo d : Nat) (like : Int32) : wc Q n lo d like ≤ 32 := cnt_le _ _
theorem always_bc {S : Stt} {n d : Nat} {Q : Nat → Nat → Nat} (hV : BkV n Q) (hC : CI S (wy Q n n d) (fun m => cn Q n n d m)) : bcF (S.1 32 0 0) = nI (wc Q n n d 1) := by
  rw [bc_cnt]
  refine congrArg nI (cnt_congr 32 (fun m hm => ?_))
  have hp := wy_pos (lo := n) hV d
  show bt (S.1 32 0 0) m = _
  rw [(hC.2 m hm).2.2.1]
  unfold iso
  by_cases e1 : cn Q n n d m = wy Q n n d
  · rw [decide_eq_true e1, if_neg (by omega), if_pos e1]; rfl
  · rw [decide_eq_false e1, if_neg e1]
    split <;> rfl
theorem waiting_bc {S : Stt} {n d : Nat} {Q : Nat → Nat → Nat} (hV : BkV n Q) (hC : CI S (wy Q n n d) (fun m => cn Q n n d m)) : bcF (S.1 33 0 0 &&& (S.1 32 0 0 ^^^ (-1))) = nI (wc Q n n d (-9)) := by
  rw [bc_cnt]
  refine congrArg nI (cnt_congr 32 (fun m hm => ?_))
  have hp := wy_pos (lo := n) hV d
  show bt (S.1 33 0 0 &&& (S.1 32 0 0 ^^^ (-1))) m = _
  have hc2 := hC.2 m hm
  dsimp only at hc2
  rw [b_and, b_not _ hm, hc2.2.2.1, hc2.2.2.2]
  unfold iso
  by_cases e1 : cn Q n n d m = wy Q n n d
  · rw [decide_eq_true e1, if_neg (by omega), if_pos e1, Bool.not_true, Bool.and_false]; rfl
  · rw [decide_eq_false e1, if_neg e1]
    by_cases e2 : cn Q n n d m = 0
    · rw [if_pos e2, decide_eq_false (by omega)]; rfl
    · rw [if_neg e2, decide_eq_true (by omega)]; rfl
theorem waitsOn_loop {n lo : Nat} {Q : Nat → Nat → Nat} (hV : BkV n Q) {d : Nat} (like : Int32) : ∀ (k i fuel : Nat) (M : Stt), i + k = 32 → k < fuel → BM M n Q → ∃ M', fl_X8_waitsOn_29 (fun x6 S => some (x6, S)) fuel like (bits (bnd Q n lo d) n) (fac Q n lo d 5) (fac Q n lo d 6) (nI (cnt (fun m => decide (iso Q n lo d m = like)) i)) (nI i) M = some (nI (wc Q n lo d like), M') ∧ W22 M M' := by
  intro k
  induction k with
  | zero =>
    intro i fuel M h1 h2 hB
    obtain ⟨g, rfl⟩ : ∃ g, fuel = g + 1 := ⟨fuel - 1, by omega⟩
    refine ⟨M, ?_, W22.rf M⟩
    rw [fls_X8_waitsOn_29]
    unfold fb_X8_waitsOn_29
    rw [n9 32, nI_ifle (by omega) (by omega), if_pos (by omega), show i = 32 by omega]
    rfl
  | succ k ih =>
    intro i fuel M h1 h2 hB
    obtain ⟨g, rfl⟩ : ∃ g, fuel = g + 1 := ⟨fuel - 1, by omega⟩
    obtain ⟨M1, a1, a2, a3⟩ := onesOf_eq (lo := lo) hV hB (d := d) (m := i) (by omega)
    obtain ⟨M2, b1, b2⟩ := ih (i + 1) g M1 (by omega) (by omega) (a2.bm hB)
    refine ⟨M2, ?_, a2.tr b2⟩
    have hc := cn_le (lo := lo) hV d i
    rw [fls_X8_waitsOn_29]
    unfold fb_X8_waitsOn_29
    rw [n9 32, nI_ifle (by omega) (by omega), if_neg (by omega), a1, obind]
    show (if nI (cn Q n lo d i) = nI 0 then _ else (if nI (cn Q n lo d i) = M1.1 0 22 0 then _ else _)) = _
    rw [a3, nI_if (by omega) (by omega), nI_if (by omega) (by omega)]
    have key : ∀ x : Int32, x = iso Q n lo d i → fj_X8_waitsOn_73_29 (fl_X8_waitsOn_29 (fun x6 S => some (x6, S)) g) (fun x6 S => some (x6, S)) like (bits (bnd Q n lo d) n) (fac Q n lo d 5) (fac Q n lo d 6) (nI (cnt (fun m => decide (iso Q n lo d m = like)) i)) (nI i) x M1 = some (nI (wc Q n lo d like), M2) := by
      intro x hx
      unfold fj_X8_waitsOn_73_29
      rw [cnt] at b1
      by_cases c : x = like
      · rw [if_pos (decide_eq_true (by rw [← hx]; exact c))] at b1
        rw [if_pos c, nI_1, nI_1]
        exact b1
      · rw [if_neg (by rw [decide_eq_false (by rw [← hx]; exact c)]; decide)] at b1
        rw [if_neg c, n9 0, nI_add, nI_1]
        exact b1
    by_cases c1 : cn Q n lo d i = 0
    · rw [if_pos c1]
      exact key _ (by unfold iso; rw [if_pos c1])
    · rw [if_neg c1]
      by_cases c2 : cn Q n lo d i = wy Q n lo d
      · rw [if_pos c2]
        exact key _ (by unfold iso; rw [if_neg c1, if_pos c2])
      · rw [if_neg c2]
        exact key _ (by unfold iso; rw [if_neg c1, if_neg c2])
theorem waitsOn_eq {M : Stt} {n lo : Nat} {Q : Nat → Nat → Nat} (hV : BkV n Q) (hB : BM M n Q) (hL : LoR M n lo) {d : Nat} (hd : d ≤ 20) (like : Int32) : ∃ M', f_X8_waitsOn (nI d) like M = some (nI (wc Q n lo d like), M') ∧ W22 M M' := by
  obtain ⟨M', a1, a2⟩ := waitsOn_loop (lo := lo) hV (d := d) like 32 0 300 M (by omega) (by omega) hB
  refine ⟨M', ?_, a2⟩
  unfold f_X8_waitsOn
  rw [bindSet_eq hV hB hL (by omega), obind, n9 5, meanOf_eq hV hB hL hd (by omega), obind, n9 6, meanOf_eq hV hB hL hd (by omega), obind]
  exact a1
/-- how many wait, over the days of the reading -/
def aw (Q : Nat → Nat → Nat) (n lo : Nat) : Nat → Nat
  | 0 => 0
  | k + 1 => aw Q n lo k + wc Q n lo k (-9)
theorem aw_le (Q : Nat → Nat → Nat) (n lo : Nat) : ∀ k, aw Q n lo k ≤ 32 * k := by
  intro k
  induction k with
  | zero => exact Nat.le_refl 0
  | succ k ih => have := wc_le Q n lo k (-9); rw [aw]; omega
theorem allWaits_loop {n lo : Nat} {Q : Nat → Nat → Nat} (hV : BkV n Q) : ∀ (k i fuel : Nat) (M : Stt), i + k = n → k < fuel → BM M n Q → LoR M n lo → ∃ M', fl_X8_allWaits_4 (fun x1 S => some (x1, S)) fuel (nI (aw Q n lo i)) (nI i) M = some (nI (aw Q n lo n), M') ∧ W22 M M' := by
  have hn := hV.1
  intro k
  induction k with
  | zero =>
    intro i fuel M h1 h2 hB hL
    obtain ⟨g, rfl⟩ : ∃ g, fuel = g + 1 := ⟨fuel - 1, by omega⟩
    refine ⟨M, ?_, W22.rf M⟩
    rw [fls_X8_allWaits_4]
    unfold fb_X8_allWaits_4
    rw [hB.1, nI_ifle (by omega) (by omega), if_pos (by omega), show i = n by omega]
  | succ k ih =>
    intro i fuel M h1 h2 hB hL
    obtain ⟨g, rfl⟩ : ∃ g, fuel = g + 1 := ⟨fuel - 1, by omega⟩
    obtain ⟨M1, a1, a2⟩ := waitsOn_eq hV hB hL (d := i) (by omega) (-9)
    obtain ⟨M2, b1, b2⟩ := ih (i + 1) g M1 (by omega) (by omega) (a2.bm hB) (a2.lo hL)
    refine ⟨M2, ?_, a2.tr b2⟩
    rw [fls_X8_allWaits_4]
    unfold fb_X8_allWaits_4
    rw [hB.1, nI_ifle (by omega) (by omega), if_neg (by omega), a1, obind]
    show fl_X8_allWaits_4 _ g (nI (aw Q n lo i) + nI (wc Q n lo i (-9))) (nI i + 1) M1 = _
    rw [nI_add, nI_1]
    exact b1
theorem allWaits_eq {M : Stt} {n lo : Nat} {Q : Nat → Nat → Nat} (hV : BkV n Q) (hB : BM M n Q) (hL : LoR M n lo) : ∃ M', f_X8_allWaits M = some (nI (aw Q n lo n), M') ∧ W22 M M' := by
  have hn := hV.1
  exact allWaits_loop hV n 0 300 M (by omega) (by omega) hB hL
theorem waitingInAll_loop {b n : Nat} {Q : Nat → Nat → Nat} (hV : BkV n Q) (hD : DD n Q) : ∀ (k i fuel : Nat) (S : Stt), i + k = n → k < fuel → BC S b n Q → RkC S b n Q → ∃ S', fl_X1_waitingInAll_4 (fun x2 S => some (x2, S)) fuel b (nI (aw Q n n i)) (nI i) S = some (nI (aw Q n n n), S') ∧ K30 S S' := by
  have hn := hV.1
  intro k
  induction k with
  | zero =>
    intro i fuel S h1 h2 hB hR
    obtain ⟨g, rfl⟩ : ∃ g, fuel = g + 1 := ⟨fuel - 1, by omega⟩
    refine ⟨S, ?_, K30.rf S⟩
    rw [fls_X1_waitingInAll_4]
    unfold fb_X1_waitingInAll_4
    rw [hB.1, nI_ifle (by omega) (by omega), if_pos (by omega), show i = n by omega]
  | succ k ih =>
    intro i fuel S h1 h2 hB hR
    obtain ⟨g, rfl⟩ : ∃ g, fuel = g + 1 := ⟨fuel - 1, by omega⟩
    obtain ⟨S1, a1, a2, a3⟩ := hear_eq hV hB hR hD (d := i) (by omega)
    obtain ⟨S2, b1, b2⟩ := ih (i + 1) g S1 (by omega) (by omega) (a2.bc hB) (a2.rk hR)
    refine ⟨S2, ?_, a2.tr b2⟩
    rw [fls_X1_waitingInAll_4]
    unfold fb_X1_waitingInAll_4
    rw [hB.1, nI_ifle (by omega) (by omega), if_neg (by omega), a1, obind]
    unfold f_X1_waiting
    rw [obind]
    show Option.bind (f_J6_bitCount_0f7a4 (S1.1 33 0 0 &&& (S1.1 32 0 0 ^^^ (-1))) S1) _ = _
    rw [bitCount_eq, obind, waiting_bc hV a3]
    show fl_X1_waitingInAll_4 _ g b (nI (aw Q n n i) + nI (wc Q n n i (-9))) (nI i + 1) S1 = _
    rw [nI_add, nI_1]
    exact b1
theorem waitingInAll_eq {S : Stt} {b n : Nat} {Q : Nat → Nat → Nat} (hV : BkV n Q) (hB : BC S b n Q) (hR : RkC S b n Q) (hD : DD n Q) : ∃ S', f_X1_waitingInAll b S = some (nI (aw Q n n n), S') ∧ K30 S S' := by
  have hn := hV.1
  exact waitingInAll_loop hV hD n 0 300 S (by omega) (by omega) hB hR
