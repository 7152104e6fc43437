/-! what hangs on what binds alone -/
section
variable {Q Q' : Nat → Nat → Nat} {n lo lo' d : Nat}
def EqB (Q Q' : Nat → Nat → Nat) (n lo lo' d : Nat) : Prop := (∀ j, j < n → bnd Q' n lo' d j = bnd Q n lo d j) ∧ ∀ j, j < n → bnd Q n lo d j = true → Q' 0 j = Q 0 j ∧ Q' 2 j = Q 2 j ∧ Q' 3 j = Q 3 j ∧ (Q 0 j = 3 → Q' 4 j = Q 4 j ∧ Q' 5 j = Q 5 j)
theorem EqB.e_qd (h : EqB Q Q' n lo lo' d) {w j : Nat} (hj : j < n) : qd Q' n lo' d w j = qd Q n lo d w j := by
  unfold qd
  rw [h.1 j hj]
  cases c : bnd Q n lo d j
  · rfl
  · rw [(h.2 j hj c).1, (h.2 j hj c).2.2.1]
theorem EqB.e_ld (h : EqB Q Q' n lo lo' d) {w : Nat} : ∀ k, k ≤ n → ld Q' n lo' d w k = ld Q n lo d w k := by
  intro k
  induction k with
  | zero => intro _; rfl
  | succ k ih =>
    intro hk
    rw [ld, ld, ih (by omega), h.e_qd (by omega)]
    by_cases c : qd Q n lo d w k = true
    · rw [if_pos c, if_pos c]
      have f1 := qd_facts c
      have e1 := ((h.2 k (by omega) f1.2.2.2.2.2).2.2.2 f1.2.2.1).2
      rcases ld_in Q n lo d w k with q | ⟨q1, q2⟩
      · rw [if_pos (Or.inl q), if_pos (Or.inl q)]
      · have f2 := qd_facts q2
        have e2 := ((h.2 _ (by omega) f2.2.2.2.2.2).2.2.2 f2.2.2.1).2
        rw [e1, e2]
    · rw [if_neg c, if_neg c]
theorem EqB.e_fac (h : EqB Q Q' n lo lo' d) (w : Nat) : fac Q' n lo' d w = fac Q n lo d w := by
  unfold fac
  rw [h.e_ld n (Nat.le_refl _)]
  rcases ld_in Q n lo d w n with q | ⟨q1, q2⟩
  · rw [if_pos q, if_pos q]
  · have f2 := qd_facts q2
    rw [((h.2 _ f2.1 f2.2.2.2.2.2).2.2.2 f2.2.2.1).1]
theorem EqB.e_fit (h : EqB Q Q' n lo lo' d) {f5 f6 m j : Nat} (hj : j < n) : fitB Q' n lo' d f5 f6 m j = fitB Q n lo d f5 f6 m j := by
  unfold fitB
  rw [h.1 j hj]
  cases c : bnd Q n lo d j
  · rfl
  · rw [(h.2 j hj c).1, (h.2 j hj c).2.2.1]
theorem fit_bnd {f5 f6 m j : Nat} (h : fitB Q n lo d f5 f6 m j = true) : bnd Q n lo d j = true := by
  unfold fitB at h
  rw [Bool.and_eq_true] at h
  exact h.1
theorem EqB.e_wt (h : EqB Q Q' n lo lo' d) {j : Nat} (hj : j < n) (hb : bnd Q n lo d j = true) : wt Q' j = wt Q j := by
  unfold wt
  rw [(h.2 j hj hb).1, (h.2 j hj hb).2.2.1]
theorem EqB.e_jd (h : EqB Q Q' n lo lo' d) (hn : n ≤ 6) {f5 f6 m : Nat} : ∀ k, k ≤ n → jd Q' n lo' d f5 f6 m k = jd Q n lo d f5 f6 m k := by
  intro k
  induction k with
  | zero => intro _; rfl
  | succ k ih =>
    intro hk
    rw [jd, jd, ih (by omega), h.e_fit (by omega)]
    by_cases c : fitB Q n lo d f5 f6 m k = true
    · rw [if_pos c, if_pos c]
      have e1 := h.e_wt (show k < n by omega) (fit_bnd c)
      rcases jd_spec Q n lo d f5 f6 m k (by omega) with ⟨q, -⟩ | ⟨q1, q2, -⟩
      · rw [if_pos (Or.inl q), if_pos (Or.inl q)]
      · have e2 := h.e_wt (show jd Q n lo d f5 f6 m k < n by omega) (fit_bnd q2)
        rw [e1, e2]
    · rw [if_neg c, if_neg c]
theorem EqB.e_gv (h : EqB Q Q' n lo lo' d) (hn : n ≤ 6) (f5 f6 m : Nat) : gv Q' n lo' d f5 f6 m = gv Q n lo d f5 f6 m := by
  unfold gv
  rw [h.e_jd hn n (Nat.le_refl _)]
  rcases jd_spec Q n lo d f5 f6 m n hn with ⟨q, -⟩ | ⟨q1, q2, -⟩
  · rw [if_pos q, if_pos q]
  · rw [(h.2 _ q1 (fit_bnd q2)).2.1]
theorem EqB.e_ms (h : EqB Q Q' n lo lo' d) (w f : Nat) : ms Q' n lo' d w f = ms Q n lo d w f := by
  unfold ms
  rw [h.e_fac]
theorem EqB.e_on6 (h : EqB Q Q' n lo lo' d) (hn : n ≤ 6) (m f5 : Nat) : ∀ j, on6 Q' n lo' d m f5 j = on6 Q n lo d m f5 j := by
  intro j
  induction j with
  | zero => rfl
  | succ j ih => rw [on6, on6, ih, h.e_ms, h.e_ms, h.e_gv hn]
theorem EqB.e_wy6 (h : EqB Q Q' n lo lo' d) (f5 : Nat) : ∀ j, wy6 Q' n lo' d f5 j = wy6 Q n lo d f5 j := by
  intro j
  induction j with
  | zero => rfl
  | succ j ih => rw [wy6, wy6, ih, h.e_ms, h.e_ms]
theorem EqB.e_on5 (h : EqB Q Q' n lo lo' d) (hn : n ≤ 6) (m : Nat) : ∀ k, on5 Q' n lo' d m k = on5 Q n lo d m k := by
  intro k
  induction k with
  | zero => rfl
  | succ k ih => rw [on5, on5, ih, h.e_on6 hn]
theorem EqB.e_wy5 (h : EqB Q Q' n lo lo' d) : ∀ k, wy5 Q' n lo' d k = wy5 Q n lo d k := by
  intro k
  induction k with
  | zero => rfl
  | succ k ih => rw [wy5, wy5, ih, h.e_wy6]
theorem EqB.e_iso (h : EqB Q Q' n lo lo' d) (hn : n ≤ 6) (m : Nat) : iso Q' n lo' d m = iso Q n lo d m := by
  unfold iso cn wy
  rw [h.e_on5 hn, h.e_wy5]
theorem EqB.e_wc (h : EqB Q Q' n lo lo' d) (hn : n ≤ 6) (like : Int32) : wc Q' n lo' d like = wc Q n lo d like := by
  unfold wc
  exact cnt_congr 32 (fun m hm => by rw [h.e_iso hn])
end
/-! matter -/
def outQ (Q : Nat → Nat → Nat) (i : Nat) : Nat → Nat → Nat := fun k j => if j = i then (if k = 0 then 0 else if k = 5 then 99 else Q k j) else Q k j
theorem outQ_ne {Q : Nat → Nat → Nat} {i k j : Nat} (h : j ≠ i) : outQ Q i k j = Q k j := if_neg h
theorem outQ_i (Q : Nat → Nat → Nat) (j : Nat) : outQ Q j 0 j = 0 ∧ outQ Q j 1 j = Q 1 j ∧ outQ Q j 2 j = Q 2 j ∧ outQ Q j 3 j = Q 3 j ∧ outQ Q j 4 j = Q 4 j ∧ outQ Q j 5 j = 99 := by
  unfold outQ
  simp
theorem out_hs {Q : Nat → Nat → Nat} {n i d : Nat} (hi : i < n) (hd : d ≤ 20) : ∀ k j, hsF (outQ Q i) n n k j d = hsF Q n i k j d := by
  intro k
  induction k with
  | zero => intro j; rfl
  | succ k ih =>
    intro j
    rw [hsF, hsF, ih]
    by_cases c : j = i
    · subst c
      have e0 : outQ Q j 0 j = 0 := if_pos rfl
      have e5 : outQ Q j 5 j = 99 := if_pos rfl
      rw [if_pos (show n ≤ j ∨ j = j from Or.inr rfl), if_neg (show ¬ (n ≤ j ∨ j = n) by omega), e0, e5, if_pos (show (0 : Nat) ≠ 5 ∧ d < 99 by omega)]
    · rw [outQ_ne c, outQ_ne c, outQ_ne c]
      by_cases c2 : n ≤ j
      · rw [if_pos (Or.inl c2), if_pos (Or.inl c2)]
      · rw [if_neg (show ¬ (n ≤ j ∨ j = n) by omega), if_neg (show ¬ (n ≤ j ∨ j = i) by omega)]
theorem out_eqB {Q : Nat → Nat → Nat} {n i d : Nat} (hi : i < n) (hd : d ≤ 20) : EqB Q (outQ Q i) n i n d := by
  refine ⟨fun j hj => out_hs hi hd n j, fun j hj hb => ?_⟩
  have := (bnd_lt hb).2
  rw [outQ_ne this, outQ_ne this, outQ_ne this, outQ_ne this, outQ_ne this]
  exact ⟨rfl, rfl, rfl, fun _ => ⟨rfl, rfl⟩⟩
theorem BkV.outE {n i : Nat} {Q : Nat → Nat → Nat} (h : BkV n Q) : BkV n (outQ Q i) := by
  refine ⟨h.1, fun j hj => ?_⟩
  obtain ⟨v0, v1, v2, v3, v4, v5⟩ := h.2 j hj
  by_cases c : j = i
  · subst c
    obtain ⟨e0, e1, e2, e3, e4, e5⟩ := outQ_i Q j
    unfold PgV
    rw [e0, e1, e2, e3, e4, e5]
    exact ⟨Nat.zero_le _, (fun q => absurd q (by omega)), v2, v3, (fun q => absurd q (by omega)), Nat.le_refl _⟩
  · unfold PgV
    rw [outQ_ne c, outQ_ne c, outQ_ne c, outQ_ne c, outQ_ne c, outQ_ne c]
    exact ⟨v0, v1, v2, v3, v4, v5⟩
theorem leaveOut_eq {S : Stt} {b n i : Nat} {Q : Nat → Nat → Nat} (hV : BkV n Q) (hB : BC S b n Q) (hi : i < n) : ∃ S', f_X0_leaveOut b (nI i) S = some S' ∧ KB b S S' ∧ BC S' b n (outQ Q i) ∧ RkC S' b n (outQ Q i) := by
  have hn := hV.1
  have hB1 : BC (put (put S 15 b i 99) 10 b i 0) b n (outQ Q i) := by
    refine ⟨by rw [put_at, if_neg (by omega), put_at, if_neg (by omega)]; exact hB.1, fun j hj => ?_⟩
    obtain ⟨p0, p1, p2, p3, p4, p5, p6⟩ := hB.2 j hj
    by_cases c : j = i
    · subst c
      obtain ⟨e0, e1, e2, e3, e4, e5⟩ := outQ_i Q j
      unfold PgC
      rw [e0, e1, e2, e3, e4, e5]
      refine ⟨?_, (fun q => absurd q (by omega)), ?_, ?_, (fun q => absurd q (by omega)), ?_, fun m hm => ?_⟩
      · rw [put_at, if_pos ⟨rfl, rfl, rfl⟩]; rfl
      · rw [put_at, if_neg (by omega), put_at, if_neg (by omega)]; exact p2
      · rw [put_at, if_neg (by omega), put_at, if_neg (by omega)]; exact p3
      · rw [put_at, if_neg (by omega), put_at, if_pos ⟨rfl, rfl, rfl⟩]; rfl
      · rw [put_at, if_neg (by omega), put_at, if_neg (by omega)]; exact p6 m hm
    · have := hB.2 j hj
      refine PgC.frame (S := S) ?_ (fun F q1 q2 => by rw [put_at, if_neg (by omega), put_at, if_neg (by omega)])
      unfold PgC at *
      rw [outQ_ne c, outQ_ne c, outQ_ne c, outQ_ne c, outQ_ne c, outQ_ne c]
      exact this
  obtain ⟨S', r1, r2, r3, r4⟩ := rank_eq hV.outE hB1
  refine ⟨S', ?_, ⟨fun F a j q => ?_, ?_⟩, ?_, r4⟩
  · unfold f_X0_leaveOut f_X0_changeKind
    rw [isOneB_eq hB.1 (by omega) (by omega), obind, if_b2i, if_pos (decide_eq_true hi), ixb_nI (show i < 6 by omega) (by omega), grd_t, cl_nI (by omega)]
    dsimp only
    rw [isOneB_eq (n := n) (by rw [put_at, if_neg (by omega)]; exact hB.1) (by omega) (by omega), obind, if_b2i, if_pos (decide_eq_true hi), grd_t]
    dsimp only
    rw [r1, obind, obind]
  · rw [r2 F a j (by omega), put_at, if_neg (by omega), put_at, if_neg (by omega)]
  · rw [r3]; rfl
  · exact ⟨by rw [r2 17 b 0 (by omega)]; exact hB1.1, fun j hj => (hB1.2 j hj).frame (fun F q1 q2 => r2 F b j (by omega))⟩
theorem iso_bits {S : Stt} {n d m : Nat} {Q : Nat → Nat → Nat} (hV : BkV n Q) (hC : CI S (wy Q n n d) (fun m => cn Q n n d m)) (hm : m < 32) : bt (S.1 32 0 0) m = decide (iso Q n n d m = 1) ∧ bt (S.1 33 0 0) m = decide (¬ iso Q n n d m = 0) ∧ (iso Q n n d m = 0 ∨ iso Q n n d m = 1 ∨ iso Q n n d m = -9) := by
  have hc2 := hC.2 m hm
  dsimp only at hc2
  obtain ⟨-, -, c3, c4⟩ := hc2
  have hp := wy_pos (lo := n) hV d
  rw [c3, c4]
  unfold iso
  by_cases e1 : cn Q n n d m = 0
  · rw [if_pos e1, decide_eq_false (show ¬ cn Q n n d m = wy Q n n d by omega), decide_eq_false (show ¬ 0 < cn Q n n d m by omega)]
    exact ⟨rfl, rfl, Or.inl rfl⟩
  · rw [if_neg e1, decide_eq_true (show 0 < cn Q n n d m by omega)]
    by_cases e2 : cn Q n n d m = wy Q n n d
    · rw [if_pos e2, decide_eq_true e2]
      exact ⟨rfl, rfl, Or.inr (Or.inl rfl)⟩
    · rw [if_neg e2, decide_eq_false e2]
      exact ⟨rfl, rfl, Or.inr (Or.inr rfl)⟩
theorem matter_loop {n i d : Nat} {Q : Nat → Nat → Nat} (hV : BkV n Q) (hi : i < n) (hd : d ≤ 20) (p : Nat → Bool) (hp : ∀ m, m < 32 → (p m = true ↔ ¬ iso Q n n d m = iso Q n i d m)) : ∀ (k m fuel c : Nat) (M : Stt), m + k = 32 → k < fuel → BM M n Q → M.1 0 20 0 = -9 → cnt p m = c → ∃ M', fl_X8_matter_22 (fun x3 S => some (x3, S)) fuel (nI i) (nI d) (nI c) (nI m) M = some (nI (cnt p 32), M') ∧ W22 M M' := by
  have hn := hV.1
  intro k
  induction k with
  | zero =>
    intro m fuel c M h1 h2 hB hL hc
    obtain ⟨g, rfl⟩ : ∃ g, fuel = g + 1 := ⟨fuel - 1, by omega⟩
    refine ⟨M, ?_, W22.rf M⟩
    rw [fls_X8_matter_22]
    unfold fb_X8_matter_22
    rw [n9 32, nI_ifle (by omega) (by omega), if_pos (by omega), ← hc, show m = 32 by omega]
  | succ k ih =>
    intro m fuel c M h1 h2 hB hL hc
    obtain ⟨g, rfl⟩ : ∃ g, fuel = g + 1 := ⟨fuel - 1, by omega⟩
    obtain ⟨M1, a1, a2⟩ := isOn_eq hV hB (show LoR M n n from Or.inl ⟨hL, Nat.le_refl _⟩) hd (show m < 32 by omega)
    have hB1 : BM (put M1 0 20 0 (nI i)) n Q := (a2.bm hB).frame (by rw [put_at, if_neg (by omega)]) (fun F j q1 q2 => by rw [put_at, if_neg (by omega)])
    obtain ⟨M2, b1, b2⟩ := isOn_eq hV hB1 (show LoR (put M1 0 20 0 (nI i)) n i from Or.inr ⟨by rw [put_at, if_pos ⟨rfl, rfl, rfl⟩], hi⟩) hd (show m < 32 by omega)
    have hw : W22 M (put M2 0 20 0 (-9)) := by
      refine ⟨fun F a j q => ?_, ?_⟩
      · rw [put_at]
        by_cases c : F = 0 ∧ a = 20 ∧ j = 0
        · rw [if_pos c]
          obtain ⟨rfl, rfl, rfl⟩ := c
          exact hL.symm
        · rw [if_neg c, b2.1 F a j q, put_at, if_neg c, a2.1 F a j q]
      · rw [put_2, b2.2, put_2, a2.2]
    have hpm := hp m (by omega)
    obtain ⟨v, hv⟩ : ∃ v, iso Q n n d m = v := ⟨_, rfl⟩
    obtain ⟨v', hv'⟩ : ∃ v, iso Q n i d m = v := ⟨_, rfl⟩
    rw [hv] at a1 hpm
    rw [hv'] at b1 hpm
    rw [fls_X8_matter_22]
    unfold fb_X8_matter_22
    rw [n9 32, nI_ifle (by omega) (by omega), if_neg (by omega), a1, obind]
    dsimp only
    rw [b1, obind]
    dsimp only
    by_cases c0 : v = v'
    · obtain ⟨M3, c1, c2⟩ := ih (m + 1) g c (put M2 0 20 0 (-9)) (by omega) (by omega) (hw.bm hB) (by rw [put_at, if_pos ⟨rfl, rfl, rfl⟩]) (by rw [cnt, if_neg (fun q => hpm.mp q c0), hc]; rfl)
      refine ⟨M3, ?_, hw.tr c2⟩
      rw [if_pos c0, nI_1 m, n9 0, nI_add c 0]
      exact c1
    · obtain ⟨M3, c1, c2⟩ := ih (m + 1) g (c + 1) (put M2 0 20 0 (-9)) (by omega) (by omega) (hw.bm hB) (by rw [put_at, if_pos ⟨rfl, rfl, rfl⟩]) (by rw [cnt, if_pos (hpm.mpr c0), hc])
      refine ⟨M3, ?_, hw.tr c2⟩
      rw [if_neg c0, nI_1 m, nI_1 c]
      exact c1
theorem sim_matter (x1 x2 : Int32) : SimI (f_X7_matter x1 x2) (f_X8_matter x1 x2) := by
  intro S M h
  obtain ⟨n, Q, hV, hB, hR, hM, hDP, hL, hr⟩ := h.bk
  have hn := hV.1
  unfold f_X7_matter f_X8_matter
  rcases page2 x1 hn hB.1 hM.1 with ⟨a1, a2⟩ | ⟨i, hi, rfl, a1, a2⟩
  · exact ⟨-1, S, M, by rw [a1, obind, if_pos rfl], by rw [a2, obind, if_pos rfl], h⟩
  rw [a1, a2, obind, obind, if_neg n10, if_neg n10]
  rcases day2 x2 with ⟨d1, d2⟩ | ⟨d, hd, rfl, d1, d2⟩
  · exact ⟨-1, S, M, by rw [d1, obind, if_pos rfl], by rw [d2, obind, if_pos rfl], h⟩
  rw [d1, d2, obind, obind, if_neg n10, if_neg n10]
  obtain ⟨S1, b1, b2, b3⟩ := hear_eq hV hB hR hDP.dd hd
  obtain ⟨S2, c1, c2, c3, c4⟩ := become_eq (S := S1) (b0 := 1) (b1 := 0) (by omega) hn (b2.bc hB).1
  have hB2 := become_bc (b2.bc hB) c3 c4
  obtain ⟨S3, e1, e2, e3, e4⟩ := leaveOut_eq hV hB2 hi
  have hDD : DD n (outQ Q i) := by
    intro a b ha hb e hle
    by_cases ca : a = i
    · subst ca
      have : outQ Q a 5 a = 99 := if_pos rfl
      omega
    · rw [outQ_ne ca] at e hle
      by_cases cb : b = i
      · subst cb
        have : outQ Q b 5 b = 99 := if_pos rfl
        omega
      · rw [outQ_ne cb] at e
        exact hDP.2 a b ha hb e
  obtain ⟨S4, f1, f2, f3⟩ := hear_eq (hV.outE) e3 e4 hDD hd
  have hp : ∀ m, m < 32 → (bt ((S1.1 32 0 0 ^^^ S4.1 32 0 0) ||| (S1.1 33 0 0 ^^^ S4.1 33 0 0)) m = true ↔ ¬ iso Q n n d m = iso Q n i d m) := by
    intro m hm
    rw [b_or, b_xor, b_xor]
    obtain ⟨s1, s2, s3⟩ := iso_bits hV b3 hm
    obtain ⟨t1, t2, t3⟩ := iso_bits hV.outE f3 hm
    rw [(out_eqB hi hd).e_iso hn] at t1 t2 t3
    rw [s1, s2, t1, t2]
    rcases s3 with q | q | q <;> rcases t3 with q' | q' | q' <;> rw [q, q'] <;> decide
  obtain ⟨M1, g1, g2⟩ := matter_loop hV hi hd (fun m => bt ((S1.1 32 0 0 ^^^ S4.1 32 0 0) ||| (S1.1 33 0 0 ^^^ S4.1 33 0 0)) m) hp 32 0 300 0 M (by omega) (by omega) hM h.2.2.2.2.2.2 rfl
  refine ⟨nI (cnt (fun m => bt ((S1.1 32 0 0 ^^^ S4.1 32 0 0) ||| (S1.1 33 0 0 ^^^ S4.1 33 0 0)) m) 32), S4, M1, ?_, g1, h.same (b2.same.tr (c2.same.tr (e2.same.tr f2.same))) g2.same⟩
  dsimp only
  rw [b1, obind, c1, obind, e1, obind, f1, obind, bitCount_eq, obind, bc_cnt]
