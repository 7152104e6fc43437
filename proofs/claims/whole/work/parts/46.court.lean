/-! by how many meanings a case is 1 -/
def ms (Q : Nat → Nat → Nat) (n lo d w f : Nat) : Bool := bt (fac Q n lo d w) f
def on6 (Q : Nat → Nat → Nat) (n lo d m f5 : Nat) : Nat → Nat
  | 0 => 0
  | j + 1 => on6 Q n lo d m f5 j + (if ms Q n lo d 5 f5 = true ∧ ms Q n lo d 6 j = true then gv Q n lo d f5 j m else 0)
def on5 (Q : Nat → Nat → Nat) (n lo d m : Nat) : Nat → Nat
  | 0 => 0
  | k + 1 => on5 Q n lo d m k + on6 Q n lo d m k 5
def wy6 (Q : Nat → Nat → Nat) (n lo d f5 : Nat) : Nat → Nat
  | 0 => 0
  | j + 1 => wy6 Q n lo d f5 j + (if ms Q n lo d 5 f5 = true ∧ ms Q n lo d 6 j = true then 1 else 0)
def wy5 (Q : Nat → Nat → Nat) (n lo d : Nat) : Nat → Nat
  | 0 => 0
  | k + 1 => wy5 Q n lo d k + wy6 Q n lo d k 5
def cn (Q : Nat → Nat → Nat) (n lo d m : Nat) : Nat := on5 Q n lo d m 5
def wy (Q : Nat → Nat → Nat) (n lo d : Nat) : Nat := wy5 Q n lo d 5
def iso (Q : Nat → Nat → Nat) (n lo d m : Nat) : Int32 := if cn Q n lo d m = 0 then 0 else if cn Q n lo d m = wy Q n lo d then 1 else -9
theorem wy6_le (Q : Nat → Nat → Nat) (n lo d f5 : Nat) : ∀ j, wy6 Q n lo d f5 j ≤ j := by
  intro j
  induction j with
  | zero => exact Nat.le_refl 0
  | succ j ih => rw [wy6]; split <;> omega
theorem on6_le {n lo : Nat} {Q : Nat → Nat → Nat} (hV : BkV n Q) (d m f5 : Nat) : ∀ j, on6 Q n lo d m f5 j ≤ wy6 Q n lo d f5 j := by
  intro j
  induction j with
  | zero => exact Nat.le_refl 0
  | succ j ih =>
    have := gv_le (lo := lo) hV d f5 j m
    rw [on6, wy6]
    split <;> omega
theorem wy5_le (Q : Nat → Nat → Nat) (n lo d : Nat) : ∀ k, wy5 Q n lo d k ≤ 5 * k := by
  intro k
  induction k with
  | zero => exact Nat.le_refl 0
  | succ k ih => have := wy6_le Q n lo d k 5; rw [wy5]; omega
theorem on5_le {n lo : Nat} {Q : Nat → Nat → Nat} (hV : BkV n Q) (d m : Nat) : ∀ k, on5 Q n lo d m k ≤ wy5 Q n lo d k := by
  intro k
  induction k with
  | zero => exact Nat.le_refl 0
  | succ k ih => have := on6_le (lo := lo) hV d m k 5; rw [on5, wy5]; omega
theorem wy6_no {Q : Nat → Nat → Nat} {n lo d f5 : Nat} (h : ms Q n lo d 5 f5 = false) : ∀ j, wy6 Q n lo d f5 j = 0 := by
  intro j
  induction j with
  | zero => rfl
  | succ j ih => rw [wy6, ih, if_neg (by rw [h]; exact fun q => by cases q.1)]
theorem on6_no {Q : Nat → Nat → Nat} {n lo d f5 m : Nat} (h : ms Q n lo d 5 f5 = false) : ∀ j, on6 Q n lo d m f5 j = 0 := by
  intro j
  induction j with
  | zero => rfl
  | succ j ih => rw [on6, ih, if_neg (by rw [h]; exact fun q => by cases q.1)]
/-- the reference changed its count of ways alone -/
def W22 (M M' : Stt) : Prop := (∀ F a i, ¬ (F = 0 ∧ a = 22 ∧ i = 0) → M'.1 F a i = M.1 F a i) ∧ M'.2 = M.2
theorem W22.rf (M : Stt) : W22 M M := ⟨fun _ _ _ _ => rfl, rfl⟩
theorem W22.tr {M M' M2 : Stt} (h : W22 M M') (h2 : W22 M' M2) : W22 M M2 := ⟨fun F a i q => (h2.1 F a i q).trans (h.1 F a i q), h2.2.trans h.2⟩
theorem W22.put (M : Stt) (x : Int32) : W22 M (put M 0 22 0 x) := ⟨fun F a i q => by rw [put_at, if_neg q], rfl⟩
theorem W22.bm {M M' : Stt} {n : Nat} {Q : Nat → Nat → Nat} (h : W22 M M') (hB : BM M n Q) : BM M' n Q := hB.frame (h.1 0 10 0 (by omega)) (fun F i q1 q2 => h.1 F 0 i (by omega))
theorem W22.lo {M M' : Stt} {n lo : Nat} (h : W22 M M') (hL : LoR M n lo) : LoR M' n lo := by
  unfold LoR at *
  rw [h.1 0 20 0 (by omega)]
  exact hL
theorem W22.same {M M' : Stt} (h : W22 M M') : SameM M M' := ⟨fun F a i q => h.1 F a i (by omega), by rw [h.2], by rw [h.2]⟩
theorem ones_in {n lo : Nat} {Q : Nat → Nat → Nat} (hV : BkV n Q) {d m f5 : Nat} (hm : m < 32) (h5 : f5 < 5) (C0 W0 : Nat) (ke : Int32 → Int32 → Int32 → Int32 → Int32 → Int32 → Stt → Option (Int32 × Stt)) : ∀ (k j fuel : Nat) (M : Stt), j + k = 5 → k < fuel → BM M n Q → M.1 0 22 0 = nI (W0 + wy6 Q n lo d f5 j) → ∃ M', fl_X8_onesOf_20 ke fuel (nI m) (bits (bnd Q n lo d) n) (fac Q n lo d 5) (fac Q n lo d 6) (nI (C0 + on6 Q n lo d m f5 j)) (nI f5) (nI j) M = ke (nI m) (bits (bnd Q n lo d) n) (fac Q n lo d 5) (fac Q n lo d 6) (nI (C0 + on6 Q n lo d m f5 5)) (nI f5) M' ∧ W22 M M' ∧ M'.1 0 22 0 = nI (W0 + wy6 Q n lo d f5 5) := by
  intro k
  induction k with
  | zero =>
    intro j fuel M h1 h2 hB hW
    obtain ⟨g, rfl⟩ : ∃ g, fuel = g + 1 := ⟨fuel - 1, by omega⟩
    have hj : j = 5 := by omega
    subst hj
    refine ⟨M, ?_, W22.rf M, hW⟩
    rw [fls_X8_onesOf_20]
    unfold fb_X8_onesOf_20
    rw [n9 5, if_pos (nI_le (Nat.le_refl _) (by omega))]
  | succ k ih =>
    intro j fuel M h1 h2 hB hW
    obtain ⟨g, rfl⟩ : ∃ g, fuel = g + 1 := ⟨fuel - 1, by omega⟩
    rw [fls_X8_onesOf_20]
    unfold fb_X8_onesOf_20
    rw [n9 5, nI_ifle (by omega) (by omega), if_neg (by omega), has_eq _ (by omega), obind, if_b2i, nI_1]
    have no : ¬ (ms Q n lo d 5 f5 = true ∧ ms Q n lo d 6 j = true) → ∃ M', fl_X8_onesOf_20 ke g (nI m) (bits (bnd Q n lo d) n) (fac Q n lo d 5) (fac Q n lo d 6) (nI (C0 + on6 Q n lo d m f5 j)) (nI f5) (nI (j + 1)) M = ke (nI m) (bits (bnd Q n lo d) n) (fac Q n lo d 5) (fac Q n lo d 6) (nI (C0 + on6 Q n lo d m f5 5)) (nI f5) M' ∧ W22 M M' ∧ M'.1 0 22 0 = nI (W0 + wy6 Q n lo d f5 5) := by
      intro c
      have e1 : on6 Q n lo d m f5 (j + 1) = on6 Q n lo d m f5 j := by rw [on6, if_neg c]; rfl
      have e2 : wy6 Q n lo d f5 (j + 1) = wy6 Q n lo d f5 j := by rw [wy6, if_neg c]; rfl
      have := ih (j + 1) g M (by omega) (by omega) hB (by rw [e2]; exact hW)
      rw [e1] at this
      exact this
    by_cases c1 : bt (fac Q n lo d 5) f5 = true
    · rw [if_pos c1]
      show ∃ M', Option.bind (f_X8_has (fac Q n lo d 6) (nI j) M) _ = _ ∧ _
      rw [has_eq _ (by omega), obind, if_b2i]
      by_cases c2 : bt (fac Q n lo d 6) j = true
      · rw [if_pos c2]
        have c : ms Q n lo d 5 f5 = true ∧ ms Q n lo d 6 j = true := ⟨c1, c2⟩
        show ∃ M', Option.bind (f_X8_givenBy (nI m) (nI f5) (nI j) (bits (bnd Q n lo d) n) (put M 0 22 0 (M.1 0 22 0 + 1))) _ = _ ∧ _
        rw [givenBy_eq hV ((W22.put M _).bm hB) hm h5 (by omega), obind, hW, n9 1, nI_add, nI_add]
        show ∃ M', fl_X8_onesOf_20 ke g (nI m) _ _ _ (nI (C0 + on6 Q n lo d m f5 j + gv Q n lo d f5 j m)) (nI f5) (nI (j + 1)) (put M 0 22 0 (nI (W0 + wy6 Q n lo d f5 j + 1))) = _ ∧ _
        have e1 : on6 Q n lo d m f5 (j + 1) = on6 Q n lo d m f5 j + gv Q n lo d f5 j m := by rw [on6, if_pos c]
        have e2 : wy6 Q n lo d f5 (j + 1) = wy6 Q n lo d f5 j + 1 := by rw [wy6, if_pos c]
        obtain ⟨M', a1, a2, a3⟩ := ih (j + 1) g (put M 0 22 0 (nI (W0 + wy6 Q n lo d f5 j + 1))) (by omega) (by omega) ((W22.put M _).bm hB) (by rw [put_at, if_pos ⟨rfl, rfl, rfl⟩, e2, Nat.add_assoc])
        rw [e1, ← Nat.add_assoc] at a1
        exact ⟨M', a1, (W22.put M _).tr a2, a3⟩
      · rw [if_neg c2]
        exact no (fun q => c2 q.2)
    · rw [if_neg c1]
      exact no (fun q => c1 q.1)
theorem ones_out {n lo : Nat} {Q : Nat → Nat → Nat} (hV : BkV n Q) {d m : Nat} (hm : m < 32) : ∀ (k i fuel : Nat) (M : Stt), i + k = 5 → k < fuel → BM M n Q → M.1 0 22 0 = nI (wy5 Q n lo d i) → ∃ M', fl_X8_onesOf_11 (fun x5 S => some (x5, S)) fuel (nI m) (bits (bnd Q n lo d) n) (fac Q n lo d 5) (fac Q n lo d 6) (nI (on5 Q n lo d m i)) (nI i) M = some (nI (cn Q n lo d m), M') ∧ W22 M M' ∧ M'.1 0 22 0 = nI (wy Q n lo d) := by
  intro k
  induction k with
  | zero =>
    intro i fuel M h1 h2 hB hW
    obtain ⟨g, rfl⟩ : ∃ g, fuel = g + 1 := ⟨fuel - 1, by omega⟩
    have hj : i = 5 := by omega
    subst hj
    refine ⟨M, ?_, W22.rf M, hW⟩
    rw [fls_X8_onesOf_11]
    unfold fb_X8_onesOf_11
    rw [n9 5, if_pos (nI_le (Nat.le_refl _) (by omega))]
    rfl
  | succ k ih =>
    intro i fuel M h1 h2 hB hW
    obtain ⟨g, rfl⟩ : ∃ g, fuel = g + 1 := ⟨fuel - 1, by omega⟩
    rw [fls_X8_onesOf_11]
    unfold fb_X8_onesOf_11
    rw [n9 5, nI_ifle (by omega) (by omega), if_neg (by omega)]
    obtain ⟨M1, a1, a2, a3⟩ := ones_in (lo := lo) hV (d := d) hm (show i < 5 by omega) (on5 Q n lo d m i) (wy5 Q n lo d i) (fun x1 x2 x3 x4 x5 x6 S => (fl_X8_onesOf_11 (fun x5 S => some (x5, S)) g) x1 x2 x3 x4 x5 (x6 + (1 : Int32)) S) 5 0 300 M (by omega) (by omega) hB hW
    obtain ⟨M2, b1, b2, b3⟩ := ih (i + 1) g M1 (by omega) (by omega) (a2.bm hB) a3
    refine ⟨M2, ?_, a2.tr b2, b3⟩
    refine Eq.trans a1 ?_
    show fl_X8_onesOf_11 _ g _ _ _ _ _ (nI i + 1) M1 = _
    rw [nI_1]
    exact b1
theorem onesOf_eq {M : Stt} {n lo : Nat} {Q : Nat → Nat → Nat} (hV : BkV n Q) (hB : BM M n Q) {d m : Nat} (hm : m < 32) : ∃ M', f_X8_onesOf (nI m) (bits (bnd Q n lo d) n) (fac Q n lo d 5) (fac Q n lo d 6) M = some (nI (cn Q n lo d m), M') ∧ W22 M M' ∧ M'.1 0 22 0 = nI (wy Q n lo d) := by
  obtain ⟨M', a1, a2, a3⟩ := ones_out (lo := lo) hV (d := d) hm 5 0 300 (put M 0 22 0 0) (by omega) (by omega) ((W22.put M _).bm hB) (by rw [put_at, if_pos ⟨rfl, rfl, rfl⟩]; rfl)
  exact ⟨M', a1, (W22.put M _).tr a2, a3⟩
theorem isOn_eq {M : Stt} {n lo : Nat} {Q : Nat → Nat → Nat} (hV : BkV n Q) (hB : BM M n Q) (hL : LoR M n lo) {d m : Nat} (hd : d ≤ 20) (hm : m < 32) : ∃ M', f_X8_isOn (nI m) (nI d) M = some (iso Q n lo d m, M') ∧ W22 M M' := by
  obtain ⟨M', a1, a2, a3⟩ := onesOf_eq (lo := lo) hV hB (d := d) hm
  refine ⟨M', ?_, a2⟩
  have b1 := wy5_le Q n lo d 5
  have b2 := on5_le (lo := lo) hV d m 5
  unfold f_X8_isOn
  rw [bindSet_eq hV hB hL (by omega), obind, n9 5, meanOf_eq hV hB hL hd (by omega), obind, n9 6, meanOf_eq hV hB hL hd (by omega), obind, a1, obind]
  show (if nI (cn Q n lo d m) = nI 0 then _ else (if nI (cn Q n lo d m) = M'.1 0 22 0 then _ else _)) = _
  unfold cn wy at *
  rw [a3, nI_if (by omega) (by omega), nI_if (by omega) (by omega)]
  unfold iso cn wy
  by_cases c1 : on5 Q n lo d m 5 = 0
  · rw [if_pos c1, if_pos c1]
  · rw [if_neg c1, if_neg c1]
    by_cases c2 : on5 Q n lo d m 5 = wy5 Q n lo d 5
    · rw [if_pos c2, if_pos c2]
    · rw [if_neg c2, if_neg c2]
/-! the class: the court -/
def tc (S : Stt) (m : Nat) : Nat → Nat
  | 0 => 0
  | k + 1 => tc S m k + (if bt (S.1 30 0 k) m = true then 1 else 0)
theorem tc_congr {S S' : Stt} {m : Nat} : ∀ k, (∀ j, j < k → S'.1 30 0 j = S.1 30 0 j) → tc S' m k = tc S m k := by
  intro k
  induction k with
  | zero => intro _; rfl
  | succ k ih => intro h; rw [tc, tc, ih (fun j hj => h j (by omega)), h k (by omega)]
/-- the court has heard w meanings, by g m of which case m is 1 -/
def CI (S : Stt) (w : Nat) (g : Nat → Nat) : Prop := S.1 31 0 0 = nI w ∧ ∀ m, m < 32 → tc S m w = g m ∧ g m ≤ w ∧ bt (S.1 32 0 0) m = decide (g m = w) ∧ bt (S.1 33 0 0) m = decide (0 < g m)
/-- nothing but the court's own hearing has changed -/
def K30 (S S' : Stt) : Prop := (∀ F a i, ¬ (30 ≤ F ∧ F ≤ 33) → S'.1 F a i = S.1 F a i) ∧ S'.2 = S.2
theorem K30.rf (S : Stt) : K30 S S := ⟨fun _ _ _ _ => rfl, rfl⟩
theorem K30.tr {S S' S2 : Stt} (h : K30 S S') (h2 : K30 S' S2) : K30 S S2 := ⟨fun F a i q => (h2.1 F a i q).trans (h.1 F a i q), h2.2.trans h.2⟩
theorem K30.same {S S' : Stt} (h : K30 S S') : Same S S' := ⟨fun F a i q => h.1 F a i (by omega), h.2⟩
theorem K30.bc {S S' : Stt} {b n : Nat} {Q : Nat → Nat → Nat} (h : K30 S S') (hB : BC S b n Q) : BC S' b n Q := hB.frame (fun F i q1 q2 => h.1 F b i (by omega))
theorem K30.rk {S S' : Stt} {b n : Nat} {Q : Nat → Nat → Nat} (h : K30 S S') (hB : RkC S b n Q) : RkC S' b n Q := hB.frame (fun F i q1 q2 => h.1 F b i (by omega))
theorem note_eq {S : Stt} {w : Nat} {g g1 : Nat → Nat} (hC : CI S w g) (hw : w < 25) {x : Int32} (hx : ∀ m, m < 32 → g1 m ≤ 1 ∧ bt x m = decide (g1 m = 1)) : ∃ S', f_X1_note x S = some S' ∧ K30 S S' ∧ CI S' (w + 1) (fun m => g m + g1 m) := by
  unfold f_X1_note
  rw [hC.1, n9 25, nI_iflt (by omega) (by omega), if_pos hw, ixb_nI hw (by omega), grd_t, cl_nI (by omega), nI_1]
  refine ⟨_, rfl, ⟨fun F a i q => ?_, rfl⟩, ?_, fun m hm => ?_⟩
  · rw [put_at, if_neg (by omega), put_at, if_neg (by omega), put_at, if_neg (by omega), put_at, if_neg (by omega)]
  · simp [put_at]
  · obtain ⟨c1, c2, c3, c4⟩ := hC.2 m hm
    obtain ⟨x1, x2⟩ := hx m hm
    refine ⟨?_, by show g m + g1 m ≤ w + 1; omega, ?_, ?_⟩
    · rw [tc, tc_congr (S := S) w (fun j hj => by simp [put_at, show ¬ j = w by omega]), c1]
      congr 1
      simp only [put_at]
      simp [x2]
      split <;> omega
    · simp only [put_at]
      simp [b_and, c3, x2]
      by_cases e : g m = w <;> by_cases e2 : g1 m = 1 <;> simp [e, e2] <;> omega
    · simp only [put_at]
      simp [b_or, c4, x2]
      by_cases e : 0 < g m <;> by_cases e2 : g1 m = 1 <;> simp [e, e2] <;> omega
theorem CI.ext {S : Stt} {w w' : Nat} {g g' : Nat → Nat} (h : CI S w g) (hw : w = w') (hg : ∀ m, m < 32 → g m = g' m) : CI S w' g' := by
  subst hw
  refine ⟨h.1, fun m hm => ?_⟩
  rw [← hg m hm]
  exact h.2 m hm
theorem hear_in {b n : Nat} {Q : Nat → Nat → Nat} (hV : BkV n Q) {d f5 : Nat} (h5 : f5 < 5) (hf : ms Q n n d 5 f5 = true) (G0 : Nat → Nat) (W0 : Nat) (hW0 : W0 ≤ 20) (ke : Nat → Int32 → Int32 → Int32 → Int32 → Stt → Option Stt) : ∀ (k j fuel : Nat) (S : Stt), j + k = 5 → k < fuel → BC S b n Q → RkC S b n Q → CI S (W0 + wy6 Q n n d f5 j) (fun m => G0 m + on6 Q n n d m f5 j) → ∃ S', fl_X1_hear_63 ke fuel b (bits (bnd Q n n d) n) (fac Q n n d 5) (fac Q n n d 6) (nI f5) (nI j) S = ke b (bits (bnd Q n n d) n) (fac Q n n d 5) (fac Q n n d 6) (nI f5) S' ∧ K30 S S' ∧ CI S' (W0 + wy6 Q n n d f5 5) (fun m => G0 m + on6 Q n n d m f5 5) := by
  intro k
  induction k with
  | zero =>
    intro j fuel S h1 h2 hB hR hC
    obtain ⟨g, rfl⟩ : ∃ g, fuel = g + 1 := ⟨fuel - 1, by omega⟩
    have hj : j = 5 := by omega
    subst hj
    refine ⟨S, ?_, K30.rf S, hC⟩
    rw [fls_X1_hear_63]
    unfold fb_X1_hear_63
    rw [n9 5, if_pos (nI_le (Nat.le_refl _) (by omega))]
  | succ k ih =>
    intro j fuel S h1 h2 hB hR hC
    obtain ⟨g, rfl⟩ : ∃ g, fuel = g + 1 := ⟨fuel - 1, by omega⟩
    rw [fls_X1_hear_63]
    unfold fb_X1_hear_63
    rw [n9 5, nI_ifle (by omega) (by omega), if_neg (by omega), hasBit_eq _ (by omega), obind, if_b2i, nI_1]
    have w6 := wy6_le Q n n d f5 j
    by_cases c2 : bt (fac Q n n d 6) j = true
    · rw [if_pos c2]
      have c : ms Q n n d 5 f5 = true ∧ ms Q n n d 6 j = true := ⟨hf, c2⟩
      obtain ⟨x, ex, hx⟩ := casesOne_eq hV hB hR (d := d) h5 (show j < 5 by omega)
      show ∃ S', Option.bind (f_X0_casesOne b (bits (bnd Q n n d) n) (nI f5) (nI j) S) _ = _ ∧ _
      rw [ex, obind]
      obtain ⟨S1, e1, k1, C1⟩ := note_eq hC (by omega) (g1 := fun m => gv Q n n d f5 j m) (fun m hm => ⟨gv_le hV d f5 j m, hx m hm⟩)
      show ∃ S', Option.bind (f_X1_note x S) _ = _ ∧ _
      rw [e1, obind]
      have C2 : CI S1 (W0 + wy6 Q n n d f5 (j + 1)) (fun m => G0 m + on6 Q n n d m f5 (j + 1)) := C1.ext (by rw [wy6, if_pos c, Nat.add_assoc]) (fun m hm => by rw [on6, if_pos c, Nat.add_assoc])
      obtain ⟨S', a1, a2, a3⟩ := ih (j + 1) g S1 (by omega) (by omega) (k1.bc hB) (k1.rk hR) C2
      exact ⟨S', a1, k1.tr a2, a3⟩
    · rw [if_neg c2]
      have c : ¬ (ms Q n n d 5 f5 = true ∧ ms Q n n d 6 j = true) := fun q => c2 q.2
      exact ih (j + 1) g S (by omega) (by omega) hB hR (hC.ext (by rw [wy6, if_neg c]; rfl) (fun m hm => by rw [on6, if_neg c]; rfl))
theorem hear_out {b n : Nat} {Q : Nat → Nat → Nat} (hV : BkV n Q) {d : Nat} : ∀ (k i fuel : Nat) (S : Stt), i + k = 5 → k < fuel → BC S b n Q → RkC S b n Q → CI S (wy5 Q n n d i) (fun m => on5 Q n n d m i) → ∃ S', fl_X1_hear_41 (fun S => some S) fuel b (bits (bnd Q n n d) n) (fac Q n n d 5) (fac Q n n d 6) (nI i) S = some S' ∧ K30 S S' ∧ CI S' (wy Q n n d) (fun m => cn Q n n d m) := by
  intro k
  induction k with
  | zero =>
    intro i fuel S h1 h2 hB hR hC
    obtain ⟨g, rfl⟩ : ∃ g, fuel = g + 1 := ⟨fuel - 1, by omega⟩
    have hj : i = 5 := by omega
    subst hj
    refine ⟨S, ?_, K30.rf S, hC⟩
    rw [fls_X1_hear_41]
    unfold fb_X1_hear_41
    rw [n9 5, if_pos (nI_le (Nat.le_refl _) (by omega))]
  | succ k ih =>
    intro i fuel S h1 h2 hB hR hC
    obtain ⟨g, rfl⟩ : ∃ g, fuel = g + 1 := ⟨fuel - 1, by omega⟩
    rw [fls_X1_hear_41]
    unfold fb_X1_hear_41
    rw [n9 5, nI_ifle (by omega) (by omega), if_neg (by omega), hasBit_eq _ (by omega), obind, if_b2i]
    have w5 := wy5_le Q n n d i
    by_cases c1 : bt (fac Q n n d 5) i = true
    · rw [if_pos c1]
      obtain ⟨S1, a1, a2, a3⟩ := hear_in (b := b) hV (d := d) (show i < 5 by omega) c1 (fun m => on5 Q n n d m i) (wy5 Q n n d i) (by omega) (fun b1 x3 x4 x5 x6 S => (fl_X1_hear_41 (fun S => some S) g) b1 x3 x4 x5 (x6 + (1 : Int32)) S) 5 0 300 S (by omega) (by omega) hB hR hC
      obtain ⟨S2, b1, b2, b3⟩ := ih (i + 1) g S1 (by omega) (by omega) (a2.bc hB) (a2.rk hR) a3
      refine ⟨S2, ?_, a2.tr b2, b3⟩
      refine Eq.trans a1 ?_
      show fl_X1_hear_41 _ g _ _ _ _ (nI i + 1) S1 = _
      rw [nI_1]
      exact b1
    · rw [if_neg c1, nI_1]
      have c1' : ms Q n n d 5 i = false := by
        have : ms Q n n d 5 i = bt (fac Q n n d 5) i := rfl
        cases h : ms Q n n d 5 i <;> simp_all
      exact ih (i + 1) g S (by omega) (by omega) hB hR (hC.ext (by rw [wy5, wy6_no c1']; rfl) (fun m hm => by rw [on5, on6_no c1']; rfl))
theorem hear_eq {S : Stt} {b n : Nat} {Q : Nat → Nat → Nat} (hV : BkV n Q) (hB : BC S b n Q) (hR : RkC S b n Q) (hD : DD n Q) {d : Nat} (hd : d ≤ 20) : ∃ S', f_X1_hear b (nI d) S = some S' ∧ K30 S S' ∧ CI S' (wy Q n n d) (fun m => cn Q n n d m) := by
  have k1 : K30 S (put (put (put S 31 0 0 0) 32 0 0 (-1)) 33 0 0 0) := ⟨fun F a i q => by rw [put_at, if_neg (by omega), put_at, if_neg (by omega), put_at, if_neg (by omega)], rfl⟩
  obtain ⟨S', a1, a2, a3⟩ := hear_out (b := b) hV (d := d) 5 0 300 (put (put (put S 31 0 0 0) 32 0 0 (-1)) 33 0 0 0) (by omega) (by omega) (k1.bc hB) (k1.rk hR) ⟨by simp [put_at]; rfl, fun m hm => ⟨rfl, Nat.le_refl _, by simp [put_at, b_m1 m hm]; rfl, by simp [put_at, b_0]; rfl⟩⟩
  refine ⟨S', ?_, k1.tr a2, a3⟩
  unfold f_X1_hear
  rw [bound_eq hV hB (by omega), obind, n9 5, factsFor_eq hV hB hD hd (by omega), obind, n9 6, factsFor_eq hV hB hD hd (by omega), obind]
  exact a1
