/-! best: the order of reading by which the fewest wait -/
theorem bnd_open {Q : Nat → Nat → Nat} {n lo d j : Nat} (h : bnd Q n lo d j = true) (h5 : Q 0 j ≠ 5) : Q 5 j ≤ d := by
  unfold bnd at h
  rw [hs_iff] at h
  obtain ⟨m, h1, h2, h3⟩ := h
  have ho : opn Q n lo d j := by
    cases m with
    | zero => exact h3.1
    | succ m => exact (h2 0 (by omega)).1
  have := ho.2.1
  omega
/-- days that are the same up to day d -/
theorem day_eqB {Q : Nat → Nat → Nat} {n d : Nat} {D R : Nat → Nat} (h : ∀ j, j < n → R j ≤ d ∨ D j ≤ d → R j = D j) : EqB (setD Q D) (setD Q R) n n n d := by
  have key : ∀ k j, hsF (setD Q R) n n k j d = hsF (setD Q D) n n k j d := by
    intro k
    induction k with
    | zero => intro j; rfl
    | succ k ih =>
      intro j
      rw [hsF, hsF]
      by_cases c : n ≤ j
      · rw [if_pos (Or.inl c), if_pos (Or.inl c)]
      · have hj := h j (by omega)
        have e0 : setD Q R 0 j = Q 0 j := rfl
        have e0' : setD Q D 0 j = Q 0 j := rfl
        have e1 : setD Q R 1 j = Q 1 j := rfl
        have e1' : setD Q D 1 j = Q 1 j := rfl
        have e5 : setD Q R 5 j = R j := rfl
        have e5' : setD Q D 5 j = D j := rfl
        rw [if_neg (show ¬ (n ≤ j ∨ j = n) by omega), if_neg (show ¬ (n ≤ j ∨ j = n) by omega), e0, e0', e1, e1', e5, e5', ih]
        by_cases c1 : Q 0 j ≠ 5 ∧ d < D j
        · rw [if_pos c1, if_pos (show Q 0 j ≠ 5 ∧ d < R j by omega)]
        · rw [if_neg c1, if_neg (show ¬ (Q 0 j ≠ 5 ∧ d < R j) by omega)]
          by_cases c2 : Q 0 j = 4 ∧ D j + 2 < d
          · rw [if_pos c2, if_pos (show Q 0 j = 4 ∧ R j + 2 < d by omega)]
          · rw [if_neg c2, if_neg (show ¬ (Q 0 j = 4 ∧ R j + 2 < d) by omega)]
  refine ⟨fun j hj => key n j, fun j hj hb => ⟨rfl, rfl, rfl, fun h3 => ⟨rfl, ?_⟩⟩⟩
  have := bnd_open hb (show setD Q D 0 j ≠ 5 by omega)
  exact h j hj (Or.inr this)
theorem aw_congr {Q : Nat → Nat → Nat} {n : Nat} (hn : n ≤ 6) {D R : Nat → Nat} : ∀ k, (∀ d, d < k → ∀ j, j < n → R j ≤ d ∨ D j ≤ d → R j = D j) → aw (setD Q R) n n k = aw (setD Q D) n n k := by
  intro k
  induction k with
  | zero => intro _; rfl
  | succ k ih =>
    intro h
    rw [aw, aw, ih (fun d hd => h d (by omega)), (day_eqB (h k (by omega))).e_wc hn]
def updD (D : Nat → Nat) (i k : Nat) : Nat → Nat := fun j => if j = i then k else D j
theorem updD_i (D : Nat → Nat) (i k : Nat) : updD D i k i = k := if_pos rfl
theorem updD_ne {D : Nat → Nat} {i k j : Nat} (h : j ≠ i) : updD D i k j = D j := if_neg h
/-- the first k days are given to pages; 99: not read yet -/
def DK (D : Nat → Nat) (n k : Nat) : Prop := (∀ i, i < n → D i < k ∨ D i = 99) ∧ (∀ i j, i < n → j < n → D i = D j → D i ≠ 99 → i = j) ∧ ∀ y, y < k → ∃ i, i < n ∧ D i = y
theorem DK.upd {D : Nat → Nat} {n k i : Nat} (h : DK D n k) (hi : i < n) (h9 : D i = 99) (hk : k < 99) : DK (updD D i k) n (k + 1) := by
  obtain ⟨h1, h2, h3⟩ := h
  refine ⟨fun j hj => ?_, fun a b ha hb e e9 => ?_, fun y hy => ?_⟩
  · by_cases c : j = i
    · rw [c, updD_i]; omega
    · rw [updD_ne c]
      have := h1 j hj
      omega
  · by_cases ca : a = i
    · subst ca
      by_cases cb : b = a
      · exact cb.symm
      · rw [updD_i, updD_ne cb] at e
        have := h1 b hb
        omega
    · by_cases cb : b = i
      · subst cb
        rw [updD_i, updD_ne ca] at e
        have := h1 a ha
        omega
      · rw [updD_ne ca] at e e9
        rw [updD_ne cb] at e
        exact h2 a b ha hb e e9
  · by_cases cy : y = k
    · exact ⟨i, hi, by rw [updD_i, cy]⟩
    · obtain ⟨j, hj, e⟩ := h3 y (by omega)
      have c : j ≠ i := by
        intro q
        rw [q, h9] at e
        omega
      exact ⟨j, hj, by rw [updD_ne c]; exact e⟩
theorem DK.all {D : Nat → Nat} {n : Nat} (h : DK D n n) (hn : n ≤ 6) {i : Nat} (hi : i < n) : D i < n := by
  have ht : ∃ τ : Nat → Nat, ∀ y, y < n → τ y < n ∧ D (τ y) = y := by
    refine ⟨fun y => if hy : y < n then Classical.choose (h.2.2 y hy) else 0, fun y hy => ?_⟩
    dsimp only
    rw [dif_pos hy]
    exact Classical.choose_spec (h.2.2 y hy)
  obtain ⟨τ, ht⟩ := ht
  obtain ⟨y, hy, e⟩ := fb_onto (f := τ) (fun y hy => (ht y hy).1) (fun a b hab hb e => by
    have e1 := (ht a (by omega)).2
    rw [e, (ht b hb).2] at e1
    omega) hi
  rw [← e, (ht y hy).2]
  exact hy
theorem DK.free {D : Nat → Nat} {n k : Nat} (h : DK D n k) (hk : k < n) : ∃ j, j < n ∧ D j = 99 := by
  refine Classical.byContradiction fun hx => ?_
  have hne : ∀ j, j < n → D j ≠ 99 := fun j hj e => hx ⟨j, hj, e⟩
  have := fb_holes k n D (fun j hj => by
    have := h.1 j hj
    have := hne j hj
    omega) (fun i j hij hj e => by
    have := h.2.1 i j (by omega) hj e (hne i (by omega))
    omega)
  omega
theorem DK.dd {D : Nat → Nat} {n k : Nat} {Q : Nat → Nat → Nat} (h : DK D n k) : DD n (setD Q D) := fun i j hi hj e hle => by
  rw [setD5, setD5] at e
  rw [setD5] at hle
  exact h.2.1 i j hi hj e (by omega)
def WB (n : Nat) (M M' : Stt) : Prop := (∀ F a i, ¬ (F = 0 ∧ (a = 22 ∨ a = 28) ∧ i = 0) → ¬ (F = 12 ∧ a = 0 ∧ i < n) → ¬ F = 16 → ¬ F = 18 → M'.1 F a i = M.1 F a i) ∧ M'.2 = M.2
theorem WB.rf (n : Nat) (M : Stt) : WB n M M := ⟨fun _ _ _ _ _ _ _ => rfl, rfl⟩
theorem WB.tr {n : Nat} {M M' M2 : Stt} (h : WB n M M') (h2 : WB n M' M2) : WB n M M2 := ⟨fun F a i q1 q2 q3 q4 => (h2.1 F a i q1 q2 q3 q4).trans (h.1 F a i q1 q2 q3 q4), h2.2.trans h.2⟩
theorem W22.wb {M M' : Stt} (n : Nat) (h : W22 M M') : WB n M M' := ⟨fun F a i q1 _ _ _ => h.1 F a i (by omega), h.2⟩
theorem WB.p16 (n : Nat) (M : Stt) (i : Nat) (x : Int32) : WB n M (put M 16 0 i x) := ⟨fun F a j _ _ q3 _ => by rw [put_at, if_neg (fun z => q3 z.1)], rfl⟩
theorem WB.p12 {n : Nat} (M : Stt) {i : Nat} (hi : i < n) (x : Int32) : WB n M (put M 12 0 i x) := ⟨fun F a j _ q2 _ _ => by rw [put_at, if_neg (by omega)], rfl⟩
theorem WB.p28 (n : Nat) (M : Stt) (x : Int32) : WB n M (put M 0 28 0 x) := ⟨fun F a j q1 _ _ _ => by rw [put_at, if_neg (by omega)], rfl⟩
/-- the reference's days: as D where D tells one -/
def RM (M : Stt) (n : Nat) (Q : Nat → Nat → Nat) (D : Nat → Nat) : Prop := LoR M n n ∧ ∃ R : Nat → Nat, (∀ i, i < n → R i ≤ 99 ∧ (D i ≠ 99 → R i = D i)) ∧ BM M n (setD Q R)
theorem RM.keep {M M' : Stt} {n : Nat} {Q : Nat → Nat → Nat} {D : Nat → Nat} (h : RM M n Q D) (w : WB n M M') (h12 : ∀ i, i < n → M'.1 12 0 i = M.1 12 0 i) : RM M' n Q D := by
  obtain ⟨h1, R, h2, h3⟩ := h
  refine ⟨?_, R, h2, ?_⟩
  · unfold LoR at *
    rw [w.1 0 20 0 (by omega) (by omega) (by omega) (by omega)]
    exact h1
  · refine ⟨by rw [w.1 0 10 0 (by omega) (by omega) (by omega) (by omega)]; exact h3.1, fun i hi => (h3.2 i hi).frame (fun F q1 q2 => ?_)⟩
    by_cases c : F = 12
    · subst c; exact h12 i hi
    · exact w.1 F 0 i (by omega) (by omega) (by omega) (by omega)
theorem RM.upd {M : Stt} {n i k : Nat} {Q : Nat → Nat → Nat} {D : Nat → Nat} (h : RM M n Q D) (hi : i < n) (hk : k ≤ 99) : RM (put M 12 0 i (nI k)) n Q (updD D i k) := by
  obtain ⟨h1, R, h2, h3⟩ := h
  refine ⟨?_, updD R i k, fun j hj => ?_, ?_⟩
  · unfold LoR at *
    rw [put_at, if_neg (by omega)]
    exact h1
  · by_cases c : j = i
    · rw [c, updD_i, updD_i]
      exact ⟨hk, fun _ => rfl⟩
    · rw [updD_ne c, updD_ne c]
      exact h2 j hj
  · have := h3.setD (M' := put M 12 0 i (nI k)) (f := updD R i k) (fun j hj => by
      rw [put_at]
      by_cases c : j = i
      · rw [if_pos ⟨rfl, rfl, c⟩, c, updD_i]
      · rw [if_neg (fun q => c q.2.2), updD_ne c]
        exact (h3.2 j hj).2.2.2.2.2) (by rw [put_at, if_neg (by omega)]) (fun F j q1 q2 => by rw [put_at, if_neg (by omega)])
    rw [setD_setD] at this
    exact this
theorem RM.down {M : Stt} {n i k : Nat} {Q : Nat → Nat → Nat} {D : Nat → Nat} (h : RM M n Q (updD D i k)) (h9 : D i = 99) : RM M n Q D := by
  obtain ⟨h1, R, h2, h3⟩ := h
  refine ⟨h1, R, fun j hj => ⟨(h2 j hj).1, fun q => ?_⟩, h3⟩
  have c : j ≠ i := fun z => q (by rw [z]; exact h9)
  have := (h2 j hj).2
  rw [updD_ne c] at this
  exact this q
section
variable {n : Nat} {Q : Nat → Nat → Nat}
theorem awB (D : Nat → Nat) (k : Nat) (hk : k ≤ 6) : aw (setD Q D) n n k ≤ 192 := by
  have := aw_le (setD Q D) n n k
  omega
theorem aw_upd (hn : n ≤ 6) {D : Nat → Nat} {i k : Nat} (hk : k ≤ 6) (h9 : D i = 99) : aw (setD Q (updD D i k)) n n k = aw (setD Q D) n n k := by
  refine aw_congr hn k (fun d hd j hj hor => ?_)
  by_cases c : j = i
  · rw [c, updD_i, h9] at hor
    omega
  · rw [updD_ne c]
theorem leaf_aw (hn : n ≤ 6) {D : Nat → Nat} (hD : DK D n n) {M : Stt} (hV : BkV n Q) (hR : RM M n Q D) : ∃ M1, f_X8_allWaits M = some (nI (aw (setD Q D) n n n), M1) ∧ W22 M M1 := by
  obtain ⟨h1, R, h2, h3⟩ := hR
  obtain ⟨M1, a1, a2⟩ := allWaits_eq (hV.setD (f := R) (fun i hi => (h2 i hi).1)) h3 h1
  refine ⟨M1, ?_, a2⟩
  rw [a1, aw_congr (D := D) hn n (fun d hd j hj _ => (h2 j hj).2 (by have := hD.all hn hj; omega))]
theorem rstep {M : Stt} (fr : Int32 → Int32 → Stt → Option Stt) (kb : Int32 → Int32 → Int32 → Stt → Option Stt) (ke : Stt → Option Stt) {k i : Nat} (hc : M.1 0 10 0 = nI n) (hk : k < 6) (hn : n ≤ 6) (hi : i < n) (x2 : Int32) : fb_X8_readOn_61 fr kb ke (nI k) x2 (nI i) M = if bt x2 i = true then ((fr (nI (k + 1)) (x2 &&& (((1 : Int32) <<< (nI i &&& 31)) ^^^ (-1 : Int32))) (put (put M 16 0 k (nI i)) 12 0 i (nI k))).bind fun q8 => kb (nI k) x2 (nI (i + 1)) q8) else kb (nI k) x2 (nI (i + 1)) M := by
  unfold fb_X8_readOn_61
  rw [hc, if_neg (nI_ge hi (by omega)), has_eq _ (by omega), obind, if_b2i, ixb_nI hk (by omega), grd_t, ixb_nI (show i < 6 by omega) (by omega), grd_t, cl_nI (show k < 2 ^ 31 by omega), cl_nI (show i < 2 ^ 31 by omega), nI_1 k, nI_1 i]
/-- a beginning that is no better than the best changes nothing that counts -/
theorem rnu (hV : BkV n Q) : ∀ (e k dep : Nat) (M : Stt) (x2 : Int32) (D : Nat → Nat), k + e = n → e < dep → DK D n k → RM M n Q D → (∀ i, i < n → bt x2 i = decide (D i = 99)) → M.1 0 28 0 ≤ nI (aw (setD Q D) n n k) → ∃ M', f_X8_readOn dep (nI k) x2 M = some M' ∧ WB n M M' ∧ M'.1 0 28 0 = M.1 0 28 0 ∧ (∀ j, M'.1 18 0 j = M.1 18 0 j) ∧ (∀ j, j < k → M'.1 16 0 j = M.1 16 0 j) ∧ RM M' n Q D := by
  have hn := hV.1
  intro e
  induction e with
  | zero =>
    intro k dep M x2 D h1 h2 hD hR hx hb
    obtain ⟨dp, rfl⟩ : ∃ dp, dep = dp + 1 := ⟨dep - 1, by omega⟩
    have ek : k = n := by omega
    subst ek
    obtain ⟨M1, a1, a2⟩ := leaf_aw hn hD hV hR
    have hc : M.1 0 10 0 = nI k := hR.2.choose_spec.2.1
    refine ⟨M1, ?_, a2.wb k, a2.1 0 28 0 (by omega), fun j => a2.1 18 0 j (by omega), fun j hj => a2.1 16 0 j (by omega), hR.keep (a2.wb k) (fun i hi => a2.1 12 0 i (by omega))⟩
    show fo_X8_readOn (f_X8_readOn dp) (nI k) x2 M = _
    unfold fo_X8_readOn
    rw [hc, if_pos rfl, a1, obind]
    dsimp only
    rw [a2.1 0 28 0 (by omega), if_pos hb]
  | succ e ih =>
    intro k dep M x2 D h1 h2 hD hR hx hb
    obtain ⟨dp, rfl⟩ : ∃ dp, dep = dp + 1 := ⟨dep - 1, by omega⟩
    have lp : ∀ (w i fuel : Nat) (M : Stt), i + w = n → w < fuel → RM M n Q D → M.1 0 28 0 ≤ nI (aw (setD Q D) n n k) → ∃ M', fl_X8_readOn_61 (f_X8_readOn dp) (fun S => some S) fuel (nI k) x2 (nI i) M = some M' ∧ WB n M M' ∧ M'.1 0 28 0 = M.1 0 28 0 ∧ (∀ j, M'.1 18 0 j = M.1 18 0 j) ∧ (∀ j, j < k → M'.1 16 0 j = M.1 16 0 j) ∧ RM M' n Q D := by
      intro w
      induction w with
      | zero =>
        intro i fuel M q1 q2 qR qb
        obtain ⟨g, rfl⟩ : ∃ g, fuel = g + 1 := ⟨fuel - 1, by omega⟩
        have hc : M.1 0 10 0 = nI n := qR.2.choose_spec.2.1
        refine ⟨M, ?_, WB.rf n M, rfl, fun _ => rfl, fun _ _ => rfl, qR⟩
        rw [fls_X8_readOn_61]
        unfold fb_X8_readOn_61
        rw [hc, if_pos (nI_le (by omega) (by omega))]
      | succ w ihw =>
        intro i fuel M q1 q2 qR qb
        obtain ⟨g, rfl⟩ : ∃ g, fuel = g + 1 := ⟨fuel - 1, by omega⟩
        have hc : M.1 0 10 0 = nI n := qR.2.choose_spec.2.1
        rw [fls_X8_readOn_61, rstep _ _ _ hc (by omega) hn (show i < n by omega), hx i (by omega)]
        by_cases c9 : D i = 99
        · rw [if_pos (decide_eq_true c9)]
          have hR2 : RM (put (put M 16 0 k (nI i)) 12 0 i (nI k)) n Q (updD D i k) := (qR.keep (WB.p16 n M _ _) (fun j hj => by rw [put_at, if_neg (by omega)])).upd (by omega) (by omega)
          have w2 : WB n M (put (put M 16 0 k (nI i)) 12 0 i (nI k)) := (WB.p16 n M _ _).tr (WB.p12 _ (by omega) _)
          have e28 : (put (put M 16 0 k (nI i)) 12 0 i (nI k)).1 0 28 0 = M.1 0 28 0 := by rw [put_at, if_neg (by omega), put_at, if_neg (by omega)]
          obtain ⟨M2, c1, c2, c3, c4, c5, c6⟩ := ih (k + 1) dp (put (put M 16 0 k (nI i)) 12 0 i (nI k)) (x2 &&& (((1 : Int32) <<< (nI i &&& 31)) ^^^ (-1 : Int32))) (updD D i k) (by omega) (by omega) (hD.upd (by omega) c9 (by omega)) hR2 (fun j hj => by
            rw [b_and, b_not _ (show j < 32 by omega), b_pow (by omega) (by omega), hx j hj]
            by_cases cj : j = i
            · rw [cj, updD_i, decide_eq_true (rfl : i = i), decide_eq_false (show ¬ k = 99 by omega), Bool.not_true, Bool.and_false]
            · rw [updD_ne cj, decide_eq_false cj, Bool.not_false, Bool.and_true]) (by
            rw [e28, aw, aw_upd hn (by omega) c9]
            have z := qb
            have b1 := awB (Q := Q) (n := n) D k (by omega)
            have b2 := wc_le (setD Q (updD D i k)) n n k (-9)
            rw [Int32.le_iff_toInt_le, nI_toInt (by omega)] at z
            rw [Int32.le_iff_toInt_le, nI_toInt (by omega)]
            omega)
          rw [c1, obind]
          obtain ⟨M', d1, d2, d3, d4, d5, d6⟩ := ihw (i + 1) g M2 (by omega) (by omega) (c6.down c9) (by rw [c3, e28]; exact qb)
          refine ⟨M', d1, w2.tr (c2.tr d2), ?_, fun j => ?_, fun j hj => ?_, d6⟩
          · rw [d3, c3, e28]
          · rw [d4 j, c4 j, put_at, if_neg (by omega), put_at, if_neg (by omega)]
          · rw [d5 j hj, c5 j (by omega), put_at, if_neg (by omega), put_at, if_neg (by omega)]
        · rw [if_neg (by rw [decide_eq_false c9]; decide)]
          exact ihw (i + 1) g M (by omega) (by omega) qR qb
    obtain ⟨M', d1, d2, d3, d4, d5, d6⟩ := lp n 0 300 M (by omega) (by omega) hR hb
    refine ⟨M', ?_, d2, d3, d4, d5, d6⟩
    have hc : M.1 0 10 0 = nI n := hR.2.choose_spec.2.1
    show fo_X8_readOn (f_X8_readOn dp) (nI k) x2 M = _
    unfold fo_X8_readOn
    rw [hc, nI_if (by omega) (by omega), if_neg (by omega)]
    exact d1
end
/-- the class: its trial's days, the court, the orders -/
def KQ (S S' : Stt) : Prop := (∀ F a i, ¬ (F = 15 ∧ a = 1) → ¬ (30 ≤ F ∧ F ≤ 33) → ¬ (50 ≤ F ∧ F ≤ 52) → S'.1 F a i = S.1 F a i) ∧ S'.2 = S.2
theorem KQ.rf (S : Stt) : KQ S S := ⟨fun _ _ _ _ _ _ => rfl, rfl⟩
theorem KQ.tr {S S' S2 : Stt} (h : KQ S S') (h2 : KQ S' S2) : KQ S S2 := ⟨fun F a i q1 q2 q3 => (h2.1 F a i q1 q2 q3).trans (h.1 F a i q1 q2 q3), h2.2.trans h.2⟩
theorem K30.kq {S S' : Stt} (h : K30 S S') : KQ S S' := ⟨fun F a i _ q2 _ => h.1 F a i q2, h.2⟩
theorem KQ.p15 (S : Stt) (i : Nat) (x : Int32) : KQ S (put S 15 1 i x) := ⟨fun F a j q1 _ _ => by rw [put_at, if_neg (by omega)], rfl⟩
theorem KQ.p5 (S : Stt) {F : Nat} (hF : 50 ≤ F ∧ F ≤ 52) (i : Nat) (x : Int32) : KQ S (put S F 0 i x) := ⟨fun G a j _ _ q3 => by rw [put_at, if_neg (by omega)], rfl⟩
theorem KQ.p51 (S : Stt) (f : Nat → Int32) : KQ S (putA S 51 0 f) := ⟨fun G a j _ _ q3 => by rw [putA_at, if_neg (by omega)], rfl⟩
theorem KQ.same {S S' : Stt} (h : KQ S S') : Same S S' := ⟨fun F a i q => h.1 F a i (by omega) (by omega) (by omega), h.2⟩
theorem KQ.rk {S S' : Stt} {n : Nat} {Q : Nat → Nat → Nat} (h : KQ S S') (hR : RkC S 1 n Q) : RkC S' 1 n Q := hR.frame1 (fun k => h.1 18 1 k (by omega) (by omega) (by omega))
theorem KQ.bc {S S' : Stt} {n : Nat} {Q : Nat → Nat → Nat} {D E : Nat → Nat} (h : KQ S S') (hB : BC S 1 n (setD Q D)) (hE : ∀ i, i < n → S'.1 15 1 i = nI (E i)) : BC S' 1 n (setD Q E) := by
  have := hB.setD hE (fun F i q1 q2 q3 => h.1 F 1 i (by omega) (by omega) (by omega))
  rw [setD_setD] at this
  exact this
def FDb (S M : Stt) (n : Nat) : Prop := ∃ y, y ≤ 192 ∧ S.1 52 0 0 = nI y ∧ M.1 0 28 0 = nI y ∧ ∀ j, j < n → S.1 51 0 j = M.1 18 0 j
def BBb (S M : Stt) (n : Nat) : Prop := (S.1 52 0 0 = nI 193 ∧ M.1 0 28 0 = nI 1048576) ∨ FDb S M n
theorem copy29 {n : Nat} (hn : n ≤ 6) (fr : Int32 → Int32 → Stt → Option Stt) : ∀ (k i fuel : Nat) (M : Stt), i + k = n → k < fuel → M.1 0 10 0 = nI n → ∃ M', fl_X8_readOn_29 fr (fun S => some S) fuel (nI i) M = some M' ∧ (∀ F a j, ¬ (F = 18 ∧ a = 0 ∧ i ≤ j) → M'.1 F a j = M.1 F a j) ∧ M'.2 = M.2 ∧ ∀ j, i ≤ j → j < n → M'.1 18 0 j = M.1 16 0 j := by
  intro k
  induction k with
  | zero =>
    intro i fuel M h1 h2 hc
    obtain ⟨g, rfl⟩ : ∃ g, fuel = g + 1 := ⟨fuel - 1, by omega⟩
    refine ⟨M, ?_, fun _ _ _ _ => rfl, rfl, fun j q1 q2 => absurd q2 (by omega)⟩
    rw [fls_X8_readOn_29]
    unfold fb_X8_readOn_29
    rw [hc, if_pos (nI_le (by omega) (by omega))]
  | succ k ih =>
    intro i fuel M h1 h2 hc
    obtain ⟨g, rfl⟩ : ∃ g, fuel = g + 1 := ⟨fuel - 1, by omega⟩
    obtain ⟨M', b1, b2, b3, b4⟩ := ih (i + 1) g (put M 18 0 i (M.1 16 0 i)) (by omega) (by omega) (by rw [put_at, if_neg (by omega)]; exact hc)
    refine ⟨M', ?_, fun F a j q => ?_, b3.trans rfl, fun j q1 q2 => ?_⟩
    · rw [fls_X8_readOn_29]
      unfold fb_X8_readOn_29
      rw [hc, if_neg (nI_ge (by omega) (by omega)), ixb_nI (show i < 6 by omega) (by omega), grd_t, grd_t, cl_nI (by omega), nI_1]
      exact b1
    · rw [b2 F a j (by omega), put_at, if_neg (by omega)]
    · by_cases c : j = i
      · subst c
        rw [b2 18 0 j (by omega), put_at, if_pos ⟨rfl, rfl, rfl⟩]
      · rw [b4 j (by omega) q2, put_at, if_neg (by omega)]
