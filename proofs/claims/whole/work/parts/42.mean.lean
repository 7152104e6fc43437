theorem b_ext {x y : Int32} (h : ∀ i, i < 32 → bt x i = bt y i) : x = y := Int32.toBitVec_inj.mp (BitVec.eq_of_getLsbD_eq (fun i hi => h i hi))
theorem b_or (x y : Int32) (i : Nat) : bt (x ||| y) i = (bt x i || bt y i) := by unfold bt; rw [Int32.toBitVec_or, BitVec.getLsbD_or]
theorem b_and (x y : Int32) (i : Nat) : bt (x &&& y) i = (bt x i && bt y i) := by unfold bt; rw [Int32.toBitVec_and, BitVec.getLsbD_and]
theorem b_xor (x y : Int32) (i : Nat) : bt (x ^^^ y) i = (bt x i ^^ bt y i) := by unfold bt; rw [Int32.toBitVec_xor, BitVec.getLsbD_xor]
theorem b_big {x : Int32} {i : Nat} (h : 32 ≤ i) : bt x i = false := BitVec.getLsbD_of_ge _ _ h
theorem b_m1 : ∀ i, i < 32 → bt (-1) i = true := by decide +kernel
theorem b_0 (i : Nat) : bt 0 i = false := BitVec.getLsbD_zero
theorem s_l : ∀ n, n < 32 → ((nI n &&& 31).toBitVec.smod 32).toNat = n := by decide +kernel
theorem s_u : ∀ n, n < 32 → (((nI n).toUInt32 &&& Int32.toUInt32 31).toBitVec % 32).toNat = n := by decide +kernel
theorem b_shl (n : Nat) (hn : n < 32) (x : Int32) {i : Nat} (hi : i < 32) : bt (x <<< (nI n &&& 31)) i = (decide (n ≤ i) && bt x (i - n)) := by
  unfold bt
  rw [Int32.toBitVec_shiftLeft]
  show (x.toBitVec <<< ((nI n &&& 31).toBitVec.smod 32).toNat).getLsbD i = _
  rw [s_l n hn, BitVec.getLsbD_shiftLeft]
  rcases Nat.lt_or_ge i n with h | h
  · simp [h, Nat.not_le.mpr h]
  · simp [hi, h, Nat.not_lt.mpr h]
theorem b_ushr (n : Nat) (hn : n < 32) (x : Int32) (i : Nat) : bt ((x.toUInt32 >>> ((nI n).toUInt32 &&& Int32.toUInt32 31)).toInt32) i = bt x (n + i) := by
  show (x.toUInt32 >>> ((nI n).toUInt32 &&& Int32.toUInt32 31)).toBitVec.getLsbD i = x.toUInt32.toBitVec.getLsbD (n + i)
  rw [UInt32.toBitVec_shiftRight]
  show (x.toUInt32.toBitVec >>> (((nI n).toUInt32 &&& Int32.toUInt32 31).toBitVec % 32).toNat).getLsbD i = _
  rw [s_u n hn, BitVec.getLsbD_ushiftRight]
theorem b_sshr (n : Nat) (hn : n < 32) (x : Int32) {i : Nat} (hi : i < 32) : bt (x >>> (nI n &&& 31)) i = if n + i < 32 then bt x (n + i) else bt x 31 := by
  unfold bt
  rw [Int32.toBitVec_shiftRight]
  show (x.toBitVec.sshiftRight ((nI n &&& 31).toBitVec.smod 32).toNat).getLsbD i = _
  rw [s_l n hn, BitVec.getLsbD_sshiftRight, BitVec.msb_eq_getLsbD_last]
  simp [hi]
theorem b_1 : ∀ i, i < 32 → bt 1 i = decide (i = 0) := by decide +kernel
theorem and1 (y : Int32) : y &&& 1 = b2i (bt y 0) := by
  apply b_ext
  intro i hi
  rw [b_and, b_1 i hi]
  by_cases c : i = 0
  · subst c
    cases h : bt y 0
    · rw [show b2i false = 0 from rfl, b_0]; rfl
    · rw [show b2i true = 1 from rfl, b_1 0 (by omega)]; rfl
  · rw [decide_eq_false c, Bool.and_false]
    cases h : bt y 0
    · rw [show b2i false = 0 from rfl, b_0]
    · rw [show b2i true = 1 from rfl, b_1 i hi, decide_eq_false c]
theorem shr1 (x : Int32) {i : Nat} (hi : i < 32) : (x >>> (nI i &&& 31)) &&& 1 = b2i (bt x i) := by
  rw [and1, b_sshr i hi x (by omega), if_pos (by omega)]
  rfl
theorem hasBit_eq (x : Int32) {i : Nat} (hi : i < 32) (S : Stt) : f_X7_hasBit x (nI i) S = some (b2i (bt x i), S) := by
  unfold f_X7_hasBit
  rw [shr1 x hi, if_b2i]
  cases bt x i <;> rfl
theorem has_eq (x : Int32) {i : Nat} (hi : i < 32) (M : Stt) : f_X8_has x (nI i) M = some (b2i (bt x i), M) := by
  unfold f_X8_has
  rw [shr1 x hi]
  cases bt x i <;> rfl
theorem b_pow {k i : Nat} (hk : k < 32) (hi : i < 32) : bt ((1 : Int32) <<< (nI k &&& 31)) i = decide (i = k) := by
  rw [b_shl k hk 1 hi, b_1 (i - k) (by omega)]
  by_cases c : i = k
  · rw [decide_eq_true c, decide_eq_true (show k ≤ i by omega), decide_eq_true (show i - k = 0 by omega)]; rfl
  · rw [decide_eq_false c]
    by_cases c2 : k ≤ i
    · rw [decide_eq_false (show ¬ i - k = 0 by omega), Bool.and_false]
    · rw [decide_eq_false c2, Bool.false_and]
theorem b_bits (p : Nat → Bool) : ∀ n i, n ≤ 32 → i < 32 → bt (bits p n) i = (decide (i < n) && p i) := by
  intro n
  induction n with
  | zero =>
    intro i _ hi
    rw [bits, b_0, decide_eq_false (by omega), Bool.false_and]
  | succ n ih =>
    intro i hn hi
    rw [bits, b_or, ih i (by omega) hi]
    by_cases c : p n = true
    · rw [if_pos c, b_pow (by omega) hi]
      by_cases c2 : i = n
      · subst c2
        rw [decide_eq_true rfl, Bool.or_true, decide_eq_true (show i < i + 1 by omega), c]; rfl
      · rw [decide_eq_false c2, Bool.or_false]
        by_cases c3 : i < n
        · rw [decide_eq_true c3, decide_eq_true (show i < n + 1 by omega)]
        · rw [decide_eq_false c3, decide_eq_false (show ¬ i < n + 1 by omega)]
    · rw [if_neg c, b_0, Bool.or_false]
      by_cases c2 : i = n
      · subst c2
        have c3 : p i = false := by cases h : p i <;> simp_all
        rw [c3, Bool.and_false, Bool.and_false]
      · by_cases c3 : i < n
        · rw [decide_eq_true c3, decide_eq_true (show i < n + 1 by omega)]
        · rw [decide_eq_false c3, decide_eq_false (show ¬ i < n + 1 by omega)]
theorem b_nI (w i : Nat) (hi : i < 32) : bt (nI w) i = w.testBit i := by
  show (BitVec.ofNat 32 w).getLsbD i = _
  rw [BitVec.getLsbD_ofNat]
  simp [hi]
theorem b_litC : ∀ f, f < 5 → ∀ m, m < 32 → bt (litC f) m = m.testBit f := by decide +kernel
theorem b_not (x : Int32) {i : Nat} (hi : i < 32) : bt (x ^^^ (-1)) i = !bt x i := by
  rw [b_xor, b_m1 i hi]
  cases bt x i <;> rfl
/-! what a word can mean -/
/-- page i is a definition of word w that binds on day d -/
def qd (Q : Nat → Nat → Nat) (n lo d w i : Nat) : Bool := bnd Q n lo d i && decide (Q 0 i = 3) && (Q 3 i).testBit w
/-- the latest of them among the first k; 99: none -/
def ld (Q : Nat → Nat → Nat) (n lo d w : Nat) : Nat → Nat
  | 0 => 99
  | k + 1 => if qd Q n lo d w k = true then (if ld Q n lo d w k = 99 ∨ Q 5 (ld Q n lo d w k) < Q 5 k then k else ld Q n lo d w k) else ld Q n lo d w k
def fac (Q : Nat → Nat → Nat) (n lo d w : Nat) : Int32 := if ld Q n lo d w n = 99 then 31 else (1 : Int32) <<< (nI (Q 4 (ld Q n lo d w n)) &&& 31)
def DD (n : Nat) (Q : Nat → Nat → Nat) : Prop := ∀ i j, i < n → j < n → Q 5 i = Q 5 j → Q 5 i ≤ 20 → i = j
theorem ld_in (Q : Nat → Nat → Nat) (n lo d w : Nat) : ∀ k, ld Q n lo d w k = 99 ∨ (ld Q n lo d w k < k ∧ qd Q n lo d w (ld Q n lo d w k) = true) := by
  intro k
  induction k with
  | zero => exact Or.inl rfl
  | succ k ih =>
    rw [ld]
    by_cases c : qd Q n lo d w k = true
    · rw [if_pos c]
      by_cases c2 : ld Q n lo d w k = 99 ∨ Q 5 (ld Q n lo d w k) < Q 5 k
      · rw [if_pos c2]; exact Or.inr ⟨by omega, c⟩
      · rw [if_neg c2]
        rcases ih with h | h
        · exact absurd (Or.inl h) c2
        · exact Or.inr ⟨by omega, h.2⟩
    · rw [if_neg c]
      rcases ih with h | h
      · exact Or.inl h
      · exact Or.inr ⟨by omega, h.2⟩
theorem qd_facts {Q : Nat → Nat → Nat} {n lo d w i : Nat} (h : qd Q n lo d w i = true) : i < n ∧ i ≠ lo ∧ Q 0 i = 3 ∧ (Q 3 i).testBit w = true ∧ Q 5 i ≤ d ∧ bnd Q n lo d i = true := by
  unfold qd at h
  simp only [Bool.and_eq_true, decide_eq_true_eq] at h
  obtain ⟨⟨h1, h2⟩, h3⟩ := h
  obtain ⟨a, b⟩ := bnd_lt h1
  refine ⟨a, b, h2, h3, ?_, h1⟩
  unfold bnd at h1
  rw [hs_iff] at h1
  obtain ⟨m, q1, q2, q3⟩ := h1
  have ho : opn Q n lo d i := by
    cases m with
    | zero => exact q3.1
    | succ m => exact (q2 0 (by omega)).1
  have := ho.2.1
  omega
theorem factsFor_loop {S : Stt} {b n : Nat} {Q : Nat → Nat → Nat} (hV : BkV n Q) (hB : BC S b n Q) (hD : DD n Q) {d w : Nat} (hd : d ≤ 20) (hw : w < 32) : ∀ (k i fuel : Nat) (x3 x4 : Int32), i + k = n → k < fuel → ((ld Q n n d w i = 99 ∧ x3 = 31 ∧ x4 = -1) ∨ (ld Q n n d w i < i ∧ x3 = (1 : Int32) <<< (nI (Q 4 (ld Q n n d w i)) &&& 31) ∧ x4 = nI (Q 5 (ld Q n n d w i)))) → fl_X0_factsFor_9 (fun x3 S => some (x3, S)) fuel b (nI w) (bits (bnd Q n n d) n) x3 x4 (nI i) S = some (fac Q n n d w, S) := by
  have hn := hV.1
  intro k
  induction k with
  | zero =>
    intro i fuel x3 x4 h1 h2 h3
    obtain ⟨g, rfl⟩ : ∃ g, fuel = g + 1 := ⟨fuel - 1, by omega⟩
    rw [fls_X0_factsFor_9]
    unfold fb_X0_factsFor_9
    rw [hB.1, nI_ifle (by omega) (by omega), if_pos (by omega)]
    have hi : i = n := by omega
    subst hi
    unfold fac
    rcases h3 with ⟨q1, q2, -⟩ | ⟨q1, q2, -⟩
    · rw [if_pos q1, q2]
    · rw [if_neg (by omega), q2]
  | succ k ih =>
    intro i fuel x3 x4 h1 h2 h3
    obtain ⟨g, rfl⟩ : ∃ g, fuel = g + 1 := ⟨fuel - 1, by omega⟩
    have hi : i < n := by omega
    obtain ⟨p0, p1, p2, p3, p4, p5, p6⟩ := hB.2 i hi
    obtain ⟨v0, v1, v2, v3, v4, v5⟩ := hV.2 i hi
    have stay : qd Q n n d w i = false → fl_X0_factsFor_9 (fun x3 S => some (x3, S)) g b (nI w) (bits (bnd Q n n d) n) x3 x4 (nI (i + 1)) S = some (fac Q n n d w, S) := by
      intro hq
      refine ih (i + 1) g x3 x4 (by omega) (by omega) ?_
      have e : ld Q n n d w (i + 1) = ld Q n n d w i := by rw [ld, if_neg (by rw [hq]; decide)]
      rw [e]
      rcases h3 with h3 | ⟨q1, q2⟩
      · exact Or.inl h3
      · exact Or.inr ⟨by omega, q2⟩
    rw [fls_X0_factsFor_9]
    unfold fb_X0_factsFor_9
    rw [hB.1, nI_ifle (by omega) (by omega), if_neg (by omega), ixb_nI (show i < 6 by omega) (by omega), grd_t, cl_nI (by omega), hasBit_eq _ (by omega), obind, if_b2i, b_bits _ n i (by omega) (by omega), decide_eq_true hi, Bool.true_and, nI_1]
    by_cases c1 : bnd Q n n d i = true
    · rw [if_pos c1]
      show (if S.1 10 b i = 3 then _ else _) = _
      rw [p0, n9 3, nI_if (by omega) (by omega)]
      by_cases c2 : Q 0 i = 3
      · rw [if_pos c2]
        show Option.bind (f_X7_hasBit (S.1 13 b i) (nI w) S) _ = _
        rw [p3, hasBit_eq _ hw, obind, if_b2i, b_nI _ _ hw]
        by_cases c3 : (Q 3 i).testBit w = true
        · rw [if_pos c3]
          show (if x4 ≤ S.1 15 b i then fl_X0_factsFor_9 _ g b (nI w) _ ((1 : Int32) <<< (S.1 14 b i &&& 31)) (S.1 15 b i) (nI (i + 1)) S else _) = _
          rw [p4 c2, p5]
          have hq : qd Q n n d w i = true := by unfold qd; rw [c1, c3, decide_eq_true c2]; rfl
          have hday := (qd_facts hq).2.2.2.2.1
          rcases h3 with ⟨q1, q2, q3⟩ | ⟨q1, q2, q3⟩
          · rw [q3, if_pos (by
              rw [Int32.le_iff_toInt_le, nI_toInt (by omega)]
              have : (-1 : Int32).toInt = -1 := by decide
              omega)]
            refine ih (i + 1) g _ _ (by omega) (by omega) (Or.inr ?_)
            have e : ld Q n n d w (i + 1) = i := by rw [ld, if_pos hq, if_pos (Or.inl q1)]
            rw [e]
            exact ⟨by omega, rfl, rfl⟩
          · have hj := (ld_in Q n n d w i).resolve_left (by omega)
            have hjd := (qd_facts hj.2)
            have hne : Q 5 (ld Q n n d w i) ≠ Q 5 i := fun q => by
              have := hD _ _ hjd.1 hi q (by omega)
              omega
            rw [q3, nI_ifle (by omega) (by omega)]
            by_cases c4 : Q 5 (ld Q n n d w i) ≤ Q 5 i
            · rw [if_pos c4]
              refine ih (i + 1) g _ _ (by omega) (by omega) (Or.inr ?_)
              have e : ld Q n n d w (i + 1) = i := by rw [ld, if_pos hq, if_pos (Or.inr (by omega))]
              rw [e]
              exact ⟨by omega, rfl, rfl⟩
            · rw [if_neg c4, ← q3]
              refine ih (i + 1) g _ _ (by omega) (by omega) (Or.inr ?_)
              have e : ld Q n n d w (i + 1) = ld Q n n d w i := by rw [ld, if_pos hq, if_neg (by omega)]
              rw [e]
              exact ⟨by omega, q2, q3⟩
        · rw [if_neg c3]
          exact stay (by unfold qd; rw [show (Q 3 i).testBit w = false by cases h : (Q 3 i).testBit w <;> simp_all, Bool.and_false])
      · rw [if_neg c2]
        exact stay (by unfold qd; rw [decide_eq_false c2, Bool.and_false, Bool.false_and])
    · rw [if_neg c1]
      exact stay (by unfold qd; rw [show bnd Q n n d i = false by cases h : bnd Q n n d i <;> simp_all, Bool.false_and, Bool.false_and])
theorem factsFor_eq {S : Stt} {b n : Nat} {Q : Nat → Nat → Nat} (hV : BkV n Q) (hB : BC S b n Q) (hD : DD n Q) {d w : Nat} (hd : d ≤ 20) (hw : w < 32) : f_X0_factsFor b (nI w) (bits (bnd Q n n d) n) S = some (fac Q n n d w, S) := by
  have hn := hV.1
  exact factsFor_loop hV hB hD hd hw n 0 300 31 (-1) (by omega) (by omega) (Or.inl ⟨rfl, rfl, rfl⟩)
theorem meanOf_loop {M : Stt} {n lo : Nat} {Q : Nat → Nat → Nat} (hV : BkV n Q) (hB : BM M n Q) (hL : LoR M n lo) {d w : Nat} (hd : d ≤ 20) (hw : w < 32) : ∀ (k i fuel : Nat) (x3 : Int32), i + k = n → k < fuel → ((ld Q n lo d w i = 99 ∧ x3 = -9) ∨ (ld Q n lo d w i < i ∧ x3 = nI (ld Q n lo d w i))) → fl_X8_meanOf_6 (fun x3 S => if x3 = -9 then (some ((31 : Int32), S)) else (grd (ixb x3 6) (some (((1 : Int32) <<< ((S.1 11 0 x3.toNatClampNeg) &&& 31)), S)))) fuel (nI w) (nI d) x3 (nI i) M = some (fac Q n lo d w, M) := by
  have hn := hV.1
  intro k
  induction k with
  | zero =>
    intro i fuel x3 h1 h2 h3
    obtain ⟨g, rfl⟩ : ∃ g, fuel = g + 1 := ⟨fuel - 1, by omega⟩
    rw [fls_X8_meanOf_6]
    unfold fb_X8_meanOf_6
    rw [hB.1, nI_ifle (by omega) (by omega), if_pos (by omega)]
    have hi : i = n := by omega
    subst hi
    unfold fac
    show (if x3 = -9 then some ((31 : Int32), M) else grd (ixb x3 6) (some ((1 : Int32) <<< (M.1 11 0 x3.toNatClampNeg &&& 31), M))) = _
    rcases h3 with ⟨q1, q2⟩ | ⟨q1, q2⟩
    · rw [if_pos q1, if_pos q2]
    · have hj := (ld_in Q i lo d w i).resolve_left (by omega)
      have hjd := (qd_facts hj.2)
      rw [if_neg (show ¬ ld Q i lo d w i = 99 by omega), q2, if_neg (nI_ne_neg (by omega) neg9), ixb_nI (by omega) (by omega), grd_t, cl_nI (by omega), (hB.2 _ hjd.1).2.2.2.2.1 hjd.2.2.1]
  | succ k ih =>
    intro i fuel x3 h1 h2 h3
    obtain ⟨g, rfl⟩ : ∃ g, fuel = g + 1 := ⟨fuel - 1, by omega⟩
    have hi : i < n := by omega
    obtain ⟨p0, p1, p2, p3, p4, p5⟩ := hB.2 i hi
    obtain ⟨v0, v1, v2, v3, v4, v5⟩ := hV.2 i hi
    rw [fls_X8_meanOf_6]
    unfold fb_X8_meanOf_6
    have stay : qd Q n lo d w i = false → fj_X8_meanOf_54_6 (fl_X8_meanOf_6 (fun x3 S => if x3 = -9 then (some ((31 : Int32), S)) else (grd (ixb x3 6) (some (((1 : Int32) <<< ((S.1 11 0 x3.toNatClampNeg) &&& 31)), S)))) g) (fun x3 S => if x3 = -9 then (some ((31 : Int32), S)) else (grd (ixb x3 6) (some (((1 : Int32) <<< ((S.1 11 0 x3.toNatClampNeg) &&& 31)), S)))) (nI w) (nI d) x3 (nI i) M = some (fac Q n lo d w, M) := by
      intro hq
      unfold fj_X8_meanOf_54_6 fj_X8_meanOf_55_6
      rw [if_pos rfl, nI_1]
      refine ih (i + 1) g x3 (by omega) (by omega) ?_
      have e : ld Q n lo d w (i + 1) = ld Q n lo d w i := by rw [ld, if_neg (by rw [hq]; decide)]
      rw [e]
      rcases h3 with h3 | ⟨q1, q2⟩
      · exact Or.inl h3
      · exact Or.inr ⟨by omega, q2⟩
    rw [hB.1, nI_ifle (by omega) (by omega), if_neg (by omega), ixb_nI (show i < 6 by omega) (by omega), grd_t, grd_t, cl_nI (by omega), p0, n9 3, nI_if (by omega) (by omega)]
    by_cases c2 : Q 0 i = 3
    · rw [if_pos c2, p3, has_eq _ hw, obind, if_b2i, b_nI _ _ hw]
      by_cases c3 : (Q 3 i).testBit w = true
      · rw [if_pos c3]
        show Option.bind (f_X8_doesBind (nI i) (nI d) M) _ = _
        rw [doesBind_eq hV hB hL (by omega) (by omega), obind, if_b2i, hs_stay]
        by_cases c1 : bnd Q n lo d i = true
        · rw [if_pos (show hsF Q n lo n i d = true from c1)]
          have hq : qd Q n lo d w i = true := by unfold qd; rw [c1, c3, decide_eq_true c2]; rfl
          unfold fj_X8_meanOf_55_6
          rw [if_neg n10, nI_1]
          rcases h3 with ⟨q1, q2⟩ | ⟨q1, q2⟩
          · rw [if_pos q2]
            refine ih (i + 1) g _ (by omega) (by omega) (Or.inr ?_)
            have e : ld Q n lo d w (i + 1) = i := by rw [ld, if_pos hq, if_pos (Or.inl q1)]
            rw [e]
            exact ⟨by omega, rfl⟩
          · have hj := (ld_in Q n lo d w i).resolve_left (by omega)
            have hjd := (qd_facts hj.2)
            have hv5 := (hV.2 _ hjd.1).2.2.2.2.2
            rw [if_neg (by rw [q2]; exact nI_ne_neg (by omega) neg9), ixb_nI (show i < 6 by omega) (by omega), grd_t, q2, ixb_nI (show ld Q n lo d w i < 6 by omega) (by omega), grd_t, cl_nI (by omega), cl_nI (by omega)]
            show (if M.1 12 0 i ≤ M.1 12 0 (ld Q n lo d w i) then _ else _) = _
            rw [p5, (hB.2 _ hjd.1).2.2.2.2.2, nI_ifle (by omega) (by omega)]
            by_cases c4 : Q 5 i ≤ Q 5 (ld Q n lo d w i)
            · rw [if_pos c4]
              refine ih (i + 1) g _ (by omega) (by omega) (Or.inr ?_)
              have e : ld Q n lo d w (i + 1) = ld Q n lo d w i := by rw [ld, if_pos hq, if_neg (by omega)]
              rw [e]
              exact ⟨by omega, rfl⟩
            · rw [if_neg c4]
              refine ih (i + 1) g _ (by omega) (by omega) (Or.inr ?_)
              have e : ld Q n lo d w (i + 1) = i := by rw [ld, if_pos hq, if_pos (Or.inr (by omega))]
              rw [e]
              exact ⟨by omega, rfl⟩
        · have c1' : hsF Q n lo n i d = false := by
            have : bnd Q n lo d i = hsF Q n lo n i d := rfl
            cases h : hsF Q n lo n i d <;> simp_all
          rw [c1', if_neg (by decide)]
          exact stay (by unfold qd; rw [show bnd Q n lo d i = false from c1', Bool.false_and, Bool.false_and])
      · rw [if_neg c3]
        exact stay (by unfold qd; rw [show (Q 3 i).testBit w = false by cases h : (Q 3 i).testBit w <;> simp_all, Bool.and_false])
    · rw [if_neg c2]
      exact stay (by unfold qd; rw [decide_eq_false c2, Bool.and_false, Bool.false_and])
theorem meanOf_eq {M : Stt} {n lo : Nat} {Q : Nat → Nat → Nat} (hV : BkV n Q) (hB : BM M n Q) (hL : LoR M n lo) {d w : Nat} (hd : d ≤ 20) (hw : w < 32) : f_X8_meanOf (nI w) (nI d) M = some (fac Q n lo d w, M) := by
  have hn := hV.1
  exact meanOf_loop hV hB hL hd hw n 0 300 (-9) (by omega) (by omega) (Or.inl ⟨rfl, rfl⟩)
