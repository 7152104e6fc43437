/-! mean, copy, text, put -/
/-- a row that is given: none, a missing one, one of n -/
theorem row3 {S M : Stt} (h : Rel S M) (x : Int32) : ((∀ S, f_X6_isOne 0 x S = some (0, S)) ∧ (∀ M, f_X8_isRow x M = some (0, M)) ∧ ∀ M, f_X8_askedRow x M = some (-1, M)) ∨ (∃ r, r < 6 ∧ x = nI r ∧ S.1 19 0 r = -1 ∧ M.1 2 0 r = -9) ∨ ∃ r n, r < 6 ∧ x = nI r ∧ n ≤ 40 ∧ S.1 19 0 r = nI n ∧ M.1 2 0 r = nI n ∧ ∀ i, i < n → S.1 20 r i = M.1 3 0 (40 * r + i) := by
  rcases ix3 x (n := 6) (by omega) with h1 | h1 | ⟨r, hr, rfl⟩
  · exact Or.inl ⟨fun S => isOne_no (z := 0) (Or.inl h1.1) S, fun M => isRow_no (no05 (Or.inl h1)) M, fun M => askedRow_no (no05 (Or.inl h1)) M⟩
  · exact Or.inl ⟨fun S => isOne_no (z := 0) (Or.inr h1.1) S, fun M => isRow_no (no05 (Or.inr h1)) M, fun M => askedRow_no (no05 (Or.inr h1)) M⟩
  · rcases h.2.1 r hr with ⟨y1, y2⟩ | ⟨n, y1, y2, y3, y4⟩
    · exact Or.inr (Or.inl ⟨r, hr, rfl, y1, y2⟩)
    · exact Or.inr (Or.inr ⟨r, n, hr, rfl, y1, y2, y3, y4⟩)
theorem text3 {S M : Stt} (h : Rel S M) (x : Int32) : ((∀ S, f_X6_isOne 1 x S = some (0, S)) ∧ (∀ M, f_X8_isText x M = some (0, M)) ∧ ∀ M, f_X8_askedText x M = some (-1, M)) ∨ (∃ r, r < 4 ∧ x = nI r ∧ S.1 19 1 r = -1 ∧ M.1 5 0 r = -9) ∨ ∃ r n, r < 4 ∧ x = nI r ∧ n ≤ 80 ∧ S.1 19 1 r = nI n ∧ M.1 5 0 r = nI n ∧ ∀ i, i < n → S.1 21 r i = M.1 6 0 (80 * r + i) := by
  rcases ix3 x (n := 4) (by omega) with h1 | h1 | ⟨r, hr, rfl⟩
  · exact Or.inl ⟨fun S => isOne_no (z := 1) (Or.inl h1.1) S, fun M => isText_no (no03 (Or.inl h1)) M, fun M => askedText_no (no03 (Or.inl h1)) M⟩
  · exact Or.inl ⟨fun S => isOne_no (z := 1) (Or.inr h1.1) S, fun M => isText_no (no03 (Or.inr h1)) M, fun M => askedText_no (no03 (Or.inr h1)) M⟩
  · rcases h.2.2.1 r hr with ⟨y1, y2⟩ | ⟨n, y1, y2, y3, y4⟩
    · exact Or.inr (Or.inl ⟨r, hr, rfl, y1, y2⟩)
    · exact Or.inr (Or.inr ⟨r, n, hr, rfl, y1, y2, y3, y4⟩)
/-- the sum of the first k -/
def sm (g : Nat → Int32) : Nat → Int64
  | 0 => 0
  | k + 1 => sm g k + (g k).toInt64
theorem sm_congr {g g' : Nat → Int32} : ∀ k, (∀ j, j < k → g j = g' j) → sm g k = sm g' k := by
  intro k
  induction k with
  | zero => intro _; rfl
  | succ k ih => intro h; rw [sm, sm, ih (fun j hj => h j (by omega)), h k (by omega)]
theorem sum_loopC {S : Stt} {r n : Nat} (hr : r < 6) (hn : n ≤ 40) (y2 : S.1 19 0 r = nI n) : ∀ (k i fuel : Nat), i + k = n → k < fuel → fl_X6_sumOf_5 (fun y2 S => some (y2, S)) fuel 0 (nI r) (sm (S.1 20 r) i) (nI i) S = some (sm (S.1 20 r) n, S) := by
  intro k
  induction k with
  | zero =>
    intro i fuel h1 h2
    obtain ⟨g, rfl⟩ : ∃ g, fuel = g + 1 := ⟨fuel - 1, by omega⟩
    rw [fls_X6_sumOf_5]
    unfold fb_X6_sumOf_5
    rw [ixb_nI (n := shl 0) hr (by decide), grd_t, cl_nI (by omega), y2, nI_ifle (by omega) (by omega), if_pos (by omega), show i = n by omega]
  | succ k ih =>
    intro i fuel h1 h2
    obtain ⟨g, rfl⟩ : ∃ g, fuel = g + 1 := ⟨fuel - 1, by omega⟩
    rw [fls_X6_sumOf_5]
    unfold fb_X6_sumOf_5
    rw [ixb_nI (n := shl 0) hr (by decide), grd_t, cl_nI (by omega), y2, nI_ifle (by omega) (by omega), if_neg (by omega), grd_t, ixb_nI (n := pll 0) (show i < 40 by omega) (by decide), grd_t, cl_nI (by omega), nI_1]
    exact ih (i + 1) g (by omega) (by omega)
theorem sum_loopM {M : Stt} {r n : Nat} (hr : r < 6) (hn : n ≤ 40) (y3 : M.1 2 0 r = nI n) (ke : Int32 → Int64 → Stt → Option (Int32 × Stt)) : ∀ (k i fuel : Nat), i + k = n → k < fuel → fl_X8_mean_17 ke fuel (nI r) (sm (fun i => M.1 3 0 (40 * r + i)) i) (nI i) M = ke (nI r) (sm (fun i => M.1 3 0 (40 * r + i)) n) M := by
  intro k
  induction k with
  | zero =>
    intro i fuel h1 h2
    obtain ⟨g, rfl⟩ : ∃ g, fuel = g + 1 := ⟨fuel - 1, by omega⟩
    rw [fls_X8_mean_17]
    unfold fb_X8_mean_17
    rw [ixb_nI hr (by decide), grd_t, cl_nI (by omega), y3, nI_ifle (by omega) (by omega), if_pos (by omega), show i = n by omega]
  | succ k ih =>
    intro i fuel h1 h2
    obtain ⟨g, rfl⟩ : ∃ g, fuel = g + 1 := ⟨fuel - 1, by omega⟩
    rw [fls_X8_mean_17]
    unfold fb_X8_mean_17
    rw [ixb_nI hr (by decide), grd_t, cl_nI (by omega), y3, nI_ifle (by omega) (by omega), if_neg (by omega), rowAt_eq hr (by omega), obind, nI_1]
    exact ih (i + 1) g (by omega) (by omega)
theorem sim_mean (x1 : Int32) : SimI (f_X7_mean x1) (f_X8_mean x1) := by
  intro S M h
  unfold f_X7_mean f_X8_mean
  rcases row3 h x1 with ⟨a1, a2, a3⟩ | ⟨r, hr, rfl, y1, y2⟩ | ⟨r, n, hr, rfl, hn, y2, y3, y4⟩
  · exact ⟨-1, S, M, by rw [a1, obind, if_pos rfl], by rw [a3, obind, if_neg nn1], h⟩
  · obtain ⟨S', M', e1, e2, e3⟩ := h.refuse (k := 1) (by omega) (by omega)
    exact ⟨-3, S', M', by rw [isOne_yes (z := 0) hr, obind, if_neg n10, there_no (z := 0) hr y1, obind, if_pos rfl, n9 1, e1, obind], by rw [askedRow_gone hr y2 e2, obind, if_neg nn3], e3⟩
  · have eC : ∀ f : Int32 × Stt → Option (Int32 × Stt), ((f_X6_isOne 0 (nI r) S).bind fun q1 => if q1.1 = 0 then (some ((-1 : Int32), q1.2)) else ((f_X6_isThere 0 (nI r) q1.2).bind fun q4 => if q4.1 = 0 then ((f_X7_refuse (1 : Int32) q4.2).bind fun q15 => some (q15.1, q15.2)) else ((f_X6_sizeOf 0 (nI r) q4.2).bind f))) = f (nI n, S) := by
      intro f
      rw [isOne_yes (z := 0) hr, obind, if_neg n10, there_yes (z := 0) hr y2 (by omega), obind, if_neg n10, sizeOf_eq (z := 0) hr, obind, y2]
    rw [eC, askedRow_there hr y3 (by omega), obind, if_pos p00]
    have eM := sum_loopM hr hn y3 (fun x1 y3 S => grd (ixb x1 6) (if (S.1 2 0 x1.toNatClampNeg) = 0 then ((f_X8_meet (4 : Int32) S).bind fun q14 => some (q14.1, q14.2)) else (grd (ixb x1 6) (grd (decide (¬ (S.1 2 0 x1.toNatClampNeg).toInt64 = 0)) ((f_X8_ask ((y3 / (S.1 2 0 x1.toNatClampNeg).toInt64).toInt32) (1 : Int32) S).bind fun q12 => some (q12.1, q12.2)))))) n 0 300 (by omega) (by omega)
    have eM2 : fl_X8_mean_17 (fun x1 y3 S => grd (ixb x1 6) (if (S.1 2 0 x1.toNatClampNeg) = 0 then ((f_X8_meet (4 : Int32) S).bind fun q14 => some (q14.1, q14.2)) else (grd (ixb x1 6) (grd (decide (¬ (S.1 2 0 x1.toNatClampNeg).toInt64 = 0)) ((f_X8_ask ((y3 / (S.1 2 0 x1.toNatClampNeg).toInt64).toInt32) (1 : Int32) S).bind fun q12 => some (q12.1, q12.2)))))) 300 (nI r) (0 : Int64) (0 : Int32) M = if nI n = 0 then ((f_X8_meet (4 : Int32) M).bind fun q14 => some (q14.1, q14.2)) else (grd (decide (¬ (nI n).toInt64 = 0)) ((f_X8_ask ((sm (fun i => M.1 3 0 (40 * r + i)) n / (nI n).toInt64).toInt32) (1 : Int32) M).bind fun q12 => some (q12.1, q12.2))) := by
      refine eM.trans ?_
      rw [ixb_nI hr (by decide), grd_t, grd_t, cl_nI (by omega), y3]
    rw [eM2]
    by_cases c : n = 0
    · subst c
      obtain ⟨S', M', e1, e2, e3⟩ := h.refuse (k := 4) (by omega) (by omega)
      refine ⟨-3, S', M', ?_, ?_, e3⟩
      · show (if nI 0 = 0 then _ else _) = _
        rw [if_pos (by rfl), n9 4]
        show Option.bind (f_X7_refuse (nI 4) S) _ = _
        rw [e1, obind]
      · rw [if_pos (by rfl), n9 4, e2, obind]
    · have ne : ¬ nI n = 0 := nI_ne0 (by omega) (by omega)
      have ne6 : ¬ (nI n).toInt64 = 0 := by
        rw [nI_l (by omega)]
        exact fun q => c ((pk_lEQ (b := 0) (by omega) (by omega)).mp q)
      refine ⟨1, put S 62 0 0 ((sm (S.1 20 r) n / (nI n).toInt64).toInt32), put M 0 2 0 ((sm (S.1 20 r) n / (nI n).toInt64).toInt32), ?_, ?_, h.ask _⟩
      · show (if nI n = 0 then _ else ((f_X6_sumOf 0 (nI r) S).bind _)) = _
        rw [if_neg ne]
        unfold f_X6_sumOf
        have e := sum_loopC (S := S) hr hn y2 n 0 300 (by omega) (by omega)
        rw [show (0 : Int64) = sm (S.1 20 r) 0 from rfl, n9 0, e, obind]
        show grd (decide (¬ (nI n).toInt64 = 0)) _ = _
        rw [decide_eq_true ne6, grd_t]
      · rw [if_neg ne, decide_eq_true ne6, grd_t]
        unfold f_X8_ask
        rw [obind, sm_congr n (fun j hj => y4 j hj)]
/-- a change of one text on both sides -/
theorem Rel.text {S S' M M' : Stt} (h : Rel S M) {r : Nat} (hr : r < 4) (hS : ∀ F a j, ¬ (F = 21 ∧ a = r) → ¬ (F = 19 ∧ a = 1 ∧ j = r) → S'.1 F a j = S.1 F a j) (hM : ∀ F a j, ¬ (F = 6 ∧ a = 0 ∧ 80 * r ≤ j ∧ j < 80 * r + 80) → ¬ (F = 5 ∧ a = 0 ∧ j = r) → M'.1 F a j = M.1 F a j) (h2 : S'.2 = S.2) (h3 : M'.2 = M.2)
    (hn : (S'.1 19 1 r = -1 ∧ M'.1 5 0 r = -9) ∨ ∃ n, n ≤ 80 ∧ S'.1 19 1 r = nI n ∧ M'.1 5 0 r = nI n ∧ ∀ i, i < n → S'.1 21 r i = M'.1 6 0 (80 * r + i)) (hb : ByR M') : Rel S' M' := by
  obtain ⟨a, b, c, d, e, f, g⟩ := h
  refine ⟨a.frame (fun F x i q => hS _ _ _ (by omega) (by omega)) h2 (hM _ _ _ (by omega) (by omega)) (hM _ _ _ (by omega) (by omega)) (fun i => hM _ _ _ (by omega) (by omega)) (by rw [h3]) (by rw [h3]), b.frame (fun q => hS _ _ _ (by omega) (by omega)) (fun q i => hS _ _ _ (by omega) (by omega)) (fun q => hM _ _ _ (by omega) (by omega)) (fun i => hM _ _ _ (by omega) (by omega)), ?_, hb, e.frame (fun F i q1 q2 => hS _ _ _ (by omega) (by omega)) (hM _ _ _ (by omega) (by omega)) (fun F i q1 q2 => hM _ _ _ (by omega) (by omega)), fun k hk => (f k hk).frame (fun F i q1 q2 => hS _ _ _ (by omega) (by omega)) (fun i => hM _ _ _ (by omega) (by omega)), ?_⟩
  · intro q hq
    by_cases cq : q = r
    · subst cq
      exact hn
    · rcases c q hq with ⟨y1, y2⟩ | ⟨n, y1, y2, y3, y4⟩
      · exact Or.inl ⟨by rw [hS _ _ _ (by omega) (by omega)]; exact y1, by rw [hM _ _ _ (by omega) (by omega)]; exact y2⟩
      · exact Or.inr ⟨n, y1, by rw [hS _ _ _ (by omega) (by omega)]; exact y2, by rw [hM _ _ _ (by omega) (by omega)]; exact y3, fun i hi => by rw [hS _ _ _ (by omega) (by omega), hM _ _ _ (by omega) (by omega)]; exact y4 i hi⟩
  · rw [hM _ _ _ (by omega) (by omega)]; exact g
theorem sim_text (x1 x2 : Int32) : SimI (f_X7_text x1 x2) (f_X8_text x1 x2) := by
  intro S M h
  unfold f_X7_text f_X8_text
  rcases ix3 x1 (n := 4) (by omega) with h1 | h1 | ⟨r, hr, rfl⟩
  · exact ⟨-1, S, M, by rw [isOne_no (z := 1) (Or.inl h1.1), obind, if_pos rfl], by rw [isText_no (no03 (Or.inl h1)), obind, if_pos rfl], h⟩
  · exact ⟨-1, S, M, by rw [isOne_no (z := 1) (Or.inr h1.1), obind, if_pos rfl], by rw [isText_no (no03 (Or.inr h1)), obind, if_pos rfl], h⟩
  · rw [isOne_yes (z := 1) hr, obind, if_neg n10, isText_yes hr, obind, if_neg n10]
    by_cases c1 : x2 ≤ 80
    · rw [if_pos c1, if_pos c1]
      by_cases c2 : 0 ≤ x2
      · rw [if_pos c2, if_pos c2]
        obtain ⟨n, hn, rfl⟩ : ∃ n : Nat, n ≤ 80 ∧ x2 = nI n := nI_of2 (M := 80) (by decide) (by
          intro q
          exact nI_n0 q c2) c1
        obtain ⟨S', e1, e2, e3, e4, e5⟩ := make_eq (z := 1) (r := r) (n := n) hr hn 32 S
        obtain ⟨M', d1, d2, d3, d4, d5⟩ := mtext_loop hr (nI n) 80 0 300 (put M 5 0 r (nI n)) (by omega) (by omega)
        refine ⟨nI n, S', M', ?_, ?_, h.text hr (fun F a j q1 q2 => e2 F a j q1 q2) (fun F a j q1 q2 => ?_) e5 (d5.trans rfl) (Or.inr ⟨n, hn, e3, ?_, fun i hi => ?_⟩) (fun i hi => ?_)⟩
        · rw [e1, obind]
        · rw [ixb_nI hr (by omega), grd_t, cl_nI (by omega)]
          exact d1
        · rw [d2 F a j q1, put_at, if_neg q2]
        · rw [d2 5 0 r (by omega), put_at, if_pos ⟨rfl, rfl, rfl⟩]
        · rw [e4 i hi, d3 i (Nat.zero_le _) (by omega)]
        · by_cases q : 80 * r ≤ i ∧ i < 80 * r + 80
          · have := d3 (i - 80 * r) (Nat.zero_le _) (by omega)
            rw [show 80 * r + (i - 80 * r) = i by omega] at this
            rw [this]
            decide
          · rw [d2 6 0 i (by omega), put_at, if_neg (by omega)]
            exact h.2.2.2.1 i hi
      · obtain ⟨S', M', e1, e2, e3⟩ := h.refuse (k := 5) (by omega) (by omega)
        exact ⟨-3, S', M', by rw [if_neg c2, n9 5, e1, obind], by rw [if_neg c2, n9 5, e2, obind], e3⟩
    · exact ⟨-1, S, M, by rw [if_neg c1], by rw [if_neg c1], h⟩
theorem i8_i8 (x : Int32) : x.toInt8.toInt32.toInt8.toInt32 = x.toInt8.toInt32 := by simp
theorem sim_put (x1 x2 x3 : Int32) : SimI (f_X7_put x1 x2 x3) (f_X8_put x1 x2 x3) := by
  intro S M h
  unfold f_X7_put f_X8_put
  rcases text3 h x1 with ⟨a1, a2, a3⟩ | ⟨r, hr, rfl, y1, y2⟩ | ⟨r, n, hr, rfl, hn, y2, y3, y4⟩
  · exact ⟨-1, S, M, by rw [a1, obind, if_pos rfl], by rw [a3, obind, if_neg nn1], h⟩
  · obtain ⟨S', M', e1, e2, e3⟩ := h.refuse (k := 1) (by omega) (by omega)
    exact ⟨-3, S', M', by rw [isOne_yes (z := 1) hr, obind, if_neg n10, there_no (z := 1) hr y1, obind, if_pos rfl, n9 1, e1, obind], by rw [askedText_gone hr y2 e2, obind, if_neg nn3], e3⟩
  · rw [isOne_yes (z := 1) hr, obind, if_neg n10, there_yes (z := 1) hr y2 (by omega), obind, if_neg n10, askedText_there hr y3 (by omega), obind, if_pos p00]
    rcases place3 x2 (n := n) (by omega) with ⟨p1, p2⟩ | ⟨i, hi, rfl, p1, p2, p3⟩
    · obtain ⟨S', M', e1, e2, e3⟩ := h.refuse (k := 2) (by omega) (by omega)
      refine ⟨-3, S', M', ?_, ?_, e3⟩
      · rw [place_no (z := 1) hr y2 p1, obind, if_pos rfl, n9 2, e1, obind]
      · rw [ixb_nI hr (by omega), grd_t, cl_nI (by omega), y3, in_eq, if_neg p2, obind, if_pos rfl, n9 2, e2, obind]
    · refine ⟨S.1 21 r i + 1000, put S 21 r i x3.toInt8.toInt32, put M 6 0 (80 * r + i) x3.toInt8.toInt32, ?_, ?_, h.text hr (fun F a j q1 q2 => ?_) (fun F a j q1 q2 => ?_) rfl rfl (Or.inr ⟨n, hn, ?_, ?_, fun j hj => ?_⟩) (fun j hj => ?_)⟩
      · rw [place_yes (z := 1) hr y2 p1 p2, obind, if_neg n10, placeOf_eq (z := 1) hr (show i < 80 by omega), obind, write_eq (z := 1) hr (show i < 80 by omega), obind]
      · rw [ixb_nI hr (by omega), grd_t, cl_nI (by omega), y3, in_eq, if_pos p3, obind, if_neg n10, ix80 hr (by omega), ixb_nI (by omega) (by omega), grd_t, grd_t, cl_nI (by omega), y4 i hi]
      · rw [put_at, if_neg (fun q => q1 ⟨q.1, q.2.1⟩)]
      · rw [put_at, if_neg (fun q => q1 ⟨q.1, q.2.1, by omega, by omega⟩)]
      · rw [put_at, if_neg (by omega)]; exact y2
      · rw [put_at, if_neg (by omega)]; exact y3
      · by_cases c : j = i
        · subst c
          simp [put_at]
        · simp [put_at, c, y4 j hj]
      · rw [put_at]
        by_cases c : (6 : Nat) = 6 ∧ (0 : Nat) = 0 ∧ j = 80 * r + i
        · rw [if_pos c]; exact i8_i8 x3
        · rw [if_neg c]; exact h.2.2.2.1 j hj
/-! copy -/
theorem arePlaces_eq {S : Stt} {r n : Nat} (hr : r < 6) (hn : n ≤ 40) (y2 : S.1 19 0 r = nI n) {x5 : Int32} (h5 : 0 ≤ x5.toInt) (x2 : Int32) : f_X6_arePlaces 0 (nI r) x2 x5 S = some (if 0 ≤ x2.toInt ∧ x2.toInt + x5.toInt ≤ n then 1 else 0, S) := by
  have z : (0 : Int32).toInt = 0 := by decide
  have l5 := x5.toInt_lt
  have e : (nI n - x5).toInt = n - x5.toInt := by
    rw [Int32.toInt_sub, nI_toInt (by omega)]
    exact Int.bmod_eq_of_le (by omega) (by omega)
  unfold f_X6_arePlaces
  rw [ixb_nI (n := shl 0) hr (by decide), grd_t, cl_nI (by omega), y2]
  by_cases c1 : x2 < 0
  · rw [if_pos c1, if_neg]
    rw [Int32.lt_iff_toInt_lt, z] at c1
    omega
  · rw [if_neg c1]
    rw [Int32.lt_iff_toInt_lt, z] at c1
    by_cases c2 : nI n - x5 < x2
    · rw [if_pos c2, if_neg]
      rw [Int32.lt_iff_toInt_lt, e] at c2
      omega
    · rw [if_neg c2, if_pos]
      rw [Int32.lt_iff_toInt_lt, e] at c2
      omega
theorem copyA {r i n : Nat} (hr : r < 6) (hi : i + n ≤ 40) (ke : Int32 → Int32 → Int32 → Stt → Option (Int32 × Stt)) (x3 x4 : Int32) : ∀ (k q fuel : Nat) (M : Stt), q + k = n → k < fuel → ∃ M', fl_X8_copy_104 ke fuel (nI r) (nI i) x3 x4 (nI n) (nI q) M = ke x3 x4 (nI n) M' ∧ (∀ F a y, ¬ F = 4 → M'.1 F a y = M.1 F a y) ∧ M'.2 = M.2 ∧ (∀ y, q ≤ y → y < n → M'.1 4 0 y = M.1 3 0 (40 * r + (i + y))) ∧ ∀ y, y < q → M'.1 4 0 y = M.1 4 0 y := by
  intro k
  induction k with
  | zero =>
    intro q fuel M h1 h2
    obtain ⟨g, rfl⟩ : ∃ g, fuel = g + 1 := ⟨fuel - 1, by omega⟩
    refine ⟨M, ?_, fun _ _ _ _ => rfl, rfl, fun y q1 q2 => absurd q2 (by omega), fun _ _ => rfl⟩
    rw [fls_X8_copy_104]
    unfold fb_X8_copy_104
    rw [nI_ifle (by omega) (by omega), if_pos (by omega)]
  | succ k ih =>
    intro q fuel M h1 h2
    obtain ⟨g, rfl⟩ : ∃ g, fuel = g + 1 := ⟨fuel - 1, by omega⟩
    obtain ⟨M', e1, e2, e3, e4, e5⟩ := ih (q + 1) g (put M 4 0 q (M.1 3 0 (40 * r + (i + q)))) (by omega) (by omega)
    refine ⟨M', ?_, fun F a y hF => ?_, e3.trans rfl, fun y q1 q2 => ?_, fun y q1 => ?_⟩
    · rw [fls_X8_copy_104]
      unfold fb_X8_copy_104
      rw [nI_ifle (by omega) (by omega), if_neg (by omega), nI_add, rowAt_eq hr (by omega), obind, ixb_nI (show q < 40 by omega) (by omega), grd_t, cl_nI (by omega), nI_1]
      exact e1
    · rw [e2 F a y hF, put_at, if_neg (fun z => hF z.1)]
    · by_cases c : y = q
      · subst c
        rw [e5 y (by omega), put_at, if_pos ⟨rfl, rfl, rfl⟩]
      · rw [e4 y (by omega) q2, put_at, if_neg (by omega)]
    · rw [e5 y (by omega), put_at, if_neg (by omega)]
theorem copyB {t j n : Nat} (ht : t < 6) (hj : j + n ≤ 40) : ∀ (k q fuel : Nat) (M : Stt), q + k = n → k < fuel → ∃ M', fl_X8_copy_136 (fun S => some ((1 : Int32), S)) fuel (nI t) (nI j) (nI n) (nI q) M = some (1, M') ∧ (∀ F a y, ¬ (F = 3 ∧ a = 0 ∧ 40 * t + j + q ≤ y ∧ y < 40 * t + j + n) → M'.1 F a y = M.1 F a y) ∧ M'.2 = M.2 ∧ (∀ y, q ≤ y → y < n → M'.1 3 0 (40 * t + j + y) = M.1 4 0 y) := by
  intro k
  induction k with
  | zero =>
    intro q fuel M h1 h2
    obtain ⟨g, rfl⟩ : ∃ g, fuel = g + 1 := ⟨fuel - 1, by omega⟩
    refine ⟨M, ?_, fun _ _ _ _ => rfl, rfl, fun y q1 q2 => absurd q2 (by omega)⟩
    rw [fls_X8_copy_136]
    unfold fb_X8_copy_136
    rw [nI_ifle (by omega) (by omega), if_pos (by omega)]
  | succ k ih =>
    intro q fuel M h1 h2
    obtain ⟨g, rfl⟩ : ∃ g, fuel = g + 1 := ⟨fuel - 1, by omega⟩
    obtain ⟨M', e1, e2, e3, e4⟩ := ih (q + 1) g (put M 3 0 (40 * t + (j + q)) (M.1 4 0 q)) (by omega) (by omega)
    refine ⟨M', ?_, fun F a y hF => ?_, e3.trans rfl, fun y q1 q2 => ?_⟩
    · rw [fls_X8_copy_136]
      unfold fb_X8_copy_136
      rw [nI_ifle (by omega) (by omega), if_neg (by omega), ixb_nI (show q < 40 by omega) (by omega), grd_t, nI_add, setRow_eq ht (by omega), obind, cl_nI (by omega), nI_1]
      exact e1
    · rw [e2 F a y (by omega), put_at, if_neg (by omega)]
    · by_cases c : y = q
      · subst c
        rw [e2 3 0 _ (by omega), put_at, if_pos ⟨rfl, rfl, by omega⟩]
      · rw [e4 y (by omega) q2, put_at, if_neg (by omega)]
theorem lgt {x5 x2 : Int32} {n : Nat} (hn : n ≤ 40) : (0 < lg_cmp (x2.toInt64 + x5.toInt64) (nI n).toInt64) ↔ ¬ x2.toInt + x5.toInt ≤ n := by
  rw [lg_cmp_gt, Int64.lt_iff_toInt_lt, lg_i2l_add, Int32.toInt_toInt64, nI_toInt (by omega)]
  omega
theorem lgl {x5 x2 : Int32} {n : Nat} (hn : n ≤ 40) : (lg_cmp (x2.toInt64 + x5.toInt64) (nI n).toInt64 ≤ 0) ↔ x2.toInt + x5.toInt ≤ n := by
  rw [lg_cmp_le, Int64.le_iff_toInt_le, lg_i2l_add, Int32.toInt_toInt64, nI_toInt (by omega)]
theorem bid {α : Type} (o : Option (Int32 × α)) : (o.bind fun q => some (q.1, q.2)) = o := by cases o <;> rfl
theorem copy_C {S : Stt} {r t n n2 : Nat} {x2 x4 x5 : Int32} (hr : r < 6) (ht : t < 6) (hn : n ≤ 40) (hn2 : n2 ≤ 40) (y2 : S.1 19 0 r = nI n) (z2 : S.1 19 0 t = nI n2) (c5 : 0 ≤ x5) (h5 : 0 ≤ x5.toInt) : f_X7_copy (nI r) x2 (nI t) x4 x5 S = if (0 ≤ x2.toInt ∧ x2.toInt + x5.toInt ≤ n) ∧ (0 ≤ x4.toInt ∧ x4.toInt + x5.toInt ≤ n2) then ((f_X6_carry 0 (nI r) x2 (nI t) x4 x5 S).bind fun q24 => some ((1 : Int32), q24)) else f_X7_refuse (2 : Int32) S := by
  unfold f_X7_copy
  rw [isOne_yes (z := 0) hr, obind, if_neg n10, isOne_yes (z := 0) ht, obind, if_neg n10, if_pos c5, there_yes (z := 0) hr y2 (by omega), obind, if_neg n10, there_yes (z := 0) ht z2 (by omega), obind, if_neg n10, arePlaces_eq hr hn y2 h5, obind]
  by_cases d1 : 0 ≤ x2.toInt ∧ x2.toInt + x5.toInt ≤ n
  · rw [if_pos d1, if_neg n10, arePlaces_eq ht hn2 z2 h5, obind]
    by_cases d2 : 0 ≤ x4.toInt ∧ x4.toInt + x5.toInt ≤ n2
    · rw [if_pos d2, if_neg n10, if_pos ⟨d1, d2⟩]
    · rw [if_neg d2, if_pos rfl, if_neg (fun q => d2 q.2), bid]
  · rw [if_neg d1, if_pos rfl, if_neg (fun q => d1 q.1), bid]
theorem copy_M {M : Stt} {r t n n2 : Nat} {x2 x4 x5 : Int32} (hr : r < 6) (ht : t < 6) (hn : n ≤ 40) (hn2 : n2 ≤ 40) (y3 : M.1 2 0 r = nI n) (z3 : M.1 2 0 t = nI n2) (c5 : 0 ≤ x5) : f_X8_copy (nI r) x2 (nI t) x4 x5 M = if (0 ≤ x2.toInt ∧ x2.toInt + x5.toInt ≤ n) ∧ (0 ≤ x4.toInt ∧ x4.toInt + x5.toInt ≤ n2) then (fl_X8_copy_104 (fun x3 x4 x5 S => fl_X8_copy_136 (fun S => some ((1 : Int32), S)) 300 x3 x4 x5 (0 : Int32) S) 300 (nI r) x2 (nI t) x4 x5 (0 : Int32) M) else (f_X8_meet (2 : Int32) M) := by
  have z : (0 : Int32).toInt = 0 := by decide
  unfold f_X8_copy
  rw [isRow_yes hr, obind, if_neg n10, isRow_yes ht, obind, if_neg n10, if_pos c5]
  dsimp only
  rw [ixb_nI hr (by omega), grd_t, cl_nI (show r < 2 ^ 31 by omega), y3, if_neg (nI_pos (by omega)), ixb_nI ht (by omega), grd_t, cl_nI (show t < 2 ^ 31 by omega), z3, if_pos (nI_pos' (by omega)), grd_t, grd_t, bid]
  by_cases d1 : x2 < 0
  · rw [if_pos d1, if_neg]
    rw [Int32.lt_iff_toInt_lt, z] at d1
    omega
  · rw [if_neg d1]
    rw [Int32.lt_iff_toInt_lt, z] at d1
    by_cases d2 : x4 < 0
    · rw [if_pos d2, if_neg]
      rw [Int32.lt_iff_toInt_lt, z] at d2
      omega
    · rw [if_neg d2]
      rw [Int32.lt_iff_toInt_lt, z] at d2
      by_cases d3 : x2.toInt + x5.toInt ≤ n
      · rw [if_neg (fun q => (lgt hn).mp q d3)]
        by_cases d4 : x4.toInt + x5.toInt ≤ n2
        · rw [if_pos ((lgl hn2).mpr d4), if_pos (by omega)]
        · rw [if_neg (fun q => d4 ((lgl hn2).mp q)), if_neg (by omega)]
      · rw [if_pos ((lgt hn).mpr d3), if_neg (by omega)]
theorem i_nat {x : Int32} (h : 0 ≤ x.toInt) : ∃ k : Nat, k < 2 ^ 31 ∧ x = nI k ∧ x.toInt = k := by
  obtain ⟨k, hk, rfl⟩ := nI_of (x := x) (by rw [Int32.lt_iff_toInt_lt, show (0 : Int32).toInt = 0 from by decide]; omega)
  exact ⟨k, hk, rfl, nI_toInt hk⟩
theorem carry_eq {S : Stt} {r t i j n : Nat} (hr : r < 6) (ht : t < 6) (hi : i + n ≤ 40) (hj : j + n ≤ 40) : f_X6_carry 0 (nI r) (nI i) (nI t) (nI j) (nI n) S = some (putA S 20 t (va_cpy (S.1 20 r) (S.1 20 t) i j n)) := by
  unfold f_X6_carry
  rw [ixb_nI (n := shl 0) hr (by decide), grd_t, ixb_nI (n := shl 0) ht (by decide), grd_t, cl_nI (by omega), cl_nI (by omega), cl_nI (by omega), cl_nI (by omega), cl_nI (by omega)]
  have e : cpb (nI i) (nI j) (nI n) (pll 0) (pll 0) = true := by
    unfold cpb
    rw [cl_nI (by omega), cl_nI (by omega), cl_nI (by omega)]
    exact decide_eq_true ⟨nI_pos (by omega), nI_pos (by omega), nI_pos (by omega), hi, hj⟩
  rw [e, grd_t]
theorem sim_copy (x1 x2 x3 x4 x5 : Int32) : SimI (f_X7_copy x1 x2 x3 x4 x5) (f_X8_copy x1 x2 x3 x4 x5) := by
  intro S M h
  have z : (0 : Int32).toInt = 0 := by decide
  rcases ix3 x1 (n := 6) (by omega) with h1 | h1 | ⟨r, hr, rfl⟩
  · unfold f_X7_copy f_X8_copy
    exact ⟨-1, S, M, by rw [isOne_no (z := 0) (Or.inl h1.1), obind, if_pos rfl], by rw [isRow_no (no05 (Or.inl h1)), obind, if_pos rfl], h⟩
  · unfold f_X7_copy f_X8_copy
    exact ⟨-1, S, M, by rw [isOne_no (z := 0) (Or.inr h1.1), obind, if_pos rfl], by rw [isRow_no (no05 (Or.inr h1)), obind, if_pos rfl], h⟩
  rcases ix3 x3 (n := 6) (by omega) with h1 | h1 | ⟨t, ht, rfl⟩
  · unfold f_X7_copy f_X8_copy
    rw [isOne_yes (z := 0) hr, obind, if_neg n10, isRow_yes hr, obind, if_neg n10]
    exact ⟨-1, S, M, by rw [isOne_no (z := 0) (Or.inl h1.1), obind, if_pos rfl], by rw [isRow_no (no05 (Or.inl h1)), obind, if_pos rfl], h⟩
  · unfold f_X7_copy f_X8_copy
    rw [isOne_yes (z := 0) hr, obind, if_neg n10, isRow_yes hr, obind, if_neg n10]
    exact ⟨-1, S, M, by rw [isOne_no (z := 0) (Or.inr h1.1), obind, if_pos rfl], by rw [isRow_no (no05 (Or.inr h1)), obind, if_pos rfl], h⟩
  by_cases c5 : ¬ 0 ≤ x5
  · unfold f_X7_copy f_X8_copy
    rw [isOne_yes (z := 0) hr, obind, if_neg n10, isRow_yes hr, obind, if_neg n10, isOne_yes (z := 0) ht, obind, if_neg n10, isRow_yes ht, obind, if_neg n10]
    obtain ⟨S', M', e1, e2, e3⟩ := h.refuse (k := 5) (by omega) (by omega)
    exact ⟨-3, S', M', by rw [if_neg c5, n9 5, e1, obind], by rw [if_neg c5, n9 5, e2, obind], e3⟩
  have c5 : 0 ≤ x5 := Classical.not_not.mp c5
  have h5 : 0 ≤ x5.toInt := by rw [Int32.le_iff_toInt_le, z] at c5; exact c5
  rcases h.2.1 r hr with ⟨y1, y2⟩ | ⟨n, hn, y2, y3, y4⟩
  · unfold f_X7_copy f_X8_copy
    rw [isOne_yes (z := 0) hr, obind, if_neg n10, isRow_yes hr, obind, if_neg n10, isOne_yes (z := 0) ht, obind, if_neg n10, isRow_yes ht, obind, if_neg n10, if_pos c5, if_pos c5]
    obtain ⟨S', M', e1, e2, e3⟩ := h.refuse (k := 1) (by omega) (by omega)
    refine ⟨-3, S', M', by rw [there_no (z := 0) hr y1, obind, if_pos rfl, n9 1, e1, obind], ?_, e3⟩
    dsimp only
    rw [ixb_nI hr (by omega), grd_t, cl_nI (show r < 2 ^ 31 by omega), y2, if_pos neg9, n9 1, e2, obind]
  rcases h.2.1 t ht with ⟨y5, y6⟩ | ⟨n2, hn2, z2, z3, z4⟩
  · unfold f_X7_copy f_X8_copy
    rw [isOne_yes (z := 0) hr, obind, if_neg n10, isRow_yes hr, obind, if_neg n10, isOne_yes (z := 0) ht, obind, if_neg n10, isRow_yes ht, obind, if_neg n10, if_pos c5, if_pos c5, there_yes (z := 0) hr y2 (by omega), obind, if_neg n10]
    obtain ⟨S', M', e1, e2, e3⟩ := h.refuse (k := 1) (by omega) (by omega)
    refine ⟨-3, S', M', by rw [there_no (z := 0) ht y5, obind, if_pos rfl, n9 1, e1, obind], ?_, e3⟩
    dsimp only
    rw [ixb_nI hr (by omega), grd_t, cl_nI (show r < 2 ^ 31 by omega), y3, if_neg (nI_pos (by omega)), ixb_nI ht (by omega), grd_t, cl_nI (show t < 2 ^ 31 by omega), y6, if_neg (by decide), n9 1, e2, obind]
  rw [copy_C hr ht hn hn2 y2 z2 c5 h5, copy_M hr ht hn hn2 y3 z3 c5]
  by_cases d : (0 ≤ x2.toInt ∧ x2.toInt + x5.toInt ≤ n) ∧ (0 ≤ x4.toInt ∧ x4.toInt + x5.toInt ≤ n2)
  · rw [if_pos d, if_pos d]
    obtain ⟨i, hi, rfl, ei⟩ := i_nat d.1.1
    obtain ⟨j, hj, rfl, ej⟩ := i_nat d.2.1
    obtain ⟨w, hw, rfl, ew⟩ := i_nat h5
    rw [ei, ej, ew] at d
    obtain ⟨M1, a1, a2, a3, a4, a5⟩ := copyA (r := r) (i := i) (n := w) hr (by omega) (fun x3 x4 x5 S => fl_X8_copy_136 (fun S => some ((1 : Int32), S)) 300 x3 x4 x5 (0 : Int32) S) (nI t) (nI j) w 0 300 M (by omega) (by omega)
    obtain ⟨M2, b1, b2, b3, b4⟩ := copyB (t := t) (j := j) (n := w) ht (by omega) w 0 300 M1 (by omega) (by omega)
    refine ⟨1, putA S 20 t (va_cpy (S.1 20 r) (S.1 20 t) i j w), M2, ?_, ?_, h.row ht (fun F a y q1 q2 => ?_) (fun F a y q1 q2 q3 => ?_) rfl (b3.trans a3) (Or.inr ⟨n2, hn2, ?_, ?_, fun y hy => ?_⟩)⟩
    · rw [carry_eq hr ht (by omega) (by omega), obind]
    · exact a1.trans b1
    · rw [putA_at, if_neg q1]
    · rw [b2 F a y (by omega), a2 F a y q3]
    · rw [putA_at, if_neg (by omega)]; exact z2
    · rw [b2 2 0 t (by omega), a2 2 0 t (by omega)]; exact z3
    · rw [putA_at, if_pos ⟨rfl, rfl⟩]
      by_cases c : j ≤ y ∧ y < j + w
      · rw [pk_cpy_in c.1 c.2, y4 _ (by omega)]
        have e := b4 (y - j) (by omega) (by omega)
        rw [show 40 * t + j + (y - j) = 40 * t + y by omega, a4 (y - j) (by omega) (by omega)] at e
        rw [e]
      · rw [pk_cpy_out (by omega), z4 y hy, b2 3 0 _ (by omega), a2 3 0 _ (by omega)]
  · rw [if_neg d, if_neg d]
    obtain ⟨S', M', e1, e2, e3⟩ := h.refuse (k := 2) (by omega) (by omega)
    exact ⟨-3, S', M', e1, e2, e3⟩
