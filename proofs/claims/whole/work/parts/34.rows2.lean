/-! lay, at, tear, mean, text, put -/
theorem askedRow_no {x : Int32} (h : ¬ (0 ≤ x ∧ x ≤ 5)) (M : Stt) : f_X8_askedRow x M = some (-1, M) := by
  unfold f_X8_askedRow
  rw [isRow_no h, obind, if_pos rfl]
theorem askedRow_gone {r : Nat} (hr : r < 6) {M M' : Stt} (h : M.1 2 0 r = -9) (e : f_X8_meet (nI 1) M = some (-3, M')) : f_X8_askedRow (nI r) M = some (-3, M') := by
  unfold f_X8_askedRow
  rw [isRow_yes hr, obind, if_neg n10, ixb_nI hr (by omega), grd_t, cl_nI (by omega), h, if_neg (by decide), n9 1, e, obind]
theorem askedRow_there {r n : Nat} (hr : r < 6) {M : Stt} (h : M.1 2 0 r = nI n) (hn : n < 2 ^ 31) : f_X8_askedRow (nI r) M = some (0, M) := by
  unfold f_X8_askedRow
  rw [isRow_yes hr, obind, if_neg n10, ixb_nI hr (by omega), grd_t, cl_nI (by omega), h, if_pos (nI_pos' hn)]
theorem askedText_no {x : Int32} (h : ¬ (0 ≤ x ∧ x ≤ 3)) (M : Stt) : f_X8_askedText x M = some (-1, M) := by
  unfold f_X8_askedText
  rw [isText_no h, obind, if_pos rfl]
theorem askedText_gone {r : Nat} (hr : r < 4) {M M' : Stt} (h : M.1 5 0 r = -9) (e : f_X8_meet (nI 1) M = some (-3, M')) : f_X8_askedText (nI r) M = some (-3, M') := by
  unfold f_X8_askedText
  rw [isText_yes hr, obind, if_neg n10, ixb_nI hr (by omega), grd_t, cl_nI (by omega), h, if_neg (by decide), n9 1, e, obind]
theorem askedText_there {r n : Nat} (hr : r < 4) {M : Stt} (h : M.1 5 0 r = nI n) (hn : n < 2 ^ 31) : f_X8_askedText (nI r) M = some (0, M) := by
  unfold f_X8_askedText
  rw [isText_yes hr, obind, if_neg n10, ixb_nI hr (by omega), grd_t, cl_nI (by omega), h, if_pos (nI_pos' hn)]
/-- a place of a row of n: below 0, behind the end, or one -/
theorem place3 (x : Int32) {n : Nat} (hn : n < 2 ^ 30) : ((x < 0 ∨ nI n ≤ x) ∧ ¬ (0 ≤ x ∧ x ≤ nI n - 1)) ∨ ∃ i, i < n ∧ x = nI i ∧ ¬ x < 0 ∧ ¬ nI n ≤ x ∧ (0 ≤ x ∧ x ≤ nI n - 1) := by
  have e : (nI n - 1).toInt = (n : Int) - 1 := by
    rw [n9 1]
    exact pk_sub_toInt (b := 1) hn (by omega)
  rcases ix3 x (n := n) (by omega) with h | h | ⟨i, hi, rfl⟩
  · exact Or.inl ⟨Or.inl h.1, fun q => h.2 q.1⟩
  · refine Or.inl ⟨Or.inr h.1, fun q => ?_⟩
    have h1 := h.1
    have h2 := q.2
    rw [Int32.le_iff_toInt_le, nI_toInt (by omega)] at h1
    rw [Int32.le_iff_toInt_le, e] at h2
    omega
  · refine Or.inr ⟨i, hi, rfl, nI_pos (by omega), nI_ge hi (by omega), nI_pos' (by omega), ?_⟩
    rw [Int32.le_iff_toInt_le, e, nI_toInt (by omega)]
    omega
theorem there_no {S : Stt} {z r : Nat} (hr : r < shl z) (h : S.1 19 z r = -1) : f_X6_isThere z (nI r) S = some (0, S) := by
  rw [isThere_eq hr, if_pos h]
theorem there_yes {S : Stt} {z r n : Nat} (hr : r < shl z) (h : S.1 19 z r = nI n) (hn : n < 2 ^ 31) : f_X6_isThere z (nI r) S = some (1, S) := by
  rw [isThere_eq hr, if_neg (by rw [h]; exact nI_ne_neg hn neg1)]
theorem place_no {S : Stt} {z r n : Nat} {x : Int32} (hr : r < shl z) (h : S.1 19 z r = nI n) (hx : x < 0 ∨ nI n ≤ x) : f_X6_isPlace z (nI r) x S = some (0, S) := by
  rw [isPlace_eq hr, h]
  rcases hx with hx | hx
  · rw [if_pos hx]
  · rw [if_pos hx]
    split <;> rfl
theorem place_yes {S : Stt} {z r n : Nat} {x : Int32} (hr : r < shl z) (h : S.1 19 z r = nI n) (h1 : ¬ x < 0) (h2 : ¬ nI n ≤ x) : f_X6_isPlace z (nI r) x S = some (1, S) := by
  rw [isPlace_eq hr, h, if_neg h1, if_neg h2]
/-- the three ways of at, on both sides: kept for lay -/
theorem at_sim {S M : Stt} (h : Rel S M) (x1 x2 : Int32) : (∃ r S' M', r < 0 ∧ f_X7_at x1 x2 S = some (r, S') ∧ f_X8_at x1 x2 M = some (r, M') ∧ Rel S' M' ∧ ∀ x3, f_X7_lay x1 x2 x3 S = some (r, S')) ∨
    ∃ r i n v, r < 6 ∧ x1 = nI r ∧ n ≤ 40 ∧ i < n ∧ x2 = nI i ∧ S.1 19 0 r = nI n ∧ M.1 2 0 r = nI n ∧ (∀ i, i < n → S.1 20 r i = M.1 3 0 (40 * r + i)) ∧ f_X7_at x1 x2 S = some (1, put S 62 0 0 v) ∧ f_X8_at x1 x2 M = some (1, put M 0 2 0 v) ∧ ∀ x3, f_X7_lay x1 x2 x3 S = some (1, put (put S 62 0 0 v) 20 r i x3) := by
  rcases ix3 x1 (n := 6) (by omega) with h1 | h1 | ⟨r, hr, rfl⟩
  · refine Or.inl ⟨-1, S, M, by decide, ?_, ?_, h, fun x3 => ?_⟩
    · unfold f_X7_at
      rw [isOne_no (z := 0) (Or.inl h1.1), obind, if_pos rfl]
    · unfold f_X8_at
      rw [askedRow_no (no05 (Or.inl h1)), obind, if_neg nn1]
    · unfold f_X7_lay
      rw [isOne_no (z := 0) (Or.inl h1.1), obind, if_pos rfl]
  · refine Or.inl ⟨-1, S, M, by decide, ?_, ?_, h, fun x3 => ?_⟩
    · unfold f_X7_at
      rw [isOne_no (z := 0) (Or.inr h1.1), obind, if_pos rfl]
    · unfold f_X8_at
      rw [askedRow_no (no05 (Or.inr h1)), obind, if_neg nn1]
    · unfold f_X7_lay
      rw [isOne_no (z := 0) (Or.inr h1.1), obind, if_pos rfl]
  · rcases h.2.1 r hr with ⟨y1, y2⟩ | ⟨n, y1, y2, y3, y4⟩
    · obtain ⟨S', M', e1, e2, e3⟩ := h.refuse (k := 1) (by omega) (by omega)
      refine Or.inl ⟨-3, S', M', by decide, ?_, ?_, e3, fun x3 => ?_⟩
      · unfold f_X7_at
        rw [isOne_yes (z := 0) hr, obind, if_neg n10, there_no (z := 0) hr y1, obind, if_pos rfl, n9 1, e1, obind]
      · unfold f_X8_at
        rw [askedRow_gone hr y2 e2, obind, if_neg nn3]
      · unfold f_X7_lay
        rw [isOne_yes (z := 0) hr, obind, if_neg n10, there_no (z := 0) hr y1, obind, if_pos rfl, n9 1, e1, obind]
    · rcases place3 x2 (n := n) (by omega) with ⟨p1, p2⟩ | ⟨i, hi, rfl, p1, p2, p3⟩
      · obtain ⟨S', M', e1, e2, e3⟩ := h.refuse (k := 2) (by omega) (by omega)
        refine Or.inl ⟨-3, S', M', by decide, ?_, ?_, e3, fun x3 => ?_⟩
        · unfold f_X7_at
          rw [isOne_yes (z := 0) hr, obind, if_neg n10, there_yes (z := 0) hr y2 (by omega), obind, if_neg n10, place_no (z := 0) hr y2 p1, obind, if_pos rfl, n9 2, e1, obind]
        · unfold f_X8_at
          rw [askedRow_there hr y3 (by omega), obind, if_pos p00, ixb_nI hr (by omega), grd_t, cl_nI (by omega), y3, in_eq, if_neg p2, obind, if_pos rfl, n9 2, e2, obind]
        · unfold f_X7_lay
          rw [isOne_yes (z := 0) hr, obind, if_neg n10, there_yes (z := 0) hr y2 (by omega), obind, if_neg n10, place_no (z := 0) hr y2 p1, obind, if_pos rfl, n9 2, e1, obind]
      · refine Or.inr ⟨r, i, n, S.1 20 r i, hr, rfl, y1, hi, rfl, y2, y3, y4, ?_, ?_, fun x3 => ?_⟩
        · unfold f_X7_at
          rw [isOne_yes (z := 0) hr, obind, if_neg n10, there_yes (z := 0) hr y2 (by omega), obind, if_neg n10, place_yes (z := 0) hr y2 p1 p2, obind, if_neg n10, placeOf_eq (z := 0) hr (show i < 40 by omega), obind]
        · unfold f_X8_at
          rw [askedRow_there hr y3 (by omega), obind, if_pos p00, ixb_nI hr (by omega), grd_t, cl_nI (by omega), y3, in_eq, if_pos p3, obind, if_neg n10, rowAt_eq hr (by omega), obind]
          unfold f_X8_ask
          rw [obind, y4 i hi]
        · unfold f_X7_lay
          rw [isOne_yes (z := 0) hr, obind, if_neg n10, there_yes (z := 0) hr y2 (by omega), obind, if_neg n10, place_yes (z := 0) hr y2 p1 p2, obind, if_neg n10, placeOf_eq (z := 0) hr (show i < 40 by omega), obind, write_eq (z := 0) hr (show i < 40 by omega), obind]
theorem sim_at (x1 x2 : Int32) : SimI (f_X7_at x1 x2) (f_X8_at x1 x2) := by
  intro S M h
  rcases at_sim h x1 x2 with ⟨r, S', M', -, e1, e2, e3, -⟩ | ⟨r, i, n, v, -, -, -, -, -, -, -, -, e1, e2, -⟩
  · exact ⟨r, S', M', e1, e2, e3⟩
  · exact ⟨1, _, _, e1, e2, h.ask v⟩
theorem sim_lay (x1 x2 x3 : Int32) : SimI (f_X7_lay x1 x2 x3) (f_X8_lay x1 x2 x3) := by
  intro S M h
  rcases at_sim h x1 x2 with ⟨r, S', M', h0, e1, e2, e3, e4⟩ | ⟨r, i, n, v, hr, rfl, hn, hi, rfl, y2, y3, y4, e1, e2, e4⟩
  · refine ⟨r, S', M', e4 x3, ?_, e3⟩
    unfold f_X8_lay
    rw [e2, obind, if_neg (nI_n0 h0)]
  · refine ⟨1, _, put (put M 0 2 0 v) 3 0 (40 * r + i) x3, e4 x3, ?_, (h.ask v).row (r := r) hr (fun F a j q1 q2 => ?_) (fun F a j q1 q2 q3 => ?_) rfl rfl (Or.inr ⟨n, hn, ?_, ?_, fun j hj => ?_⟩)⟩
    · unfold f_X8_lay
      rw [e2, obind, if_pos p01, setRow_eq hr (by omega), obind]
    · rw [put_at, if_neg (fun q => q1 ⟨q.1, q.2.1⟩)]
    · rw [put_at, if_neg (fun q => q1 ⟨q.1, q.2.1, by omega, by omega⟩)]
    · rw [put_at, if_neg (by omega), put_at, if_neg (by omega)]; exact y2
    · rw [put_at, if_neg (by omega), put_at, if_neg (by omega)]; exact y3
    · by_cases c : j = i
      · subst c
        simp [put_at]
      · simp [put_at, c, y4 j hj]
theorem sim_tear (x1 : Int32) : SimI (f_X7_tear x1) (f_X8_tear x1) := by
  intro S M h
  rcases ix3 x1 (n := 6) (by omega) with h1 | h1 | ⟨r, hr, rfl⟩
  · refine ⟨-1, S, M, ?_, ?_, h⟩
    · unfold f_X7_tear
      rw [isOne_no (z := 0) (Or.inl h1.1), obind, if_pos rfl]
    · unfold f_X8_tear
      rw [askedRow_no (no05 (Or.inl h1)), obind, if_neg nn1]
  · refine ⟨-1, S, M, ?_, ?_, h⟩
    · unfold f_X7_tear
      rw [isOne_no (z := 0) (Or.inr h1.1), obind, if_pos rfl]
    · unfold f_X8_tear
      rw [askedRow_no (no05 (Or.inr h1)), obind, if_neg nn1]
  · rcases h.2.1 r hr with ⟨y1, y2⟩ | ⟨n, y1, y2, y3, y4⟩
    · obtain ⟨S', M', e1, e2, e3⟩ := h.refuse (k := 1) (by omega) (by omega)
      refine ⟨-3, S', M', ?_, ?_, e3⟩
      · unfold f_X7_tear
        rw [isOne_yes (z := 0) hr, obind, if_neg n10, there_no (z := 0) hr y1, obind, if_pos rfl, n9 1, e1, obind]
      · unfold f_X8_tear
        rw [askedRow_gone hr y2 e2, obind, if_neg nn3]
    · refine ⟨1, put S 19 0 r (-1), put M 2 0 r (-9), ?_, ?_, h.row hr (fun F a j q1 q2 => ?_) (fun F a j q1 q2 q3 => ?_) rfl rfl (Or.inl ⟨?_, ?_⟩)⟩
      · unfold f_X7_tear
        rw [isOne_yes (z := 0) hr, obind, if_neg n10, there_yes (z := 0) hr y2 (by omega), obind, if_neg n10, drop_eq (z := 0) hr, obind]
      · unfold f_X8_tear
        rw [askedRow_there hr y3 (by omega), obind, if_pos p00, ixb_nI hr (by omega), grd_t, cl_nI (by omega)]
      · rw [put_at, if_neg q2]
      · rw [put_at, if_neg q2]
      · rw [put_at, if_pos ⟨rfl, rfl, rfl⟩]
      · rw [put_at, if_pos ⟨rfl, rfl, rfl⟩]
