/-! rows and texts: helpers of both sides -/
theorem isThere_eq {z j : Nat} (h : j < shl z) (S : Stt) : f_X6_isThere z (nI j) S = some (if S.1 19 z j = -1 then 0 else 1, S) := by
  have h2 := shl_le z
  unfold f_X6_isThere
  rw [ixb_nI h (by omega), grd_t, cl_nI (by omega)]
  by_cases c : S.1 19 z j = -1
  · rw [if_pos c, if_pos c]
  · rw [if_neg c, if_neg c]
theorem isPlace_eq {z j : Nat} (h : j < shl z) (x : Int32) (S : Stt) : f_X6_isPlace z (nI j) x S = some (if x < 0 then 0 else if S.1 19 z j ≤ x then 0 else 1, S) := by
  have h2 := shl_le z
  unfold f_X6_isPlace
  rw [ixb_nI h (by omega), grd_t, cl_nI (by omega)]
  by_cases c : x < 0
  · rw [if_pos c, if_pos c]
  · rw [if_neg c, if_neg c]
    by_cases c : S.1 19 z j ≤ x
    · rw [if_pos c, if_pos c]
    · rw [if_neg c, if_neg c]
theorem sizeOf_eq {z j : Nat} (h : j < shl z) (S : Stt) : f_X6_sizeOf z (nI j) S = some (S.1 19 z j, S) := by
  have h2 := shl_le z
  unfold f_X6_sizeOf
  rw [ixb_nI h (by omega), grd_t, cl_nI (by omega)]
theorem pll_le (z : Nat) : pll z ≤ 80 := by unfold pll; split <;> omega
theorem placeOf_eq {z j i : Nat} (h : j < shl z) (hi : i < pll z) (S : Stt) : f_X6_placeOf z (nI j) (nI i) S = some (S.1 (20 + z) j i, S) := by
  have h2 := shl_le z
  have h3 := pll_le z
  unfold f_X6_placeOf
  rw [ixb_nI h (by omega), grd_t, ixb_nI hi (by omega), grd_t, cl_nI (by omega), cl_nI (by omega)]
theorem write_eq {z j i : Nat} (h : j < shl z) (hi : i < pll z) (x : Int32) (S : Stt) : f_X6_write z (nI j) (nI i) x S = some (put S (20 + z) j i x) := by
  have h2 := shl_le z
  have h3 := pll_le z
  unfold f_X6_write
  rw [ixb_nI h (by omega), grd_t, ixb_nI hi (by omega), grd_t, cl_nI (by omega), cl_nI (by omega)]
theorem drop_eq {z j : Nat} (h : j < shl z) (S : Stt) : f_X6_drop z (nI j) S = some (put S 19 z j (-1)) := by
  have h2 := shl_le z
  unfold f_X6_drop
  rw [ixb_nI h (by omega), grd_t, cl_nI (by omega)]
theorem make_loop {z r n : Nat} (hr : r < shl z) (hn : n ≤ pll z) (x : Int32) : ∀ (d i fuel : Nat) (S : Stt), i + d = n → d < fuel → ∃ S', fl_X6_make_10 (fun S => some S) fuel z (nI r) (nI n) x (nI i) S = some S' ∧ (∀ F a j, ¬ (F = 20 + z ∧ a = r) → S'.1 F a j = S.1 F a j) ∧ (∀ j, S'.1 (20 + z) r j = if i ≤ j ∧ j < n then x else S.1 (20 + z) r j) ∧ S'.2 = S.2 := by
  have h2 := shl_le z
  have h3 := pll_le z
  intro d
  induction d with
  | zero =>
    intro i fuel S hi hf
    obtain ⟨g, rfl⟩ : ∃ g, fuel = g + 1 := ⟨fuel - 1, by omega⟩
    refine ⟨S, ?_, fun _ _ _ _ => rfl, fun j => ?_, rfl⟩
    · rw [fls_X6_make_10]
      unfold fb_X6_make_10
      rw [if_pos (nI_le (by omega) (by omega))]
    · rw [if_neg (by omega)]
  | succ d ih =>
    intro i fuel S hi hf
    obtain ⟨g, rfl⟩ : ∃ g, fuel = g + 1 := ⟨fuel - 1, by omega⟩
    obtain ⟨S', e, h4, h5, h6⟩ := ih (i + 1) g (put S (20 + z) r i x) (by omega) (by omega)
    refine ⟨S', ?_, fun F a j h => ?_, fun j => ?_, ?_⟩
    · rw [fls_X6_make_10]
      unfold fb_X6_make_10
      rw [if_neg (nI_ge (by omega) (by omega)), ixb_nI hr (by omega), grd_t, ixb_nI (by omega) (by omega), grd_t, cl_nI (by omega), cl_nI (by omega), nI_1]
      exact e
    · rw [h4 F a j h, put_at, if_neg (fun q => h ⟨q.1, q.2.1⟩)]
    · rw [h5 j, put_at]
      by_cases c : j = i
      · subst c
        rw [if_neg (by omega), if_pos ⟨rfl, rfl, rfl⟩, if_pos ⟨Nat.le_refl _, by omega⟩]
      · rw [if_neg (show ¬ (20 + z = 20 + z ∧ r = r ∧ j = i) from fun q => c q.2.2)]
        by_cases c2 : i + 1 ≤ j ∧ j < n
        · rw [if_pos c2, if_pos ⟨by omega, c2.2⟩]
        · rw [if_neg c2, if_neg (by omega)]
    · rw [h6]; rfl
/-- make: a row of n places, all x -/
theorem make_eq {z r n : Nat} (hr : r < shl z) (hn : n ≤ pll z) (x : Int32) (S : Stt) : ∃ S', f_X6_make z (nI r) (nI n) x S = some S' ∧ (∀ F a j, ¬ (F = 20 + z ∧ a = r) → ¬ (F = 19 ∧ a = z ∧ j = r) → S'.1 F a j = S.1 F a j) ∧ S'.1 19 z r = nI n ∧ (∀ j, j < n → S'.1 (20 + z) r j = x) ∧ S'.2 = S.2 := by
  have h2 := shl_le z
  have h3 := pll_le z
  obtain ⟨S', e, h4, h5, h6⟩ := make_loop hr hn x n 0 300 (put S 19 z r (nI n)) (by omega) (by omega)
  refine ⟨S', ?_, fun F a j h1 h7 => ?_, ?_, fun j hj => ?_, ?_⟩
  · unfold f_X6_make
    rw [ixb_nI hr (by omega), grd_t, cl_nI (by omega)]
    exact e
  · rw [h4 F a j h1, put_at, if_neg h7]
  · rw [h4 19 z r (by omega), put_at, if_pos ⟨rfl, rfl, rfl⟩]
  · rw [h5 j, if_pos ⟨Nat.zero_le _, hj⟩]
  · rw [h6]; rfl
/-- the same of the reference: rows -/
theorem ix40 {r i : Nat} (hr : r < 6) (hi : i < 40) : (40 : Int32) * nI r + nI i = nI (40 * r + i) := by
  rw [n9 40, pk_mul, nI_add]
theorem ix80 {r i : Nat} (hr : r < 4) (hi : i < 80) : (80 : Int32) * nI r + nI i = nI (80 * r + i) := by
  rw [n9 80, pk_mul, nI_add]
theorem rowAt_eq {r i : Nat} (hr : r < 6) (hi : i < 40) (M : Stt) : f_X8_rowAt (nI r) (nI i) M = some (M.1 3 0 (40 * r + i), M) := by
  unfold f_X8_rowAt
  rw [ix40 hr hi, ixb_nI (by omega) (by omega), grd_t, cl_nI (by omega)]
theorem setRow_eq {r i : Nat} (hr : r < 6) (hi : i < 40) (x : Int32) (M : Stt) : f_X8_setRow (nI r) (nI i) x M = some (put M 3 0 (40 * r + i) x) := by
  unfold f_X8_setRow
  rw [ix40 hr hi, ixb_nI (by omega) (by omega), grd_t, cl_nI (by omega)]
theorem mrow_loop {r : Nat} (hr : r < 6) (x : Int32) : ∀ (d i fuel : Nat) (M : Stt), i + d = 40 → d < fuel → ∃ M', fl_X8_row_34 (fun x2 S => some (x2, S)) fuel (nI r) x (nI i) M = some (x, M') ∧ (∀ F a j, ¬ (F = 3 ∧ a = 0 ∧ 40 * r ≤ j ∧ j < 40 * r + 40) → M'.1 F a j = M.1 F a j) ∧ (∀ j, i ≤ j → j < 40 → M'.1 3 0 (40 * r + j) = 0) ∧ (∀ j, j < i → M'.1 3 0 (40 * r + j) = M.1 3 0 (40 * r + j)) ∧ M'.2 = M.2 := by
  intro d
  induction d with
  | zero =>
    intro i fuel M hi hf
    obtain ⟨g, rfl⟩ : ∃ g, fuel = g + 1 := ⟨fuel - 1, by omega⟩
    refine ⟨M, ?_, fun _ _ _ _ => rfl, fun j h1 h2 => absurd h2 (by omega), fun _ _ => rfl, rfl⟩
    rw [fls_X8_row_34]
    unfold fb_X8_row_34
    rw [n9 40, if_pos (nI_le (by omega) (by omega))]
  | succ d ih =>
    intro i fuel M hi hf
    obtain ⟨g, rfl⟩ : ∃ g, fuel = g + 1 := ⟨fuel - 1, by omega⟩
    obtain ⟨M', e, h4, h5, h6, h7⟩ := ih (i + 1) g (put M 3 0 (40 * r + i) 0) (by omega) (by omega)
    refine ⟨M', ?_, fun F a j h => ?_, fun j h1 h2 => ?_, fun j h1 => ?_, ?_⟩
    · rw [fls_X8_row_34]
      unfold fb_X8_row_34
      rw [n9 40, if_neg (nI_ge (by omega) (by omega)), setRow_eq hr (by omega), obind, nI_1]
      exact e
    · rw [h4 F a j h, put_at, if_neg (fun q => h ⟨q.1, q.2.1, by omega, by omega⟩)]
    · by_cases c : j = i
      · subst c
        rw [h6 j (by omega), put_at, if_pos ⟨rfl, rfl, rfl⟩]
      · exact h5 j (by omega) h2
    · rw [h6 j (by omega), put_at, if_neg (by omega)]
    · rw [h7]; rfl
theorem mtext_loop {r : Nat} (hr : r < 4) (x : Int32) : ∀ (d i fuel : Nat) (M : Stt), i + d = 80 → d < fuel → ∃ M', fl_X8_text_34 (fun x2 S => some (x2, S)) fuel (nI r) x (nI i) M = some (x, M') ∧ (∀ F a j, ¬ (F = 6 ∧ a = 0 ∧ 80 * r ≤ j ∧ j < 80 * r + 80) → M'.1 F a j = M.1 F a j) ∧ (∀ j, i ≤ j → j < 80 → M'.1 6 0 (80 * r + j) = 32) ∧ (∀ j, j < i → M'.1 6 0 (80 * r + j) = M.1 6 0 (80 * r + j)) ∧ M'.2 = M.2 := by
  intro d
  induction d with
  | zero =>
    intro i fuel M hi hf
    obtain ⟨g, rfl⟩ : ∃ g, fuel = g + 1 := ⟨fuel - 1, by omega⟩
    refine ⟨M, ?_, fun _ _ _ _ => rfl, fun j h1 h2 => absurd h2 (by omega), fun _ _ => rfl, rfl⟩
    rw [fls_X8_text_34]
    unfold fb_X8_text_34
    rw [n9 80, if_pos (nI_le (by omega) (by omega))]
  | succ d ih =>
    intro i fuel M hi hf
    obtain ⟨g, rfl⟩ : ∃ g, fuel = g + 1 := ⟨fuel - 1, by omega⟩
    obtain ⟨M', e, h4, h5, h6, h7⟩ := ih (i + 1) g (put M 6 0 (80 * r + i) 32) (by omega) (by omega)
    refine ⟨M', ?_, fun F a j h => ?_, fun j h1 h2 => ?_, fun j h1 => ?_, ?_⟩
    · rw [fls_X8_text_34]
      unfold fb_X8_text_34
      rw [n9 80, if_neg (nI_ge (by omega) (by omega)), ← n9 80, ix80 hr (by omega), ixb_nI (by omega) (by omega), grd_t, cl_nI (by omega), nI_1]
      exact e
    · rw [h4 F a j h, put_at, if_neg (fun q => h ⟨q.1, q.2.1, by omega, by omega⟩)]
    · by_cases c : j = i
      · subst c
        rw [h6 j (by omega), put_at, if_pos ⟨rfl, rfl, rfl⟩]
      · exact h5 j (by omega) h2
    · rw [h6 j (by omega), put_at, if_neg (by omega)]
    · rw [h7]; rfl
