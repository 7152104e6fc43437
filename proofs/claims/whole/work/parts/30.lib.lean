/-! pure facts for the programs -/
theorem put_at (S : Stt) (F a i : Nat) (x : Int32) (F' a' i' : Nat) : (put S F a i x).1 F' a' i' = if F' = F ∧ a' = a ∧ i' = i then x else S.1 F' a' i' := by
  by_cases h : F' = F ∧ a' = a ∧ i' = i
  · obtain ⟨rfl, rfl, rfl⟩ := h
    rw [if_pos ⟨rfl, rfl, rfl⟩, put_get]
    simp [upd]
  · rw [if_neg h, put_ne h]
theorem put_2 (S : Stt) (F a i : Nat) (x : Int32) : (put S F a i x).2 = S.2 := rfl
theorem putL_1 (S : Stt) (k : Nat) (x : Int64) : (putL S k x).1 = S.1 := rfl
theorem putL_2 (S : Stt) (k j : Nat) (x : Int64) : (putL S k x).2 j = if j = k then x else S.2 j := rfl
theorem putA_at (S : Stt) (F a : Nat) (f : Nat → Int32) (F' a' i' : Nat) : (putA S F a f).1 F' a' i' = if F' = F ∧ a' = a then f i' else S.1 F' a' i' := by
  by_cases h : F' = F ∧ a' = a
  · obtain ⟨rfl, rfl⟩ := h
    rw [if_pos ⟨rfl, rfl⟩, putA_get]
  · rw [if_neg h, putA_ne h]
theorem putA_2 (S : Stt) (F a : Nat) (f : Nat → Int32) : (putA S F a f).2 = S.2 := rfl
theorem grd_t {α : Type} (x : Option α) : grd true x = x := rfl
theorem obind {α β : Type} (a : α) (f : α → Option β) : (some a).bind f = f a := rfl
theorem ixb_nI {k n : Nat} (h : k < n) (hn : n < 2 ^ 31) : ixb (nI k) n = true := by
  unfold ixb
  rw [nI_clamp (by omega)]
  simp [h, nI_pos (n := k) (by omega)]
theorem cl_nI {k : Nat} (h : k < 2 ^ 31) : (nI k).toNatClampNeg = k := nI_clamp h
theorem nI_n0 {x : Int32} (h : x < 0) : ¬ 0 ≤ x := by
  rw [Int32.lt_iff_toInt_lt] at h
  rw [Int32.le_iff_toInt_le]
  omega
theorem n9 (n : Nat) : (OfNat.ofNat n : Int32) = nI n := rfl
theorem nI_ne_neg {n : Nat} (h : n < 2 ^ 31) {x : Int32} (hx : x < 0) : ¬ nI n = x := by
  rintro rfl
  exact nI_pos h hx
theorem neg1 : (-1 : Int32) < 0 := by decide
theorem neg9 : (-9 : Int32) < 0 := by decide
/-! the finding of a refusal, on both sides -/
theorem refuse_eq {k : Nat} (h1 : 1 ≤ k) (h5 : k ≤ 5) (S : Stt) : f_X7_refuse (nI k) S = some (-3, put (put S 61 0 0 (nI k)) 60 0 k (S.1 60 0 k + 1)) := by
  have a1 : ¬ nI k < nI 1 := nI_nlt h1 (by omega)
  have a2 : ¬ nI 5 < nI k := nI_nlt h5 (by omega)
  unfold f_X7_refuse
  rw [n9 1, n9 5, if_neg a1, if_neg a2, ixb_nI (by omega) (by omega), grd_t, grd_t, cl_nI (by omega), put_at]
  simp
theorem meet_eq {k : Nat} (h5 : k ≤ 5) (M : Stt) : f_X8_meet (nI k) M = some (-3, put (put M 0 0 0 (nI k)) 1 0 k (M.1 1 0 k + 1)) := by
  unfold f_X8_meet
  rw [ixb_nI (by omega) (by omega), grd_t, grd_t, cl_nI (by omega), put_at]
  simp
theorem in_eq (x a b : Int32) (M : Stt) : f_X8_in x a b M = some (if a ≤ x ∧ x ≤ b then 1 else 0, M) := by
  unfold f_X8_in
  by_cases h1 : x < a
  · have h : ¬ (a ≤ x ∧ x ≤ b) := fun h => by rw [Int32.lt_iff_toInt_lt] at h1; have := h.1; rw [Int32.le_iff_toInt_le] at this; omega
    rw [if_pos h1, if_neg h]
  · rw [if_neg h1]
    have h2 : a ≤ x := by rw [Int32.lt_iff_toInt_lt] at h1; rw [Int32.le_iff_toInt_le]; omega
    by_cases h3 : b < x
    · have h : ¬ (a ≤ x ∧ x ≤ b) := fun h => by rw [Int32.lt_iff_toInt_lt] at h3; have := h.2; rw [Int32.le_iff_toInt_le] at this; omega
      rw [if_pos h3, if_neg h]
    · have h4 : x ≤ b := by rw [Int32.lt_iff_toInt_lt] at h3; rw [Int32.le_iff_toInt_le]; omega
      rw [if_neg h3, if_pos ⟨h2, h4⟩]
theorem zb_if (c : Prop) [Decidable c] : zb (if c then 1 else 0) = true := by
  by_cases h : c
  · rw [if_pos h]; rfl
  · rw [if_neg h]; rfl
/-- an index that is given: none, or a number below n -/
theorem ix3 (x : Int32) {n : Nat} (hn : n < 2 ^ 31) : (x < 0 ∧ ¬ 0 ≤ x) ∨ (nI n ≤ x ∧ ¬ x < 0 ∧ 0 ≤ x) ∨ ∃ j : Nat, j < n ∧ x = nI j := by
  rcases pk_ix x hn with h | h | h
  · exact Or.inl ⟨h, nI_n0 h⟩
  · refine Or.inr (Or.inl ⟨h, ?_, ?_⟩)
    · intro h2
      rw [Int32.le_iff_toInt_le, nI_toInt hn] at h
      rw [Int32.lt_iff_toInt_lt] at h2
      have : (0 : Int32).toInt = 0 := by decide
      omega
    · rw [Int32.le_iff_toInt_le, nI_toInt hn] at h
      rw [Int32.le_iff_toInt_le]
      have : (0 : Int32).toInt = 0 := by decide
      omega
  · exact Or.inr (Or.inr h)
theorem big_out {x : Int32} {n k : Nat} (h : nI n ≤ x) (hn : n < 2 ^ 31) (hk : k < n) : ¬ x ≤ nI k := by
  rw [Int32.le_iff_toInt_le, nI_toInt hn] at h
  rw [Int32.le_iff_toInt_le, nI_toInt (by omega)]
  omega
theorem isRow_no {x : Int32} (h : ¬ (0 ≤ x ∧ x ≤ 5)) (M : Stt) : f_X8_isRow x M = some (0, M) := by
  unfold f_X8_isRow
  rw [in_eq, obind, if_neg h]
  rfl
theorem isRow_yes {j : Nat} (h : j < 6) (M : Stt) : f_X8_isRow (nI j) M = some (1, M) := by
  unfold f_X8_isRow
  rw [in_eq, obind, if_pos ⟨nI_le (Nat.zero_le j) (by omega), nI_le (b := 5) (by omega) (by omega)⟩]
  rfl
theorem isText_no {x : Int32} (h : ¬ (0 ≤ x ∧ x ≤ 3)) (M : Stt) : f_X8_isText x M = some (0, M) := by
  unfold f_X8_isText
  rw [in_eq, obind, if_neg h]
  rfl
theorem isText_yes {j : Nat} (h : j < 4) (M : Stt) : f_X8_isText (nI j) M = some (1, M) := by
  unfold f_X8_isText
  rw [in_eq, obind, if_pos ⟨nI_le (Nat.zero_le j) (by omega), nI_le (b := 3) (by omega) (by omega)⟩]
  rfl
theorem isOne_no {x : Int32} {z : Nat} (h : x < 0 ∨ nI (shl z) ≤ x) (S : Stt) : f_X6_isOne z x S = some (0, S) := by
  unfold f_X6_isOne
  by_cases h1 : x < 0
  · rw [if_pos h1]
  · rcases h with h | h
    · exact absurd h h1
    · have h : Int32.ofNat (shl z) ≤ x := h
      rw [if_neg h1, if_pos h]
theorem shl_lt (z : Nat) : shl z < 2 ^ 31 := by have := shl_le z; omega
theorem isOne_yes {j z : Nat} (h : j < shl z) (S : Stt) : f_X6_isOne z (nI j) S = some (1, S) := by
  unfold f_X6_isOne
  have h2 := shl_lt z
  have h3 : ¬ Int32.ofNat (shl z) ≤ nI j := nI_ge h h2
  rw [if_neg (nI_pos (by omega)), if_neg h3]
theorem n10 : ¬ (1 : Int32) = 0 := by decide
theorem nn1 : ¬ (0 : Int32) ≤ -1 := by decide
theorem nn3 : ¬ (0 : Int32) ≤ -3 := by decide
theorem p00 : (0 : Int32) ≤ 0 := by decide
theorem p01 : (0 : Int32) ≤ 1 := by decide
