/-! rows and texts: the calls -/
def SimI (f g : Stt → Option (Int32 × Stt)) : Prop := ∀ S M, Rel S M → ∃ r S' M', f S = some (r, S') ∧ g M = some (r, M') ∧ Rel S' M'
def SimL (f g : Stt → Option (Int64 × Stt)) : Prop := ∀ S M, Rel S M → ∃ r S' M', f S = some (r, S') ∧ g M = some (r, M') ∧ Rel S' M'
theorem Rel.refuse {S M : Stt} (h : Rel S M) {k : Nat} (h1 : 1 ≤ k) (h5 : k ≤ 5) : ∃ S' M', f_X7_refuse (nI k) S = some (-3, S') ∧ f_X8_meet (nI k) M = some (-3, M') ∧ Rel S' M' := by
  refine ⟨_, _, refuse_eq h1 h5 S, meet_eq h5 M, ?_⟩
  obtain ⟨⟨a1, a2, a3, a4, a5⟩, b, c, d, e, f, g⟩ := h
  refine ⟨⟨?_, fun q hq => ?_, ?_, ?_, ?_⟩, b.frame ?_ ?_ ?_ ?_, c.frame ?_ ?_ ?_ ?_, ?_, e.frame ?_ ?_ ?_, fun k hk => (f k hk).frame ?_ ?_, ?_⟩
  · simp [put_at]
  · simp only [put_at]
    by_cases c : q = k
    · subst c
      simp [a2 q hq]
    · simp [c, a2 q hq]
  · simp [put_at, a3]
  · simp [put_2, a4]
  · simp [put_2, a5]
  · intro r; simp [put_at]
  · intro r i; simp [put_at]
  · intro r; simp [put_at]
  · intro i; simp [put_at]
  · intro r; simp [put_at]
  · intro r i; simp [put_at]
  · intro r; simp [put_at]
  · intro i; simp [put_at]
  · intro i hi; simp [put_at]; exact d i hi
  · intro F i q1 q2; simp [put_at, show ¬ F = 60 by omega, show ¬ F = 61 by omega]
  · simp [put_at]
  · intro F i q1 q2; simp [put_at, show ¬ F = 0 by omega, show ¬ F = 1 by omega]
  · intro F i q1 q2; simp [put_at, show ¬ F = 60 by omega, show ¬ F = 61 by omega]
  · intro i; simp [put_at]
  · simp [put_at]; exact g
theorem Rel.ask {S M : Stt} (h : Rel S M) (x : Int32) : Rel (put S 62 0 0 x) (put M 0 2 0 x) := by
  obtain ⟨⟨a1, a2, a3, a4, a5⟩, b, c, d, e, f, g⟩ := h
  refine ⟨⟨?_, fun q hq => ?_, ?_, ?_, ?_⟩, b.frame ?_ ?_ ?_ ?_, c.frame ?_ ?_ ?_ ?_, ?_, e.frame ?_ ?_ ?_, fun k hk => (f k hk).frame ?_ ?_, ?_⟩
  · simp [put_at, a1]
  · simp [put_at, a2 q hq]
  · simp [put_at]
  · simp [put_2, a4]
  · simp [put_2, a5]
  · intro r; simp [put_at]
  · intro r i; simp [put_at]
  · intro r; simp [put_at]
  · intro i; simp [put_at]
  · intro r; simp [put_at]
  · intro r i; simp [put_at]
  · intro r; simp [put_at]
  · intro i; simp [put_at]
  · intro i hi; simp [put_at]; exact d i hi
  · intro F i q1 q2; simp [put_at, show ¬ F = 62 by omega]
  · simp [put_at]
  · intro F i q1 q2; simp [put_at, show ¬ F = 0 by omega]
  · intro F i q1 q2; simp [put_at, show ¬ F = 62 by omega]
  · intro i; simp [put_at]
  · simp [put_at]; exact g
/-- a change of one row on both sides -/
theorem Rel.row {S S' M M' : Stt} (h : Rel S M) {r : Nat} (hr : r < 6) (hS : ∀ F a j, ¬ (F = 20 ∧ a = r) → ¬ (F = 19 ∧ a = 0 ∧ j = r) → S'.1 F a j = S.1 F a j) (hM : ∀ F a j, ¬ (F = 3 ∧ a = 0 ∧ 40 * r ≤ j ∧ j < 40 * r + 40) → ¬ (F = 2 ∧ a = 0 ∧ j = r) → ¬ F = 4 → M'.1 F a j = M.1 F a j) (h2 : S'.2 = S.2) (h3 : M'.2 = M.2)
    (hn : (S'.1 19 0 r = -1 ∧ M'.1 2 0 r = -9) ∨ ∃ n, n ≤ 40 ∧ S'.1 19 0 r = nI n ∧ M'.1 2 0 r = nI n ∧ ∀ i, i < n → S'.1 20 r i = M'.1 3 0 (40 * r + i)) : Rel S' M' := by
  obtain ⟨a, b, c, d, e, f, g⟩ := h
  refine ⟨a.frame (fun F x i q => hS _ _ _ (by omega) (by omega)) h2 (hM _ _ _ (by omega) (by omega) (by omega)) (hM _ _ _ (by omega) (by omega) (by omega)) (fun i => hM _ _ _ (by omega) (by omega) (by omega)) (by rw [h3]) (by rw [h3]), ?_, c.frame (fun q => hS _ _ _ (by omega) (by omega)) (fun q i => hS _ _ _ (by omega) (by omega)) (fun q => hM _ _ _ (by omega) (by omega) (by omega)) (fun i => hM _ _ _ (by omega) (by omega) (by omega)), fun i hi => ?_, e.frame (fun F i q1 q2 => hS _ _ _ (by omega) (by omega)) (hM _ _ _ (by omega) (by omega) (by omega)) (fun F i q1 q2 => hM _ _ _ (by omega) (by omega) (by omega)), fun k hk => (f k hk).frame (fun F i q1 q2 => hS _ _ _ (by omega) (by omega)) (fun i => hM _ _ _ (by omega) (by omega) (by omega)), ?_⟩
  · intro q hq
    by_cases cq : q = r
    · subst cq
      exact hn
    · rcases b q hq with ⟨y1, y2⟩ | ⟨n, y1, y2, y3, y4⟩
      · exact Or.inl ⟨by rw [hS _ _ _ (by omega) (by omega)]; exact y1, by rw [hM _ _ _ (by omega) (by omega) (by omega)]; exact y2⟩
      · exact Or.inr ⟨n, y1, by rw [hS _ _ _ (by omega) (by omega)]; exact y2, by rw [hM _ _ _ (by omega) (by omega) (by omega)]; exact y3, fun i hi => by rw [hS _ _ _ (by omega) (by omega), hM _ _ _ (by omega) (by omega) (by omega)]; exact y4 i hi⟩
  · rw [hM _ _ _ (by omega) (by omega) (by omega)]; exact d i hi
  · rw [hM _ _ _ (by omega) (by omega) (by omega)]; exact g
theorem no05 {x : Int32} (h : (x < 0 ∧ ¬ 0 ≤ x) ∨ (nI 6 ≤ x ∧ ¬ x < 0 ∧ 0 ≤ x)) : ¬ (0 ≤ x ∧ x ≤ 5) := by
  rcases h with h | h
  · exact fun q => h.2 q.1
  · exact fun q => big_out (k := 5) h.1 (by omega) (by omega) q.2
theorem no03 {x : Int32} (h : (x < 0 ∧ ¬ 0 ≤ x) ∨ (nI 4 ≤ x ∧ ¬ x < 0 ∧ 0 ≤ x)) : ¬ (0 ≤ x ∧ x ≤ 3) := by
  rcases h with h | h
  · exact fun q => h.2 q.1
  · exact fun q => big_out (k := 3) h.1 (by omega) (by omega) q.2
theorem sim_row (x1 x2 : Int32) : SimI (f_X7_row x1 x2) (f_X8_row x1 x2) := by
  intro S M h
  rcases ix3 x1 (n := 6) (by omega) with h1 | h1 | ⟨r, hr, rfl⟩
  · refine ⟨-1, S, M, ?_, ?_, h⟩
    · unfold f_X7_row
      rw [isOne_no (z := 0) (Or.inl h1.1), obind, if_pos rfl]
    · unfold f_X8_row
      rw [isRow_no (no05 (Or.inl h1)), obind, if_pos rfl]
  · refine ⟨-1, S, M, ?_, ?_, h⟩
    · unfold f_X7_row
      rw [isOne_no (z := 0) (Or.inr h1.1), obind, if_pos rfl]
    · unfold f_X8_row
      rw [isRow_no (no05 (Or.inr h1)), obind, if_pos rfl]
  · by_cases c1 : x2 ≤ 40
    · by_cases c2 : 0 ≤ x2
      · obtain ⟨n, hn, rfl⟩ : ∃ n : Nat, n ≤ 40 ∧ x2 = nI n := nI_of2 (M := 40) (by decide) (by
          intro q
          exact nI_n0 q c2) c1
        obtain ⟨S', e1, e2, e3, e4, e5⟩ := make_eq (z := 0) (r := r) (n := n) hr hn 0 S
        obtain ⟨M', d1, d2, d3, d4, d5⟩ := mrow_loop hr (nI n) 40 0 300 (put M 2 0 r (nI n)) (by omega) (by omega)
        refine ⟨nI n, S', M', ?_, ?_, h.row hr (fun F a j q1 q2 => e2 F a j q1 q2) (fun F a j q1 q2 q3 => ?_) e5 (d5.trans rfl) (Or.inr ⟨n, hn, e3, ?_, fun i hi => ?_⟩)⟩
        · unfold f_X7_row
          rw [isOne_yes (z := 0) hr, obind, if_neg n10, if_pos c1, if_pos c2, e1, obind]
        · unfold f_X8_row
          rw [isRow_yes hr, obind, if_neg n10, if_pos c1, if_pos c2, ixb_nI hr (by omega), grd_t, cl_nI (by omega)]
          exact d1
        · rw [d2 F a j q1, put_at, if_neg q2]
        · rw [d2 2 0 r (by omega), put_at, if_pos ⟨rfl, rfl, rfl⟩]
        · rw [e4 i hi, d3 i (Nat.zero_le _) (by omega)]
      · obtain ⟨S', M', e1, e2, e3⟩ := h.refuse (k := 5) (by omega) (by omega)
        refine ⟨-3, S', M', ?_, ?_, e3⟩
        · unfold f_X7_row
          rw [isOne_yes (z := 0) hr, obind, if_neg n10, if_pos c1, if_neg c2, n9 5, e1, obind]
        · unfold f_X8_row
          rw [isRow_yes hr, obind, if_neg n10, if_pos c1, if_neg c2, n9 5, e2, obind]
    · refine ⟨-1, S, M, ?_, ?_, h⟩
      · unfold f_X7_row
        rw [isOne_yes (z := 0) hr, obind, if_neg n10, if_neg c1]
      · unfold f_X8_row
        rw [isRow_yes hr, obind, if_neg n10, if_neg c1]
