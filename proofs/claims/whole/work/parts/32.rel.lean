/-! what the two states have in common -/
def bt (x : Int32) (i : Nat) : Bool := x.toBitVec.getLsbD i
/-- the cases (sets of facts, by bits) in which the plain words of w are so -/
def fitP (w m : Nat) : Bool := (List.range 5).all (fun f => !(w.testBit f) || m.testBit f)
def pck (w : Nat) : Nat → Nat
  | 0 => 0
  | k + 1 => pck w k + (if w.testBit k = true then 1 else 0)
def pcnt (w : Nat) : Nat := pck w 8
/-- what a page weighs -/
def wt (Q : Nat → Nat → Nat) (i : Nat) : Nat := pcnt (Q 3 i) + (if Q 0 i = 1 ∨ Q 0 i = 4 then 10 else 0)
/-- page i of book b is what Q says: 0 kind, 1 points, 2 verdict, 3 words, 4 fact, 5 day -/
def PgC (S : Stt) (b i : Nat) (Q : Nat → Nat → Nat) : Prop := S.1 10 b i = nI (Q 0 i) ∧ ((Q 0 i = 2 ∨ Q 0 i = 5) → S.1 11 b i = nI (Q 1 i)) ∧ S.1 12 b i = nI (Q 2 i) ∧ S.1 13 b i = nI (Q 3 i) ∧ (Q 0 i = 3 → S.1 14 b i = nI (Q 4 i)) ∧ S.1 15 b i = nI (Q 5 i) ∧ ∀ m, m < 32 → bt (S.1 16 b i) m = fitP (Q 3 i) m
/-- what can stand in a page -/
def PgV (Q : Nat → Nat → Nat) (i : Nat) : Prop := Q 0 i ≤ 5 ∧ ((Q 0 i = 2 ∨ Q 0 i = 5) → Q 1 i ≤ 5) ∧ Q 2 i ≤ 1 ∧ Q 3 i < 128 ∧ (Q 0 i = 3 → Q 4 i ≤ 4 ∧ (Q 3 i = 32 ∨ Q 3 i = 64)) ∧ Q 5 i ≤ 99
def BkV (n : Nat) (Q : Nat → Nat → Nat) : Prop := n ≤ 6 ∧ ∀ i, i < n → PgV Q i
def BC (S : Stt) (b n : Nat) (Q : Nat → Nat → Nat) : Prop := S.1 17 b 0 = nI n ∧ ∀ i, i < n → PgC S b i Q
def Bef (Q : Nat → Nat → Nat) (i j : Nat) : Prop := wt Q j < wt Q i ∨ (wt Q i = wt Q j ∧ i < j)
def RkC (S : Stt) (b n : Nat) (Q : Nat → Nat → Nat) : Prop := ∃ ρ : Nat → Nat, (∀ k, k < n → S.1 18 b k = nI (ρ k) ∧ ρ k < n) ∧ ∀ k k', k < k' → k' < n → Bef Q (ρ k) (ρ k')
/-- the reference's book -/
def PgM (M : Stt) (i : Nat) (Q : Nat → Nat → Nat) : Prop := M.1 7 0 i = nI (Q 0 i) ∧ ((Q 0 i = 2 ∨ Q 0 i = 5) → M.1 10 0 i = nI (Q 1 i)) ∧ M.1 8 0 i = nI (Q 2 i) ∧ M.1 9 0 i = nI (Q 3 i) ∧ (Q 0 i = 3 → M.1 11 0 i = nI (Q 4 i)) ∧ M.1 12 0 i = nI (Q 5 i)
def BM (M : Stt) (n : Nat) (Q : Nat → Nat → Nat) : Prop := M.1 0 10 0 = nI n ∧ ∀ i, i < n → PgM M i Q
/-- the days of n pages are 0 .. n - 1 -/
def DP (n : Nat) (Q : Nat → Nat → Nat) : Prop := (∀ i, i < n → Q 5 i < n) ∧ ∀ i j, i < n → j < n → Q 5 i = Q 5 j → i = j
def BkR (S M : Stt) : Prop := ∃ n Q, BkV n Q ∧ BC S 0 n Q ∧ RkC S 0 n Q ∧ BM M n Q ∧ DP n Q ∧ ∀ i, i < n → S.1 11 0 i = M.1 10 0 i ∧ S.1 14 0 i = M.1 11 0 i
def Kp1 (S M : Stt) (k : Nat) : Prop := (S.1 17 (2 + k) 0 = 0 ∧ M.1 14 0 (38 * k) = -9) ∨ ∃ n Q, 0 < n ∧ BkV n Q ∧ BC S (2 + k) n Q ∧ RkC S (2 + k) n Q ∧ DP n Q ∧ M.1 14 0 (38 * k) = nI n ∧
  ∀ i, i < n → M.1 14 0 (38 * k + 1 + 6 * i) = S.1 10 (2 + k) i ∧ M.1 14 0 (38 * k + 1 + 6 * i + 1) = S.1 12 (2 + k) i ∧ M.1 14 0 (38 * k + 1 + 6 * i + 2) = S.1 13 (2 + k) i ∧ M.1 14 0 (38 * k + 1 + 6 * i + 3) = S.1 11 (2 + k) i ∧ M.1 14 0 (38 * k + 1 + 6 * i + 4) = S.1 14 (2 + k) i ∧ M.1 14 0 (38 * k + 1 + 6 * i + 5) = S.1 15 (2 + k) i
def ShR (S M : Stt) (z nr w fs fc : Nat) : Prop := ∀ r, r < nr → (S.1 19 z r = -1 ∧ M.1 fs 0 r = -9) ∨ ∃ n, n ≤ w ∧ S.1 19 z r = nI n ∧ M.1 fs 0 r = nI n ∧ ∀ i, i < n → S.1 (20 + z) r i = M.1 fc 0 (w * r + i)
def BaR (S M : Stt) : Prop := S.1 61 0 0 = M.1 0 0 0 ∧ (∀ f, f < 6 → S.1 60 0 f = M.1 1 0 f) ∧ S.1 62 0 0 = M.1 0 2 0 ∧ S.2 0 = M.2 3 ∧ S.2 1 = M.2 4
/-- the reference's texts hold bytes -/
def ByR (M : Stt) : Prop := ∀ i, i < 320 → (M.1 6 0 i).toInt8.toInt32 = M.1 6 0 i
def Rel (S M : Stt) : Prop := BaR S M ∧ ShR S M 0 6 40 2 3 ∧ ShR S M 1 4 80 5 6 ∧ ByR M ∧ BkR S M ∧ (∀ k, k < 3 → Kp1 S M k) ∧ M.1 0 20 0 = -9
/-! frames -/
theorem PgC.frame {S S' : Stt} {b i : Nat} {Q : Nat → Nat → Nat} (h : PgC S b i Q) (hf : ∀ F, 10 ≤ F → F ≤ 16 → S'.1 F b i = S.1 F b i) : PgC S' b i Q := by
  unfold PgC at *
  rw [hf 10 (by omega) (by omega), hf 11 (by omega) (by omega), hf 12 (by omega) (by omega), hf 13 (by omega) (by omega), hf 14 (by omega) (by omega), hf 15 (by omega) (by omega), hf 16 (by omega) (by omega)]
  exact h
theorem BC.frame {S S' : Stt} {b n : Nat} {Q : Nat → Nat → Nat} (h : BC S b n Q) (hf : ∀ F i, 10 ≤ F → F ≤ 18 → S'.1 F b i = S.1 F b i) : BC S' b n Q :=
  ⟨by rw [hf 17 0 (by omega) (by omega)]; exact h.1, fun i hi => (h.2 i hi).frame (fun F h1 h2 => hf F i h1 (by omega))⟩
theorem RkC.frame {S S' : Stt} {b n : Nat} {Q : Nat → Nat → Nat} (h : RkC S b n Q) (hf : ∀ F i, 10 ≤ F → F ≤ 18 → S'.1 F b i = S.1 F b i) : RkC S' b n Q := by
  obtain ⟨ρ, h1, h2⟩ := h
  exact ⟨ρ, fun k hk => by rw [hf 18 k (by omega) (by omega)]; exact h1 k hk, h2⟩
theorem PgM.frame {M M' : Stt} {i : Nat} {Q : Nat → Nat → Nat} (h : PgM M i Q) (hf : ∀ F, 7 ≤ F → F ≤ 12 → M'.1 F 0 i = M.1 F 0 i) : PgM M' i Q := by
  unfold PgM at *
  rw [hf 7 (by omega) (by omega), hf 8 (by omega) (by omega), hf 9 (by omega) (by omega), hf 10 (by omega) (by omega), hf 11 (by omega) (by omega), hf 12 (by omega) (by omega)]
  exact h
theorem BM.frame {M M' : Stt} {n : Nat} {Q : Nat → Nat → Nat} (h : BM M n Q) (hc : M'.1 0 10 0 = M.1 0 10 0) (hf : ∀ F i, 7 ≤ F → F ≤ 12 → M'.1 F 0 i = M.1 F 0 i) : BM M' n Q :=
  ⟨by rw [hc]; exact h.1, fun i hi => (h.2 i hi).frame (fun F h1 h2 => hf F i h1 h2)⟩
theorem BkR.frame {S S' M M' : Stt} (h : BkR S M) (hf : ∀ F i, 10 ≤ F → F ≤ 18 → S'.1 F 0 i = S.1 F 0 i) (hc : M'.1 0 10 0 = M.1 0 10 0) (hm : ∀ F i, 7 ≤ F → F ≤ 12 → M'.1 F 0 i = M.1 F 0 i) : BkR S' M' := by
  obtain ⟨n, Q, h1, h2, h3, h4, h5, h6⟩ := h
  refine ⟨n, Q, h1, h2.frame hf, h3.frame hf, h4.frame hc hm, h5, fun i hi => ?_⟩
  rw [hf 11 i (by omega) (by omega), hf 14 i (by omega) (by omega), hm 10 i (by omega) (by omega), hm 11 i (by omega) (by omega)]
  exact h6 i hi
theorem Kp1.frame {S S' M M' : Stt} {k : Nat} (h : Kp1 S M k) (hf : ∀ F i, 10 ≤ F → F ≤ 18 → S'.1 F (2 + k) i = S.1 F (2 + k) i) (hm : ∀ i, M'.1 14 0 i = M.1 14 0 i) : Kp1 S' M' k := by
  rcases h with ⟨h1, h2⟩ | ⟨n, Q, h0, h1, h2, h3, h4, h5, h6⟩
  · exact Or.inl ⟨by rw [hf 17 0 (by omega) (by omega)]; exact h1, by rw [hm]; exact h2⟩
  · refine Or.inr ⟨n, Q, h0, h1, h2.frame hf, h3.frame hf, h4, by rw [hm]; exact h5, fun i hi => ?_⟩
    rw [hm, hm, hm, hm, hm, hm, hf 10 i (by omega) (by omega), hf 11 i (by omega) (by omega), hf 12 i (by omega) (by omega), hf 13 i (by omega) (by omega), hf 14 i (by omega) (by omega), hf 15 i (by omega) (by omega)]
    exact h6 i hi
theorem ShR.frame {S S' M M' : Stt} {z nr w fs fc : Nat} (h : ShR S M z nr w fs fc) (h1 : ∀ r, S'.1 19 z r = S.1 19 z r) (h2 : ∀ r i, S'.1 (20 + z) r i = S.1 (20 + z) r i) (h3 : ∀ r, M'.1 fs 0 r = M.1 fs 0 r) (h4 : ∀ i, M'.1 fc 0 i = M.1 fc 0 i) : ShR S' M' z nr w fs fc := by
  intro r hr
  rcases h r hr with ⟨a, b⟩ | ⟨n, a, b, c, d⟩
  · exact Or.inl ⟨by rw [h1]; exact a, by rw [h3]; exact b⟩
  · exact Or.inr ⟨n, a, by rw [h1]; exact b, by rw [h3]; exact c, fun i hi => by rw [h2, h4]; exact d i hi⟩
theorem BaR.frame {S S' M M' : Stt} (h : BaR S M) (h1 : ∀ F a i, 60 ≤ F → S'.1 F a i = S.1 F a i) (h2 : S'.2 = S.2) (h3 : M'.1 0 0 0 = M.1 0 0 0) (h3b : M'.1 0 2 0 = M.1 0 2 0) (h4 : ∀ i, M'.1 1 0 i = M.1 1 0 i) (h5 : M'.2 3 = M.2 3) (h6 : M'.2 4 = M.2 4) : BaR S' M' := by
  obtain ⟨a, b, c, d, e⟩ := h
  refine ⟨?_, fun f hf => ?_, ?_, ?_, ?_⟩
  · rw [h1 61 0 0 (by omega), h3]; exact a
  · rw [h1 60 0 f (by omega), h4]; exact b f hf
  · rw [h1 62 0 0 (by omega), h3b]; exact c
  · rw [h2, h5]; exact d
  · rw [h2, h6]; exact e
/-- places of the class that no relation speaks of -/
def Same (S S' : Stt) : Prop := (∀ F a i, (F < 22 ∧ ¬ (10 ≤ F ∧ F ≤ 18 ∧ a = 1)) ∨ 60 ≤ F → S'.1 F a i = S.1 F a i) ∧ S'.2 = S.2
theorem Same.rf (S : Stt) : Same S S := ⟨fun _ _ _ _ => rfl, rfl⟩
theorem Same.tr {S S' S2 : Stt} (h : Same S S') (h2 : Same S' S2) : Same S S2 := ⟨fun F a i q => (h2.1 F a i q).trans (h.1 F a i q), h2.2.trans h.2⟩
/-- places of the reference that no relation speaks of -/
def SameM (M M' : Stt) : Prop := (∀ F a i, (F = 1 ∨ F = 2 ∨ F = 3 ∨ F = 5 ∨ F = 6 ∨ (7 ≤ F ∧ F ≤ 12) ∨ F = 14 ∨ (F = 0 ∧ (a = 0 ∨ a = 2 ∨ a = 10 ∨ a = 20))) → M'.1 F a i = M.1 F a i) ∧ M'.2 3 = M.2 3 ∧ M'.2 4 = M.2 4
theorem SameM.rf (M : Stt) : SameM M M := ⟨fun _ _ _ _ => rfl, rfl, rfl⟩
theorem SameM.tr {M M' M2 : Stt} (h : SameM M M') (h2 : SameM M' M2) : SameM M M2 := ⟨fun F a i q => (h2.1 F a i q).trans (h.1 F a i q), h2.2.1.trans h.2.1, h2.2.2.trans h.2.2⟩
theorem Rel.same {S S' M M' : Stt} (h : Rel S M) (h1 : Same S S') (h2 : SameM M M') : Rel S' M' := by
  obtain ⟨a, b, c, d, e, f, g⟩ := h
  refine ⟨a.frame (fun F x i q => h1.1 F x i (Or.inr q)) h1.2 (h2.1 _ _ _ (by omega)) (h2.1 _ _ _ (by omega)) (fun i => h2.1 _ _ _ (by omega)) h2.2.1 h2.2.2, b.frame (fun r => h1.1 _ _ _ (by omega)) (fun r i => h1.1 _ _ _ (by omega)) (fun r => h2.1 _ _ _ (by omega)) (fun i => h2.1 _ _ _ (by omega)), c.frame (fun r => h1.1 _ _ _ (by omega)) (fun r i => h1.1 _ _ _ (by omega)) (fun r => h2.1 _ _ _ (by omega)) (fun i => h2.1 _ _ _ (by omega)), fun i hi => ?_, e.frame (fun F i q1 q2 => h1.1 _ _ _ (by omega)) (h2.1 _ _ _ (by omega)) (fun F i q1 q2 => h2.1 _ _ _ (by omega)), fun k hk => (f k hk).frame (fun F i q1 q2 => h1.1 _ _ _ (by omega)) (fun i => h2.1 _ _ _ (by omega)), ?_⟩
  · rw [h2.1 6 0 i (by omega)]; exact d i hi
  · rw [h2.1 0 20 0 (by omega)]; exact g
