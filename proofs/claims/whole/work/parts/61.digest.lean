/-! digest -/
def itF (G : Nat → Int64 → Int64) : Nat → Int64 → Int64
  | 0, y => y
  | k + 1, y => G k (itF G k y)
theorem itF_congr {G G' : Nat → Int64 → Int64} : ∀ k y, (∀ j, j < k → ∀ y, G j y = G' j y) → itF G k y = itF G' k y := by
  intro k
  induction k with
  | zero => intro y _; rfl
  | succ k ih => intro y h; rw [itF, itF, ih y (fun j hj => h j (by omega)), h k (by omega)]
def mx (y : Int64) (v : Int32) : Int64 := (31 : Int64) * y + v.toInt64
theorem putL_putL (S : Stt) (k : Nat) (a b : Int64) : putL (putL S k a) k b = putL S k b := by
  unfold putL
  refine Prod.ext rfl (funext fun j => ?_)
  dsimp only
  by_cases c : j = k
  · subst c
    rw [pk_uLs, pk_uLs]
  · rw [pk_uLn c, pk_uLn c, pk_uLn c]
theorem mix_eq (M : Stt) (y : Int64) (v : Int32) : f_X8_mix v (putL M 30 y) = some (putL M 30 (mx y v)) := by
  unfold f_X8_mix
  rw [putL_putL]
  rfl
/-! the class -/
theorem dg6_C {S M : Stt} (h : Rel S M) {n : Nat} {Q : Nat → Nat → Nat} (hV : BkV n Q) (hB : BC S 0 n Q) (ke : Int64 → Stt → Option (Int64 × Stt)) (y : Int64) : ∀ (k i fuel : Nat), i + k = 7 → k < fuel → fl_X7_digest_6 ke fuel (itF (fun w y => mx y (nI (tlN M n Q w))) i y) (nI i) S = ke (itF (fun w y => mx y (nI (tlN M n Q w))) 7 y) S := by
  intro k
  induction k with
  | zero =>
    intro i fuel h1 h2
    obtain ⟨g, rfl⟩ : ∃ g, fuel = g + 1 := ⟨fuel - 1, by omega⟩
    rw [fls_X7_digest_6]
    unfold fb_X7_digest_6
    rw [n9 6, nI_iflt (by omega) (by omega), if_pos (by omega), show i = 7 by omega]
  | succ k ih =>
    intro i fuel h1 h2
    obtain ⟨g, rfl⟩ : ∃ g, fuel = g + 1 := ⟨fuel - 1, by omega⟩
    rw [fls_X7_digest_6]
    unfold fb_X7_digest_6
    rw [n9 6, nI_iflt (by omega) (by omega), if_neg (by omega), count_C h hV hB (by omega), obind, nI_1]
    exact ih (i + 1) g (by omega) (by omega)
theorem dg47_C {S : Stt} {n i : Nat} (hn : n ≤ 6) (hc : S.1 17 0 0 = nI n) (hi : i < n) (ke : Int64 → Int32 → Stt → Option (Int64 × Stt)) (y : Int64) : ∀ (k w fuel : Nat), w + k = 6 → k < fuel → fl_X7_digest_47 ke fuel (itF (fun w y => mx y (S.1 (tf w) 0 i)) w y) (nI i) (nI w) S = ke (itF (fun w y => mx y (S.1 (tf w) 0 i)) 6 y) (nI i) S := by
  intro k
  induction k with
  | zero =>
    intro w fuel h1 h2
    obtain ⟨g, rfl⟩ : ∃ g, fuel = g + 1 := ⟨fuel - 1, by omega⟩
    rw [fls_X7_digest_47]
    unfold fb_X7_digest_47
    rw [n9 5, nI_iflt (by omega) (by omega), if_pos (by omega), show w = 6 by omega]
  | succ k ih =>
    intro w fuel h1 h2
    obtain ⟨g, rfl⟩ : ∃ g, fuel = g + 1 := ⟨fuel - 1, by omega⟩
    rw [fls_X7_digest_47]
    unfold fb_X7_digest_47
    rw [n9 5, nI_iflt (by omega) (by omega), if_neg (by omega), tell_eq hn hc hi (by omega), obind, nI_1]
    exact ih (w + 1) g (by omega) (by omega)
theorem dg33_C {S : Stt} {n : Nat} (hn : n ≤ 6) (hc : S.1 17 0 0 = nI n) (ke : Int64 → Stt → Option (Int64 × Stt)) (y : Int64) : ∀ (k i fuel : Nat), i + k = n → k < fuel → fl_X7_digest_33 ke fuel (itF (fun i => itF (fun w y => mx y (S.1 (tf w) 0 i)) 6) i y) (nI i) S = ke (itF (fun i => itF (fun w y => mx y (S.1 (tf w) 0 i)) 6) n y) S := by
  intro k
  induction k with
  | zero =>
    intro i fuel h1 h2
    obtain ⟨g, rfl⟩ : ∃ g, fuel = g + 1 := ⟨fuel - 1, by omega⟩
    rw [fls_X7_digest_33]
    unfold fb_X7_digest_33
    rw [hc, nI_ifle (by omega) (by omega), if_pos (by omega), show i = n by omega]
  | succ k ih =>
    intro i fuel h1 h2
    obtain ⟨g, rfl⟩ : ∃ g, fuel = g + 1 := ⟨fuel - 1, by omega⟩
    rw [fls_X7_digest_33]
    unfold fb_X7_digest_33
    rw [hc, nI_ifle (by omega) (by omega), if_neg (by omega)]
    refine (dg47_C hn hc (show i < n by omega) _ _ 6 0 300 (by omega) (by omega)).trans ?_
    rw [nI_1]
    exact ih (i + 1) g (by omega) (by omega)
/-- what is told of a kept book -/
def kv (S : Stt) (k : Nat) : Int32 := if S.1 17 (2 + k) 0 = 0 then -1 else S.1 17 (2 + k) 0
theorem dg85_C {S : Stt} (ke : Int64 → Stt → Option (Int64 × Stt)) (y : Int64) : ∀ (k i fuel : Nat), i + k = 3 → k < fuel → fl_X7_digest_85 ke fuel (itF (fun k y => mx y (kv S k)) i y) (nI i) S = ke (itF (fun k y => mx y (kv S k)) 3 y) S := by
  intro k
  induction k with
  | zero =>
    intro i fuel h1 h2
    obtain ⟨g, rfl⟩ : ∃ g, fuel = g + 1 := ⟨fuel - 1, by omega⟩
    rw [fls_X7_digest_85]
    unfold fb_X7_digest_85
    rw [n9 3, nI_ifle (by omega) (by omega), if_pos (by omega), show i = 3 by omega]
  | succ k ih =>
    intro i fuel h1 h2
    obtain ⟨g, rfl⟩ : ∃ g, fuel = g + 1 := ⟨fuel - 1, by omega⟩
    have ih2 := ih (i + 1) g (by omega) (by omega)
    rw [fls_X7_digest_85]
    unfold fb_X7_digest_85
    rw [n9 3, nI_ifle (by omega) (by omega), if_neg (by omega), ixb_nI (by omega) (by omega), grd_t, grd_t, cl_nI (by omega), nI_1]
    rw [itF] at ih2
    by_cases c : S.1 17 (2 + i) 0 = 0
    · have e : kv S i = -1 := if_pos c
      rw [e] at ih2
      rw [if_pos c]
      exact ih2
    · have e : kv S i = S.1 17 (2 + i) 0 := if_neg c
      rw [e] at ih2
      rw [if_neg c]
      exact ih2
/-- a row of the shelf z -/
def rv (S : Stt) (z r : Nat) (y : Int64) : Int64 := itF (fun i y => mx y (S.1 (20 + z) r i)) (S.1 19 z r).toNatClampNeg (mx y (S.1 19 z r))
theorem szc {S M : Stt} {z nr w fs fc r : Nat} (h : ShR S M z nr w fs fc) (hr : r < nr) (hw : w ≤ 80) : (S.1 19 z r).toNatClampNeg ≤ w ∧ ∀ i : Nat, i < 2 ^ 30 → ((S.1 19 z r ≤ nI i ↔ (S.1 19 z r).toNatClampNeg ≤ i) ∧ (M.1 fs 0 r ≤ nI i ↔ (S.1 19 z r).toNatClampNeg ≤ i)) := by
  have neg : ∀ (x : Int32), x < 0 → ∀ i : Nat, i < 2 ^ 30 → x ≤ nI i := fun x hx i hi => by
    rw [Int32.lt_iff_toInt_lt] at hx
    rw [Int32.le_iff_toInt_le, nI_toInt (by omega)]
    have : (0 : Int32).toInt = 0 := by decide
    omega
  rcases h r hr with ⟨y1, y2⟩ | ⟨n, y1, y2, y3, y4⟩
  · rw [y1, y2]
    have e : (-1 : Int32).toNatClampNeg = 0 := by decide
    rw [e]
    exact ⟨by omega, fun i hi => ⟨⟨fun _ => by omega, fun _ => neg _ neg1 i hi⟩, ⟨fun _ => by omega, fun _ => neg _ neg9 i hi⟩⟩⟩
  · rw [y2, y3, cl_nI (by omega)]
    exact ⟨y1, fun i hi => ⟨nI_leI (by omega) (by omega), nI_leI (by omega) (by omega)⟩⟩
theorem dg33_S {S : Stt} {z r N : Nat} (hz : pll z ≤ 80) (hr : r < shl z) (hN : N ≤ pll z) (hs : ∀ i : Nat, i < 2 ^ 30 → (S.1 19 z r ≤ nI i ↔ N ≤ i)) (ke : Nat → Int64 → Int32 → Stt → Option (Int64 × Stt)) (y : Int64) : ∀ (k i fuel : Nat), i + k = N → k < fuel → fl_X6_digestOn_33 ke fuel z (itF (fun i y => mx y (S.1 (20 + z) r i)) i y) (nI r) (nI i) S = ke z (itF (fun i y => mx y (S.1 (20 + z) r i)) N y) (nI r) S := by
  have h2 := shl_le z
  intro k
  induction k with
  | zero =>
    intro i fuel h1 hf
    obtain ⟨g, rfl⟩ : ∃ g, fuel = g + 1 := ⟨fuel - 1, by omega⟩
    rw [fls_X6_digestOn_33]
    unfold fb_X6_digestOn_33
    rw [ixb_nI hr (by omega), grd_t, cl_nI (by omega), if_pos ((hs i (by omega)).mpr (by omega)), show i = N by omega]
  | succ k ih =>
    intro i fuel h1 hf
    obtain ⟨g, rfl⟩ : ∃ g, fuel = g + 1 := ⟨fuel - 1, by omega⟩
    rw [fls_X6_digestOn_33]
    unfold fb_X6_digestOn_33
    rw [ixb_nI hr (by omega), grd_t, grd_t, cl_nI (show r < 2 ^ 31 by omega), if_neg (fun q => absurd ((hs i (by omega)).mp q) (by omega)), ixb_nI (show i < pll z by omega) (by omega), grd_t, cl_nI (by omega), nI_1]
    exact ih (i + 1) g (by omega) (by omega)
theorem dg5_S {S M : Stt} {z w fs fc : Nat} (hz : pll z = w) (hw : w ≤ 80) (h : ShR S M z (shl z) w fs fc) (y : Int64) : ∀ (k i fuel : Nat), i + k = shl z → k < fuel → fl_X6_digestOn_5 (fun y3 S => some (y3, S)) fuel z (itF (rv S z) i y) (nI i) S = some (itF (rv S z) (shl z) y, S) := by
  have h2 := shl_le z
  intro k
  induction k with
  | zero =>
    intro i fuel h1 hf
    obtain ⟨g, rfl⟩ : ∃ g, fuel = g + 1 := ⟨fuel - 1, by omega⟩
    rw [fls_X6_digestOn_5]
    unfold fb_X6_digestOn_5
    show (if nI (shl z) ≤ nI i then _ else _) = _
    rw [nI_ifle (by omega) (by omega), if_pos (by omega), show i = shl z by omega]
  | succ k ih =>
    intro i fuel h1 hf
    obtain ⟨g, rfl⟩ : ∃ g, fuel = g + 1 := ⟨fuel - 1, by omega⟩
    obtain ⟨c1, c2⟩ := szc h (show i < shl z by omega) hw
    rw [fls_X6_digestOn_5]
    unfold fb_X6_digestOn_5
    show (if nI (shl z) ≤ nI i then _ else _) = _
    rw [nI_ifle (by omega) (by omega), if_neg (by omega), ixb_nI (by omega) (by omega), grd_t, cl_nI (by omega)]
    refine (dg33_S (by omega) (by omega) (by omega) (fun j hj => (c2 j hj).1) _ (mx (itF (rv S z) i y) (S.1 19 z i)) (S.1 19 z i).toNatClampNeg 0 300 (by omega) (by omega)).trans ?_
    rw [nI_1]
    exact ih (i + 1) g (by omega) (by omega)
/-! the reference -/
theorem dg9_M {M : Stt} {n : Nat} {Q : Nat → Nat → Nat} (hV : BkV n Q) (hB : BM M n Q) (ke : Stt → Option (Int64 × Stt)) (y : Int64) : ∀ (k i fuel : Nat), i + k = 7 → k < fuel → fl_X8_digest_9 ke fuel (nI i) (putL M 30 (itF (fun w y => mx y (nI (tlN M n Q w))) i y)) = ke (putL M 30 (itF (fun w y => mx y (nI (tlN M n Q w))) 7 y)) := by
  intro k
  induction k with
  | zero =>
    intro i fuel h1 h2
    obtain ⟨g, rfl⟩ : ∃ g, fuel = g + 1 := ⟨fuel - 1, by omega⟩
    rw [fls_X8_digest_9]
    unfold fb_X8_digest_9
    rw [n9 6, nI_iflt (by omega) (by omega), if_pos (by omega), show i = 7 by omega]
  | succ k ih =>
    intro i fuel h1 h2
    obtain ⟨g, rfl⟩ : ∃ g, fuel = g + 1 := ⟨fuel - 1, by omega⟩
    rw [fls_X8_digest_9]
    unfold fb_X8_digest_9
    rw [n9 6, nI_iflt (by omega) (by omega), if_neg (by omega), tells_eq (M := putL M 30 (itF (fun w y => mx y (nI (tlN M n Q w))) i y)) hV hB (by omega), obind]
    dsimp only
    rw [mix_eq, obind, nI_1]
    exact ih (i + 1) g (by omega) (by omega)
theorem dg42_M {M : Stt} {i : Nat} (hi : i < 6) (ke : Int32 → Stt → Option (Int64 × Stt)) (y : Int64) : ∀ (k w fuel : Nat), w + k = 6 → k < fuel → fl_X8_digest_42 ke fuel (nI i) (nI w) (putL M 30 (itF (fun w y => mx y (M.1 (7 + w) 0 i)) w y)) = ke (nI i) (putL M 30 (itF (fun w y => mx y (M.1 (7 + w) 0 i)) 6 y)) := by
  intro k
  induction k with
  | zero =>
    intro w fuel h1 h2
    obtain ⟨g, rfl⟩ : ∃ g, fuel = g + 1 := ⟨fuel - 1, by omega⟩
    rw [fls_X8_digest_42]
    unfold fb_X8_digest_42
    rw [n9 5, nI_iflt (by omega) (by omega), if_pos (by omega), show w = 6 by omega]
  | succ k ih =>
    intro w fuel h1 h2
    obtain ⟨g, rfl⟩ : ∃ g, fuel = g + 1 := ⟨fuel - 1, by omega⟩
    rw [fls_X8_digest_42]
    unfold fb_X8_digest_42
    rw [n9 5, nI_iflt (by omega) (by omega), if_neg (by omega), pageOf_eq hi (by omega), obind]
    dsimp only
    rw [mix_eq, obind, nI_1]
    exact ih (w + 1) g (by omega) (by omega)
theorem dg32_M {M : Stt} {n : Nat} (hn : n ≤ 6) (hc : M.1 0 10 0 = nI n) (ke : Stt → Option (Int64 × Stt)) (y : Int64) : ∀ (k i fuel : Nat), i + k = n → k < fuel → fl_X8_digest_32 ke fuel (nI i) (putL M 30 (itF (fun i => itF (fun w y => mx y (M.1 (7 + w) 0 i)) 6) i y)) = ke (putL M 30 (itF (fun i => itF (fun w y => mx y (M.1 (7 + w) 0 i)) 6) n y)) := by
  intro k
  induction k with
  | zero =>
    intro i fuel h1 h2
    obtain ⟨g, rfl⟩ : ∃ g, fuel = g + 1 := ⟨fuel - 1, by omega⟩
    rw [fls_X8_digest_32]
    unfold fb_X8_digest_32
    rw [putL_1, hc, nI_ifle (by omega) (by omega), if_pos (by omega), show i = n by omega]
  | succ k ih =>
    intro i fuel h1 h2
    obtain ⟨g, rfl⟩ : ∃ g, fuel = g + 1 := ⟨fuel - 1, by omega⟩
    rw [fls_X8_digest_32]
    unfold fb_X8_digest_32
    rw [putL_1, hc, nI_ifle (by omega) (by omega), if_neg (by omega)]
    refine (dg42_M (by omega) _ _ 6 0 300 (by omega) (by omega)).trans ?_
    rw [nI_1]
    exact ih (i + 1) g (by omega) (by omega)
theorem dg71_M {S M : Stt} (hK : ∀ k, k < 3 → Kp1 S M k) (ke : Stt → Option (Int64 × Stt)) (y : Int64) : ∀ (k i fuel : Nat), i + k = 3 → k < fuel → fl_X8_digest_71 ke fuel (nI i) (putL M 30 (itF (fun k y => mx y (kv S k)) i y)) = ke (putL M 30 (itF (fun k y => mx y (kv S k)) 3 y)) := by
  intro k
  induction k with
  | zero =>
    intro i fuel h1 h2
    obtain ⟨g, rfl⟩ : ∃ g, fuel = g + 1 := ⟨fuel - 1, by omega⟩
    rw [fls_X8_digest_71]
    unfold fb_X8_digest_71
    rw [n9 3, nI_ifle (by omega) (by omega), if_pos (by omega), show i = 3 by omega]
  | succ k ih =>
    intro i fuel h1 h2
    obtain ⟨g, rfl⟩ : ∃ g, fuel = g + 1 := ⟨fuel - 1, by omega⟩
    have ih2 := ih (i + 1) g (by omega) (by omega)
    rw [fls_X8_digest_71]
    unfold fb_X8_digest_71
    rw [n9 3, nI_ifle (by omega) (by omega), if_neg (by omega), n9 38, pk_mul, ixb_nI (by omega) (by omega), grd_t, grd_t, cl_nI (by omega), putL_1]
    rw [itF] at ih2
    rcases hK i (by omega) with ⟨y1, y2⟩ | ⟨n', Q', y0, y1, y2, y3, y4, y5, -⟩
    · have e : kv S i = -1 := if_pos y1
      rw [e] at ih2
      rw [if_pos y2, mix_eq, obind, nI_1]
      exact ih2
    · have := y1.1
      have e : kv S i = nI n' := by
        unfold kv
        rw [y2.1, if_neg (nI_ne0 y0 (by omega))]
      rw [e] at ih2
      rw [y5, if_neg (nI_ne_neg (by omega) neg9), mix_eq, obind, nI_1]
      exact ih2
theorem dg146_M {S M : Stt} (h : ShR S M 0 6 40 2 3) {r : Nat} (hr : r < 6) (ke : Int32 → Stt → Option (Int64 × Stt)) (y : Int64) : ∀ (k i fuel : Nat), i + k = (S.1 19 0 r).toNatClampNeg → k < fuel → fl_X8_digest_146 ke fuel (nI r) (nI i) (putL M 30 (itF (fun i y => mx y (S.1 20 r i)) i y)) = ke (nI r) (putL M 30 (itF (fun i y => mx y (S.1 20 r i)) (S.1 19 0 r).toNatClampNeg y)) := by
  obtain ⟨c1, c2⟩ := szc h hr (by omega)
  intro k
  induction k with
  | zero =>
    intro i fuel h1 hf
    obtain ⟨g, rfl⟩ : ∃ g, fuel = g + 1 := ⟨fuel - 1, by omega⟩
    rw [fls_X8_digest_146]
    unfold fb_X8_digest_146
    rw [ixb_nI hr (by omega), grd_t, cl_nI (by omega), putL_1, if_pos ((c2 i (by omega)).2.mpr (by omega)), show i = (S.1 19 0 r).toNatClampNeg by omega]
  | succ k ih =>
    intro i fuel h1 hf
    obtain ⟨g, rfl⟩ : ∃ g, fuel = g + 1 := ⟨fuel - 1, by omega⟩
    have ih2 := ih (i + 1) g (by omega) (by omega)
    have e : S.1 20 r i = M.1 3 0 (40 * r + i) := by
      rcases h r hr with ⟨y1, y2⟩ | ⟨n, y1, y2, y3, y4⟩
      · rw [y1] at h1
        have : (-1 : Int32).toNatClampNeg = 0 := by decide
        omega
      · rw [y2, cl_nI (by omega)] at h1
        exact y4 i (by omega)
    rw [itF, e] at ih2
    rw [fls_X8_digest_146]
    unfold fb_X8_digest_146
    rw [ixb_nI hr (by omega), grd_t, cl_nI (show r < 2 ^ 31 by omega), putL_1, if_neg (fun q => absurd ((c2 i (by omega)).2.mp q) (by omega)), rowAt_eq hr (by omega), obind]
    dsimp only
    rw [mix_eq, obind, nI_1]
    exact ih2
theorem dg115_M {S M : Stt} (h : ShR S M 0 6 40 2 3) (ke : Stt → Option (Int64 × Stt)) (y : Int64) : ∀ (k i fuel : Nat), i + k = 6 → k < fuel → fl_X8_digest_115 ke fuel (nI i) (putL M 30 (itF (rv S 0) i y)) = ke (putL M 30 (itF (rv S 0) 6 y)) := by
  intro k
  induction k with
  | zero =>
    intro i fuel h1 hf
    obtain ⟨g, rfl⟩ : ∃ g, fuel = g + 1 := ⟨fuel - 1, by omega⟩
    rw [fls_X8_digest_115]
    unfold fb_X8_digest_115
    rw [n9 6, nI_ifle (by omega) (by omega), if_pos (by omega), show i = 6 by omega]
  | succ k ih =>
    intro i fuel h1 hf
    obtain ⟨g, rfl⟩ : ∃ g, fuel = g + 1 := ⟨fuel - 1, by omega⟩
    obtain ⟨c1, c2⟩ := szc h (show i < 6 by omega) (by omega)
    have go : ∀ v : Int32, v = S.1 19 0 i → ((f_X8_mix v (putL M 30 (itF (rv S 0) i y))).bind fun q24 => fl_X8_digest_146 (fun x1 S => (fl_X8_digest_115 ke g) (x1 + (1 : Int32)) S) 300 (nI i) (0 : Int32) q24) = ke (putL M 30 (itF (rv S 0) 6 y)) := by
      intro v hv
      rw [mix_eq, obind, hv]
      refine (dg146_M h (show i < 6 by omega) _ (mx (itF (rv S 0) i y) (S.1 19 0 i)) (S.1 19 0 i).toNatClampNeg 0 300 (by omega) (by omega)).trans ?_
      rw [nI_1]
      exact ih (i + 1) g (by omega) (by omega)
    rw [fls_X8_digest_115]
    unfold fb_X8_digest_115
    rw [n9 6, nI_ifle (by omega) (by omega), if_neg (by omega), ixb_nI (by omega) (by omega), grd_t, grd_t, cl_nI (by omega), putL_1]
    rcases h i (by omega) with ⟨y1, y2⟩ | ⟨n, y1, y2, y3, y4⟩
    · rw [y2, if_neg (by decide)]
      exact go (-1) y1.symm
    · rw [y3, if_pos (nI_pos' (by omega))]
      exact go (nI n) y2.symm
theorem dg210_M {S M : Stt} (h : ShR S M 1 4 80 5 6) {r : Nat} (hr : r < 4) (ke : Int32 → Stt → Option (Int64 × Stt)) (y : Int64) : ∀ (k i fuel : Nat), i + k = (S.1 19 1 r).toNatClampNeg → k < fuel → fl_X8_digest_210 ke fuel (nI r) (nI i) (putL M 30 (itF (fun i y => mx y (S.1 21 r i)) i y)) = ke (nI r) (putL M 30 (itF (fun i y => mx y (S.1 21 r i)) (S.1 19 1 r).toNatClampNeg y)) := by
  obtain ⟨c1, c2⟩ := szc h hr (by omega)
  intro k
  induction k with
  | zero =>
    intro i fuel h1 hf
    obtain ⟨g, rfl⟩ : ∃ g, fuel = g + 1 := ⟨fuel - 1, by omega⟩
    rw [fls_X8_digest_210]
    unfold fb_X8_digest_210
    rw [ixb_nI hr (by omega), grd_t, cl_nI (by omega), putL_1, if_pos ((c2 i (by omega)).2.mpr (by omega)), show i = (S.1 19 1 r).toNatClampNeg by omega]
  | succ k ih =>
    intro i fuel h1 hf
    obtain ⟨g, rfl⟩ : ∃ g, fuel = g + 1 := ⟨fuel - 1, by omega⟩
    have ih2 := ih (i + 1) g (by omega) (by omega)
    have e : S.1 21 r i = M.1 6 0 (80 * r + i) := by
      rcases h r hr with ⟨y1, y2⟩ | ⟨n, y1, y2, y3, y4⟩
      · rw [y1] at h1
        have : (-1 : Int32).toNatClampNeg = 0 := by decide
        omega
      · rw [y2, cl_nI (by omega)] at h1
        exact y4 i (by omega)
    rw [itF, e] at ih2
    rw [fls_X8_digest_210]
    unfold fb_X8_digest_210
    rw [ixb_nI hr (by omega), grd_t, cl_nI (show r < 2 ^ 31 by omega), putL_1, if_neg (fun q => absurd ((c2 i (by omega)).2.mp q) (by omega)), ix80 hr (by omega), ixb_nI (by omega) (by omega), grd_t, cl_nI (by omega), mix_eq, obind, nI_1]
    exact ih2
theorem dg180_M {S M : Stt} (h : ShR S M 1 4 80 5 6) (ke : Stt → Option (Int64 × Stt)) (y : Int64) : ∀ (k i fuel : Nat), i + k = 4 → k < fuel → fl_X8_digest_180 ke fuel (nI i) (putL M 30 (itF (rv S 1) i y)) = ke (putL M 30 (itF (rv S 1) 4 y)) := by
  intro k
  induction k with
  | zero =>
    intro i fuel h1 hf
    obtain ⟨g, rfl⟩ : ∃ g, fuel = g + 1 := ⟨fuel - 1, by omega⟩
    rw [fls_X8_digest_180]
    unfold fb_X8_digest_180
    rw [n9 4, nI_ifle (by omega) (by omega), if_pos (by omega), show i = 4 by omega]
  | succ k ih =>
    intro i fuel h1 hf
    obtain ⟨g, rfl⟩ : ∃ g, fuel = g + 1 := ⟨fuel - 1, by omega⟩
    obtain ⟨c1, c2⟩ := szc h (show i < 4 by omega) (by omega)
    have go : ∀ v : Int32, v = S.1 19 1 i → ((f_X8_mix v (putL M 30 (itF (rv S 1) i y))).bind fun q24 => fl_X8_digest_210 (fun x1 S => (fl_X8_digest_180 ke g) (x1 + (1 : Int32)) S) 300 (nI i) (0 : Int32) q24) = ke (putL M 30 (itF (rv S 1) 4 y)) := by
      intro v hv
      rw [mix_eq, obind, hv]
      refine (dg210_M h (show i < 4 by omega) _ (mx (itF (rv S 1) i y) (S.1 19 1 i)) (S.1 19 1 i).toNatClampNeg 0 300 (by omega) (by omega)).trans ?_
      rw [nI_1]
      exact ih (i + 1) g (by omega) (by omega)
    rw [fls_X8_digest_180]
    unfold fb_X8_digest_180
    rw [n9 4, nI_ifle (by omega) (by omega), if_neg (by omega), ixb_nI (by omega) (by omega), grd_t, grd_t, cl_nI (by omega), putL_1]
    rcases h i (by omega) with ⟨y1, y2⟩ | ⟨n, y1, y2, y3, y4⟩
    · rw [y2, if_neg (by decide)]
      exact go (-1) y1.symm
    · rw [y3, if_pos (nI_pos' (by omega))]
      exact go (nI n) y2.symm
theorem digest_C {S M : Stt} (h : Rel S M) {n : Nat} {Q : Nat → Nat → Nat} (hV : BkV n Q) (hB : BC S 0 n Q) {y1 y2 y3 y4 y5 : Int64} (e1 : itF (fun w y => mx y (nI (tlN M n Q w))) 7 17 = y1) (e2 : itF (fun i => itF (fun w y => mx y (S.1 (tf w) 0 i)) 6) n y1 = y2) (e3 : itF (fun k y => mx y (kv S k)) 3 y2 = y3) (e4 : itF (rv S 0) 6 y3 = y4) (e5 : itF (rv S 1) 4 y4 = y5) : f_X7_digest S = some (y5, S) := by
  have hn := hV.1
  have d1 := dg6_C h hV hB (fun y1 S => fl_X7_digest_33 (fun y1 S => fl_X7_digest_85 (fun y1 S => (f_X6_digestOn 0 y1 S).bind fun q12 => (f_X6_digestOn 1 q12.1 q12.2).bind fun q14 => some (q14.1, q14.2)) 300 y1 (0 : Int32) S) 300 y1 (0 : Int32) S) 17 7 0 300 (by omega) (by omega)
  have d2 := dg33_C hn hB.1 (fun y1 S => fl_X7_digest_85 (fun y1 S => (f_X6_digestOn 0 y1 S).bind fun q12 => (f_X6_digestOn 1 q12.1 q12.2).bind fun q14 => some (q14.1, q14.2)) 300 y1 (0 : Int32) S) y1 n 0 300 (by omega) (by omega)
  have d3 := dg85_C (S := S) (fun y1 S => (f_X6_digestOn 0 y1 S).bind fun q12 => (f_X6_digestOn 1 q12.1 q12.2).bind fun q14 => some (q14.1, q14.2)) y2 3 0 300 (by omega) (by omega)
  have d4 := dg5_S (z := 0) (w := 40) rfl (by omega) h.2.1 y3 6 0 300 rfl (by omega)
  have d5 := dg5_S (z := 1) (w := 80) rfl (by omega) h.2.2.1 y4 4 0 300 rfl (by omega)
  rw [e1] at d1
  rw [e2] at d2
  rw [e3] at d3
  rw [show shl 0 = 6 from rfl, e4] at d4
  rw [show shl 1 = 4 from rfl, e5] at d5
  have d4 : f_X6_digestOn 0 y3 S = some (y4, S) := d4
  have d5 : f_X6_digestOn 1 y4 S = some (y5, S) := d5
  refine Eq.trans d1 (Eq.trans d2 (Eq.trans d3 ?_))
  rw [d4, obind]
  dsimp only
  rw [d5, obind]
theorem digest_M {S M : Stt} (h : Rel S M) {n : Nat} {Q : Nat → Nat → Nat} (hV : BkV n Q) (hB : BC S 0 n Q) (hM : BM M n Q) (hr : ∀ i, i < n → S.1 11 0 i = M.1 10 0 i ∧ S.1 14 0 i = M.1 11 0 i) {y1 y2 y3 y4 y5 : Int64} (e1 : itF (fun w y => mx y (nI (tlN M n Q w))) 7 17 = y1) (e2 : itF (fun i => itF (fun w y => mx y (S.1 (tf w) 0 i)) 6) n y1 = y2) (e3 : itF (fun k y => mx y (kv S k)) 3 y2 = y3) (e4 : itF (rv S 0) 6 y3 = y4) (e5 : itF (rv S 1) 4 y4 = y5) : f_X8_digest M = some (y5, putL M 30 y5) := by
  have hn := hV.1
  have e2' : itF (fun i => itF (fun w y => mx y (M.1 (7 + w) 0 i)) 6) n y1 = y2 := by
    rw [← e2]
    exact itF_congr n y1 (fun i hi y => itF_congr 6 y (fun w hw y => by rw [raw_eq hB hM hr hi (by omega)]))
  have d1 := dg9_M hV hM (fun S => fl_X8_digest_32 (fun S => fl_X8_digest_71 (fun S => fl_X8_digest_115 (fun S => fl_X8_digest_180 (fun S => some ((S.2 30), S)) 300 (0 : Int32) S) 300 (0 : Int32) S) 300 (0 : Int32) S) 300 (0 : Int32) S) 17 7 0 300 (by omega) (by omega)
  have d2 := dg32_M hn hM.1 (fun S => fl_X8_digest_71 (fun S => fl_X8_digest_115 (fun S => fl_X8_digest_180 (fun S => some ((S.2 30), S)) 300 (0 : Int32) S) 300 (0 : Int32) S) 300 (0 : Int32) S) y1 n 0 300 (by omega) (by omega)
  have d3 := dg71_M h.2.2.2.2.2.1 (fun S => fl_X8_digest_115 (fun S => fl_X8_digest_180 (fun S => some ((S.2 30), S)) 300 (0 : Int32) S) 300 (0 : Int32) S) y2 3 0 300 (by omega) (by omega)
  have d4 := dg115_M h.2.1 (fun S => fl_X8_digest_180 (fun S => some ((S.2 30), S)) 300 (0 : Int32) S) y3 6 0 300 (by omega) (by omega)
  have d5 := dg180_M h.2.2.1 (fun S => some ((S.2 30), S)) y4 4 0 300 (by omega) (by omega)
  rw [e1] at d1
  rw [e2'] at d2
  rw [e3] at d3
  rw [e4] at d4
  rw [e5] at d5
  exact Eq.trans d1 (Eq.trans d2 (Eq.trans d3 (Eq.trans d4 (Eq.trans d5 rfl))))
theorem sim_digest : SimL f_X7_digest f_X8_digest := by
  intro S M h
  obtain ⟨n, Q, hV, hB, hR, hM, hDP, hL, hr⟩ := h.bk
  obtain ⟨y1, e1⟩ : ∃ y1, itF (fun w y => mx y (nI (tlN M n Q w))) 7 17 = y1 := ⟨_, rfl⟩
  obtain ⟨y2, e2⟩ : ∃ y2, itF (fun i => itF (fun w y => mx y (S.1 (tf w) 0 i)) 6) n y1 = y2 := ⟨_, rfl⟩
  obtain ⟨y3, e3⟩ : ∃ y3, itF (fun k y => mx y (kv S k)) 3 y2 = y3 := ⟨_, rfl⟩
  obtain ⟨y4, e4⟩ : ∃ y4, itF (rv S 0) 6 y3 = y4 := ⟨_, rfl⟩
  obtain ⟨y5, e5⟩ : ∃ y5, itF (rv S 1) 4 y4 = y5 := ⟨_, rfl⟩
  exact ⟨y5, S, putL M 30 y5, digest_C h hV hB e1 e2 e3 e4 e5, digest_M h hV hB hM hr e1 e2 e3 e4 e5, h.same (Same.rf S) ⟨fun _ _ _ _ => rfl, rfl, rfl⟩⟩
