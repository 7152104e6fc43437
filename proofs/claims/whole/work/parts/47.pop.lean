/-! how many bits an int has -/
theorem and_256 {P p K q : Nat} (hp : p < 256) (hq : q < 256) : (256 * P + p) &&& (256 * K + q) = 256 * (P &&& K) + (p &&& q) := by
  apply Nat.eq_of_testBit_eq
  intro i
  have hpq : p &&& q < 2 ^ 8 := Nat.lt_of_le_of_lt Nat.and_le_left hp
  rw [Nat.testBit_and, show (256 : Nat) = 2 ^ 8 from rfl, Nat.testBit_two_pow_mul_add P (show p < 2 ^ 8 from hp), Nat.testBit_two_pow_mul_add K (show q < 2 ^ 8 from hq), Nat.testBit_two_pow_mul_add _ hpq]
  by_cases c : i < 8
  · rw [if_pos c, if_pos c, if_pos c, Nat.testBit_and]
  · rw [if_neg c, if_neg c, if_neg c, Nat.testBit_and]
theorem nx_and9 (a b : Nat) : nI a &&& nI b = nI (a &&& b) := by
  apply Int32.toBitVec_inj.1
  show BitVec.ofNat 32 a &&& BitVec.ofNat 32 b = BitVec.ofNat 32 (a &&& b)
  apply BitVec.eq_of_getLsbD_eq
  intro i hi
  simp [hi]
def yb (a : Nat) : Nat := a - ((a / 2) &&& 85)
def tb (a : Nat) : Nat := (yb a &&& 51) + ((yb a / 4) &&& 51)
theorem by_z : ∀ e, e < 2 → ∀ a, a < 256 → (128 * e + a / 2) &&& 85 = (a / 2) &&& 85 := by decide +kernel
theorem by_z2 : ∀ a, a < 256 → (a / 2) &&& 85 ≤ a := by decide +kernel
theorem by_q : ∀ e, e < 4 → ∀ y, y < 256 → (64 * e + y / 4) &&& 51 = (y / 4) &&& 51 := by decide +kernel
theorem by_t : ∀ a, a < 256 → tb a ≤ 68 ∧ tb a % 16 ≤ 4 ∧ yb a < 256 := by decide +kernel
theorem by_r : ∀ e, e < 5 → ∀ a, a < 256 → (tb a + tb a / 16 + 16 * e) &&& 15 = pck a 8 := by decide +kernel
theorem z_step {U a K : Nat} (ha : a < 256) : ((256 * U + a) / 2) &&& (256 * K + 85) = 256 * ((U / 2) &&& K) + ((a / 2) &&& 85) := by
  have e : (256 * U + a) / 2 = 256 * (U / 2) + (128 * (U % 2) + a / 2) := by omega
  rw [e, and_256 (by omega) (by omega), by_z _ (by omega) a ha]
theorem q_step {Y y K : Nat} (hy : y < 256) : ((256 * Y + y) / 4) &&& (256 * K + 51) = 256 * ((Y / 4) &&& K) + ((y / 4) &&& 51) := by
  have e : (256 * Y + y) / 4 = 256 * (Y / 4) + (64 * (Y % 4) + y / 4) := by omega
  rw [e, and_256 (by omega) (by omega), by_q _ (by omega) y hy]
/-- y of four bytes -/
theorem pop_y {a b c d : Nat} (ha : a < 256) (hb : b < 256) (hc : c < 256) (hd : d < 256) : (256 * (256 * (256 * d + c) + b) + a) - (((256 * (256 * (256 * d + c) + b) + a) / 2) &&& 1431655765) = 256 * (256 * (256 * yb d + yb c) + yb b) + yb a := by
  have e : (1431655765 : Nat) = 256 * (256 * (256 * 85 + 85) + 85) + 85 := rfl
  rw [e, z_step ha, z_step hb, z_step hc]
  have a1 := by_z2 a ha; have b1 := by_z2 b hb; have c1 := by_z2 c hc; have d1 := by_z2 d hd
  unfold yb
  omega
theorem pop_t {a b c d : Nat} (ha : a < 256) (hb : b < 256) (hc : c < 256) (hd : d < 256) : ((256 * (256 * (256 * yb d + yb c) + yb b) + yb a) &&& 858993459) + (((256 * (256 * (256 * yb d + yb c) + yb b) + yb a) / 4) &&& 858993459) = 256 * (256 * (256 * tb d + tb c) + tb b) + tb a := by
  have e : (858993459 : Nat) = 256 * (256 * (256 * 51 + 51) + 51) + 51 := rfl
  have a1 := (by_t a ha).2.2; have b1 := (by_t b hb).2.2; have c1 := (by_t c hc).2.2; have d1 := (by_t d hd).2.2
  rw [e, and_256 a1 (by omega), and_256 b1 (by omega), and_256 c1 (by omega), q_step a1, q_step b1, q_step c1]
  unfold tb
  omega
theorem r_step {T t K : Nat} (ht : t ≤ 68) (hT : T % 16 ≤ 4) : ((256 * T + t) + (256 * T + t) / 16) &&& (256 * K + 15) = 256 * ((T + T / 16) &&& K) + ((t + t / 16 + 16 * (T % 16)) &&& 15) := by
  have e : (256 * T + t) + (256 * T + t) / 16 = 256 * (T + T / 16) + (t + t / 16 + 16 * (T % 16)) := by omega
  rw [e, and_256 (by omega) (by omega)]
theorem pop_r {a b c d : Nat} (ha : a < 256) (hb : b < 256) (hc : c < 256) (hd : d < 256) : ((256 * (256 * (256 * tb d + tb c) + tb b) + tb a) + (256 * (256 * (256 * tb d + tb c) + tb b) + tb a) / 16) &&& 252645135 = 256 * (256 * (256 * pck d 8 + pck c 8) + pck b 8) + pck a 8 := by
  have e : (252645135 : Nat) = 256 * (256 * (256 * 15 + 15) + 15) + 15 := rfl
  obtain ⟨a1, a2, -⟩ := by_t a ha; obtain ⟨b1, b2, -⟩ := by_t b hb; obtain ⟨c1, c2, -⟩ := by_t c hc; obtain ⟨d1, d2, -⟩ := by_t d hd
  rw [e, r_step a1 (by omega), r_step b1 (by omega), r_step c1 (by omega), by_r _ (by omega) a ha, by_r _ (by omega) b hb, by_r _ (by omega) c hc]
  have := by_r 0 (by omega) d hd
  rw [Nat.mul_zero, Nat.add_zero] at this
  rw [this]
theorem pck_lo {U a : Nat} (ha : a < 256) : ∀ k, k ≤ 8 → pck (256 * U + a) k = pck a k := by
  intro k
  induction k with
  | zero => intro _; rfl
  | succ k ih =>
    intro hk
    rw [pck, pck, ih (by omega), show (256 : Nat) = 2 ^ 8 from rfl, Nat.testBit_two_pow_mul_add U (show a < 2 ^ 8 from ha), if_pos (show k < 8 by omega)]
theorem pck_hi {U a : Nat} (ha : a < 256) : ∀ k, pck (256 * U + a) (8 + k) = pck a 8 + pck U k := by
  intro k
  induction k with
  | zero => exact pck_lo ha 8 (Nat.le_refl _)
  | succ k ih =>
    show pck (256 * U + a) (8 + k) + (if (256 * U + a).testBit (8 + k) = true then 1 else 0) = pck a 8 + (pck U k + (if U.testBit k = true then 1 else 0))
    rw [ih, show (256 : Nat) = 2 ^ 8 from rfl, Nat.testBit_two_pow_mul_add U (show a < 2 ^ 8 from ha), if_neg (show ¬ 8 + k < 8 by omega), Nat.add_sub_cancel_left, Nat.add_assoc]
theorem bc_nI {u : Nat} (hu : u < 2 ^ 32) : bcF (nI u) = nI (pck u 32) := by
  obtain ⟨a, b, c, d, ha, hb, hc, hd, rfl⟩ : ∃ a b c d, a < 256 ∧ b < 256 ∧ c < 256 ∧ d < 256 ∧ u = 256 * (256 * (256 * d + c) + b) + a := ⟨u % 256, u / 256 % 256, u / 65536 % 256, u / 16777216, by omega, by omega, by omega, by omega, by omega⟩
  have k1 : pck (256 * (256 * (256 * d + c) + b) + a) 32 = pck a 8 + (pck b 8 + (pck c 8 + pck d 8)) := by
    rw [show (32 : Nat) = 8 + 24 from rfl, pck_hi ha, show (24 : Nat) = 8 + 16 from rfl, pck_hi hb, show (16 : Nat) = 8 + 8 from rfl, pck_hi hc]
  have hy := pop_y ha hb hc hd
  have ht := pop_t ha hb hc hd
  have hr := pop_r ha hb hc hd
  have a1 := by_t a ha; have b1 := by_t b hb; have c1 := by_t c hc; have d1 := by_t d hd
  have pa := pck_le a 8; have pb := pck_le b 8; have pc := pck_le c 8; have pd := pck_le d 8
  have le1 : ((256 * (256 * (256 * d + c) + b) + a) / 2) &&& 1431655765 ≤ 256 * (256 * (256 * d + c) + b) + a := Nat.le_trans Nat.and_le_left (Nat.div_le_self _ _)
  have e1 : (nI (256 * (256 * (256 * d + c) + b) + a)) - ((((nI (256 * (256 * (256 * d + c) + b) + a)).toUInt32 >>> ((1 : Int32).toUInt32 &&& Int32.toUInt32 31)).toInt32) &&& (1431655765 : Int32)) = nI (256 * (256 * (256 * yb d + yb c) + yb b) + yb a) := by
    rw [pk_ushrN (by omega) 1 1 (by decide), n9 1431655765, nx_and9, pk_sub le1, hy]
  have e2 : (nI (256 * (256 * (256 * yb d + yb c) + yb b) + yb a) &&& (858993459 : Int32)) + ((((nI (256 * (256 * (256 * yb d + yb c) + yb b) + yb a)).toUInt32 >>> ((2 : Int32).toUInt32 &&& Int32.toUInt32 31)).toInt32) &&& (858993459 : Int32)) = nI (256 * (256 * (256 * tb d + tb c) + tb b) + tb a) := by
    rw [pk_ushrN (by omega) 2 2 (by decide), n9 858993459, nx_and9, nx_and9, nI_add, ht]
  have e3 : (nI (256 * (256 * (256 * tb d + tb c) + tb b) + tb a) + ((nI (256 * (256 * (256 * tb d + tb c) + tb b) + tb a)).toUInt32 >>> ((4 : Int32).toUInt32 &&& Int32.toUInt32 31)).toInt32) &&& (252645135 : Int32) = nI (256 * (256 * (256 * pck d 8 + pck c 8) + pck b 8) + pck a 8) := by
    rw [pk_ushrN (by omega) 4 4 (by decide), n9 252645135, nI_add, nx_and9, hr]
  show _ &&& (63 : Int32) = _
  rw [e1, e2, e3, k1, pk_ushrN (by omega) 8 8 (by decide), nI_add, pk_ushrN (by omega) 16 16 (by decide), nI_add, n9 63, nx_and9, show (63 : Nat) = 2 ^ 6 - 1 from rfl, Nat.and_two_pow_sub_one_eq_mod]
  congr 1
  clear hy ht hr e1 e2 e3 k1 le1
  generalize pck a 8 = A at *
  generalize pck b 8 = B at *
  generalize pck c 8 = C at *
  generalize pck d 8 = E at *
  clear a1 b1 c1 d1 hu ha hb hc hd
  have h1 : (256 * (256 * (256 * E + C) + B) + A) / 2 ^ 8 = 256 * (256 * E + C) + B := by omega
  rw [h1]
  have h2 : (256 * (256 * (256 * E + C) + B) + A + (256 * (256 * E + C) + B)) / 2 ^ 16 = 256 * E + (C + E) := by omega
  rw [h2]
  omega
/-- how many of the first k have it -/
def cnt (p : Nat → Bool) : Nat → Nat
  | 0 => 0
  | k + 1 => cnt p k + (if p k = true then 1 else 0)
theorem cnt_le (p : Nat → Bool) : ∀ k, cnt p k ≤ k := by
  intro k
  induction k with
  | zero => exact Nat.le_refl 0
  | succ k ih => rw [cnt]; split <;> omega
theorem cnt_congr {p q : Nat → Bool} : ∀ k, (∀ j, j < k → p j = q j) → cnt p k = cnt q k := by
  intro k
  induction k with
  | zero => intro _; rfl
  | succ k ih => intro h; rw [cnt, cnt, ih (fun j hj => h j (by omega)), h k (by omega)]
theorem bc_cnt (x : Int32) : bcF x = nI (cnt (fun m => bt x m) 32) := by
  have hx : x = nI x.toBitVec.toNat := by
    apply Int32.toBitVec_inj.mp
    show x.toBitVec = BitVec.ofNat 32 x.toBitVec.toNat
    rw [BitVec.ofNat_toNat, BitVec.setWidth_eq]
  have e : ∀ k, k ≤ 32 → pck x.toBitVec.toNat k = cnt (fun m => bt x m) k := by
    intro k
    induction k with
    | zero => intro _; rfl
    | succ k ih =>
      intro hk
      rw [pck, cnt, ih (by omega)]
      rfl
  have h := bc_nI (u := x.toBitVec.toNat) x.toBitVec.isLt
  rw [← hx, e 32 (Nat.le_refl _)] at h
  exact h
