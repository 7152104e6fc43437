/-! the cells of the class: what stands where -/
def shl (s : Nat) : Nat := if s = 0 then 6 else 4
def pll (s : Nat) : Nat := if s = 0 then 40 else 80
def cfC (ad : Nat → Nat) (cI cP cB cA : ClassId) (S : Stt) (o : Nat) : va_E :=
  if o = 0 then .inr (7, [.ref (ad (1 + 0)), .ref (ad (1 + 1)), .ref (ad (34 + 0)), .ref (ad (34 + 1)), .ref (ad 23), .ref (ad 7), .ref (ad 8), .ref (ad 9), .ref (ad 10), .ref (ad 22), .int (S.1 61 0 0), .int (S.1 62 0 0), .long (S.2 0), .long (S.2 1)]) else
  if o < 3 then .inr (6, [.ref (ad (3 + (o - 1))), .ref (ad (5 + (o - 1)))]) else
  if o < 5 then .inl (cA, (shl (o - 3)), .inr (.inr (.inr (.inr (fun k => some (ad (24 + 6 * (o - 3) + k))))))) else
  if o < 7 then .inl (cI, (shl (o - 5)), .inl (S.1 19 (o - 5))) else
  if o = 7 then .inr (5, [(if S.1 22 0 0 = 0 then .null else .ref (ad (1 + 1))), .int (S.1 23 0 0), .int (S.1 24 0 0), .int (S.1 25 0 0), .int (S.1 26 0 0)]) else
  if o = 8 then .inr (1, [.ref (ad 11), .int (S.1 31 0 0), .int (S.1 32 0 0), .int (S.1 33 0 0), .ref (ad 12), .ref (ad 13), .int (S.1 36 0 0), .ref (ad 14)]) else
  if o = 9 then .inr (4, [.ref (ad 15), .ref (ad 16), .int (S.1 42 0 0), .ref (ad 17), .ref (ad 18), .ref (ad 19), .int (S.1 46 0 0)]) else
  if o = 10 then .inr (2, [.ref (ad 20), .ref (ad 21), .int (S.1 52 0 0)]) else
  if o = 11 then .inl (cI, 25, .inl (S.1 30 0)) else
  if o = 12 then .inl (cI, 6, .inl (S.1 34 0)) else
  if o = 13 then .inl (cI, 6, .inl (S.1 35 0)) else
  if o = 14 then .inl (cI, 6, .inl (S.1 37 0)) else
  if o = 15 then .inl (cI, 21, .inl (S.1 40 0)) else
  if o = 16 then .inl (cI, 8, .inl (S.1 41 0)) else
  if o = 17 then .inl (cI, 8, .inl (S.1 43 0)) else
  if o = 18 then .inl (cI, 8, .inl (S.1 44 0)) else
  if o = 19 then .inl (cI, 8, .inl (S.1 45 0)) else
  if o = 20 then .inl (cI, 6, .inl (S.1 50 0)) else
  if o = 21 then .inl (cI, 6, .inl (S.1 51 0)) else
  if o = 22 then .inl (cI, 6, .inl (S.1 60 0)) else
  if o = 23 then .inl (cB, 3, .inr (.inr (.inr (.inr (fun k => some (ad (34 + (2 + k)))))))) else
  if o < 30 then .inl (cI, 40, .inl (S.1 20 (o - 24))) else
  if o < 34 then .inl (cI, 80, .inl (S.1 21 (o - 30))) else
  if o < 39 then .inr (0, [.ref (ad (39 + (o - 34))), .ref (ad (44 + (o - 34))), .int (S.1 17 (o - 34) 0)]) else
  if o < 44 then .inl (cP, 6, .inr (.inr (.inr (.inr (fun k => some (ad (49 + 6 * (o - 39) + k))))))) else
  if o < 49 then .inl (cI, 6, .inl (S.1 18 (o - 44))) else
  .inr (3, [.int (S.1 10 ((o - 49) / 6) ((o - 49) % 6)), .int (S.1 11 ((o - 49) / 6) ((o - 49) % 6)), .int (S.1 12 ((o - 49) / 6) ((o - 49) % 6)), .int (S.1 13 ((o - 49) / 6) ((o - 49) % 6)), .int (S.1 14 ((o - 49) / 6) ((o - 49) % 6)), .int (S.1 15 ((o - 49) / 6) ((o - 49) % 6)), .int (S.1 16 ((o - 49) / 6) ((o - 49) % 6))])
/-- whose cell a place of the state is in -/
def ow (F a i : Nat) : Nat :=
  if F = 10 then (49 + 6 * a + i) else
  if F = 11 then (49 + 6 * a + i) else
  if F = 12 then (49 + 6 * a + i) else
  if F = 13 then (49 + 6 * a + i) else
  if F = 14 then (49 + 6 * a + i) else
  if F = 15 then (49 + 6 * a + i) else
  if F = 16 then (49 + 6 * a + i) else
  if F = 17 then (34 + a) else
  if F = 18 then (44 + a) else
  if F = 19 then (5 + a) else
  if F = 20 then (24 + a) else
  if F = 21 then (30 + a) else
  if F = 22 then 7 else
  if F = 23 then 7 else
  if F = 24 then 7 else
  if F = 25 then 7 else
  if F = 26 then 7 else
  if F = 30 then 11 else
  if F = 31 then 8 else
  if F = 32 then 8 else
  if F = 33 then 8 else
  if F = 34 then 12 else
  if F = 35 then 13 else
  if F = 36 then 8 else
  if F = 37 then 14 else
  if F = 40 then 15 else
  if F = 41 then 16 else
  if F = 42 then 9 else
  if F = 43 then 17 else
  if F = 44 then 18 else
  if F = 45 then 19 else
  if F = 46 then 9 else
  if F = 50 then 20 else
  if F = 51 then 21 else
  if F = 52 then 10 else
  if F = 60 then 22 else
  if F = 61 then 0 else
  if F = 62 then 0 else
  1000
set_option maxHeartbeats 4000000 in
theorem cfC_congr {ad : Nat → Nat} {cI cP cB cA : ClassId} {S S2 : Stt} {o : Nat} (h : ∀ F a i, ow F a i = o → S2.1 F a i = S.1 F a i) (h2 : o = 0 → S2.2 = S.2) : cfC ad cI cP cB cA S2 o = cfC ad cI cP cB cA S o := by
  unfold cfC
  by_cases c0 : o = 0
  · rw [if_pos c0, if_pos c0]
    have e0 : S2.1 61 0 0 = S.1 61 0 0 := h 61 0 0 (by show 0 = o; omega)
    have e1 : S2.1 62 0 0 = S.1 62 0 0 := h 62 0 0 (by show 0 = o; omega)
    have e2 : S2.2 = S.2 := h2 c0
    rw [e0, e1, e2]
  rw [if_neg c0, if_neg c0]
  by_cases c1 : o < 3
  · rw [if_pos c1, if_pos c1]
  rw [if_neg c1, if_neg c1]
  by_cases c2 : o < 5
  · rw [if_pos c2, if_pos c2]
  rw [if_neg c2, if_neg c2]
  by_cases c3 : o < 7
  · rw [if_pos c3, if_pos c3]
    have e0 : S2.1 19 (o - 5) = S.1 19 (o - 5) := funext fun i => h 19 (o - 5) i (by show (5 + (o - 5)) = o; omega)
    rw [e0]
  rw [if_neg c3, if_neg c3]
  by_cases c4 : o = 7
  · rw [if_pos c4, if_pos c4]
    have e0 : S2.1 22 0 0 = S.1 22 0 0 := h 22 0 0 (by show 7 = o; omega)
    have e1 : S2.1 23 0 0 = S.1 23 0 0 := h 23 0 0 (by show 7 = o; omega)
    have e2 : S2.1 24 0 0 = S.1 24 0 0 := h 24 0 0 (by show 7 = o; omega)
    have e3 : S2.1 25 0 0 = S.1 25 0 0 := h 25 0 0 (by show 7 = o; omega)
    have e4 : S2.1 26 0 0 = S.1 26 0 0 := h 26 0 0 (by show 7 = o; omega)
    rw [e0, e1, e2, e3, e4]
  rw [if_neg c4, if_neg c4]
  by_cases c5 : o = 8
  · rw [if_pos c5, if_pos c5]
    have e0 : S2.1 31 0 0 = S.1 31 0 0 := h 31 0 0 (by show 8 = o; omega)
    have e1 : S2.1 32 0 0 = S.1 32 0 0 := h 32 0 0 (by show 8 = o; omega)
    have e2 : S2.1 33 0 0 = S.1 33 0 0 := h 33 0 0 (by show 8 = o; omega)
    have e3 : S2.1 36 0 0 = S.1 36 0 0 := h 36 0 0 (by show 8 = o; omega)
    rw [e0, e1, e2, e3]
  rw [if_neg c5, if_neg c5]
  by_cases c6 : o = 9
  · rw [if_pos c6, if_pos c6]
    have e0 : S2.1 42 0 0 = S.1 42 0 0 := h 42 0 0 (by show 9 = o; omega)
    have e1 : S2.1 46 0 0 = S.1 46 0 0 := h 46 0 0 (by show 9 = o; omega)
    rw [e0, e1]
  rw [if_neg c6, if_neg c6]
  by_cases c7 : o = 10
  · rw [if_pos c7, if_pos c7]
    have e0 : S2.1 52 0 0 = S.1 52 0 0 := h 52 0 0 (by show 10 = o; omega)
    rw [e0]
  rw [if_neg c7, if_neg c7]
  by_cases c8 : o = 11
  · rw [if_pos c8, if_pos c8]
    have e0 : S2.1 30 0 = S.1 30 0 := funext fun i => h 30 0 i (by show 11 = o; omega)
    rw [e0]
  rw [if_neg c8, if_neg c8]
  by_cases c9 : o = 12
  · rw [if_pos c9, if_pos c9]
    have e0 : S2.1 34 0 = S.1 34 0 := funext fun i => h 34 0 i (by show 12 = o; omega)
    rw [e0]
  rw [if_neg c9, if_neg c9]
  by_cases c10 : o = 13
  · rw [if_pos c10, if_pos c10]
    have e0 : S2.1 35 0 = S.1 35 0 := funext fun i => h 35 0 i (by show 13 = o; omega)
    rw [e0]
  rw [if_neg c10, if_neg c10]
  by_cases c11 : o = 14
  · rw [if_pos c11, if_pos c11]
    have e0 : S2.1 37 0 = S.1 37 0 := funext fun i => h 37 0 i (by show 14 = o; omega)
    rw [e0]
  rw [if_neg c11, if_neg c11]
  by_cases c12 : o = 15
  · rw [if_pos c12, if_pos c12]
    have e0 : S2.1 40 0 = S.1 40 0 := funext fun i => h 40 0 i (by show 15 = o; omega)
    rw [e0]
  rw [if_neg c12, if_neg c12]
  by_cases c13 : o = 16
  · rw [if_pos c13, if_pos c13]
    have e0 : S2.1 41 0 = S.1 41 0 := funext fun i => h 41 0 i (by show 16 = o; omega)
    rw [e0]
  rw [if_neg c13, if_neg c13]
  by_cases c14 : o = 17
  · rw [if_pos c14, if_pos c14]
    have e0 : S2.1 43 0 = S.1 43 0 := funext fun i => h 43 0 i (by show 17 = o; omega)
    rw [e0]
  rw [if_neg c14, if_neg c14]
  by_cases c15 : o = 18
  · rw [if_pos c15, if_pos c15]
    have e0 : S2.1 44 0 = S.1 44 0 := funext fun i => h 44 0 i (by show 18 = o; omega)
    rw [e0]
  rw [if_neg c15, if_neg c15]
  by_cases c16 : o = 19
  · rw [if_pos c16, if_pos c16]
    have e0 : S2.1 45 0 = S.1 45 0 := funext fun i => h 45 0 i (by show 19 = o; omega)
    rw [e0]
  rw [if_neg c16, if_neg c16]
  by_cases c17 : o = 20
  · rw [if_pos c17, if_pos c17]
    have e0 : S2.1 50 0 = S.1 50 0 := funext fun i => h 50 0 i (by show 20 = o; omega)
    rw [e0]
  rw [if_neg c17, if_neg c17]
  by_cases c18 : o = 21
  · rw [if_pos c18, if_pos c18]
    have e0 : S2.1 51 0 = S.1 51 0 := funext fun i => h 51 0 i (by show 21 = o; omega)
    rw [e0]
  rw [if_neg c18, if_neg c18]
  by_cases c19 : o = 22
  · rw [if_pos c19, if_pos c19]
    have e0 : S2.1 60 0 = S.1 60 0 := funext fun i => h 60 0 i (by show 22 = o; omega)
    rw [e0]
  rw [if_neg c19, if_neg c19]
  by_cases c20 : o = 23
  · rw [if_pos c20, if_pos c20]
  rw [if_neg c20, if_neg c20]
  by_cases c21 : o < 30
  · rw [if_pos c21, if_pos c21]
    have e0 : S2.1 20 (o - 24) = S.1 20 (o - 24) := funext fun i => h 20 (o - 24) i (by show (24 + (o - 24)) = o; omega)
    rw [e0]
  rw [if_neg c21, if_neg c21]
  by_cases c22 : o < 34
  · rw [if_pos c22, if_pos c22]
    have e0 : S2.1 21 (o - 30) = S.1 21 (o - 30) := funext fun i => h 21 (o - 30) i (by show (30 + (o - 30)) = o; omega)
    rw [e0]
  rw [if_neg c22, if_neg c22]
  by_cases c23 : o < 39
  · rw [if_pos c23, if_pos c23]
    have e0 : S2.1 17 (o - 34) 0 = S.1 17 (o - 34) 0 := h 17 (o - 34) 0 (by show (34 + (o - 34)) = o; omega)
    rw [e0]
  rw [if_neg c23, if_neg c23]
  by_cases c24 : o < 44
  · rw [if_pos c24, if_pos c24]
  rw [if_neg c24, if_neg c24]
  by_cases c25 : o < 49
  · rw [if_pos c25, if_pos c25]
    have e0 : S2.1 18 (o - 44) = S.1 18 (o - 44) := funext fun i => h 18 (o - 44) i (by show (44 + (o - 44)) = o; omega)
    rw [e0]
  rw [if_neg c25, if_neg c25]
  have e0 : S2.1 10 ((o - 49) / 6) ((o - 49) % 6) = S.1 10 ((o - 49) / 6) ((o - 49) % 6) := h 10 ((o - 49) / 6) ((o - 49) % 6) (by show 49 + 6 * ((o - 49) / 6) + ((o - 49) % 6) = o; omega)
  have e1 : S2.1 11 ((o - 49) / 6) ((o - 49) % 6) = S.1 11 ((o - 49) / 6) ((o - 49) % 6) := h 11 ((o - 49) / 6) ((o - 49) % 6) (by show 49 + 6 * ((o - 49) / 6) + ((o - 49) % 6) = o; omega)
  have e2 : S2.1 12 ((o - 49) / 6) ((o - 49) % 6) = S.1 12 ((o - 49) / 6) ((o - 49) % 6) := h 12 ((o - 49) / 6) ((o - 49) % 6) (by show 49 + 6 * ((o - 49) / 6) + ((o - 49) % 6) = o; omega)
  have e3 : S2.1 13 ((o - 49) / 6) ((o - 49) % 6) = S.1 13 ((o - 49) / 6) ((o - 49) % 6) := h 13 ((o - 49) / 6) ((o - 49) % 6) (by show 49 + 6 * ((o - 49) / 6) + ((o - 49) % 6) = o; omega)
  have e4 : S2.1 14 ((o - 49) / 6) ((o - 49) % 6) = S.1 14 ((o - 49) / 6) ((o - 49) % 6) := h 14 ((o - 49) / 6) ((o - 49) % 6) (by show 49 + 6 * ((o - 49) / 6) + ((o - 49) % 6) = o; omega)
  have e5 : S2.1 15 ((o - 49) / 6) ((o - 49) % 6) = S.1 15 ((o - 49) / 6) ((o - 49) % 6) := h 15 ((o - 49) / 6) ((o - 49) % 6) (by show 49 + 6 * ((o - 49) / 6) + ((o - 49) % 6) = o; omega)
  have e6 : S2.1 16 ((o - 49) / 6) ((o - 49) % 6) = S.1 16 ((o - 49) / 6) ((o - 49) % 6) := h 16 ((o - 49) / 6) ((o - 49) % 6) (by show 49 + 6 * ((o - 49) / 6) + ((o - 49) % 6) = o; omega)
  rw [e0, e1, e2, e3, e4, e5, e6]
theorem cfC_put {ad : Nat → Nat} {cI cP cB cA : ClassId} {S : Stt} {o F a i : Nat} {x : Int32} (h : o ≠ ow F a i) : cfC ad cI cP cB cA (put S F a i x) o = cfC ad cI cP cB cA S o := by
  refine cfC_congr (fun F2 a2 i2 e => put_ne ?_) (fun _ => rfl)
  rintro ⟨rfl, rfl, rfl⟩
  exact h e.symm
theorem cfC_putA {ad : Nat → Nat} {cI cP cB cA : ClassId} {S : Stt} {o F a : Nat} {f : Nat → Int32} (h : ∀ i, o ≠ ow F a i) : cfC ad cI cP cB cA (putA S F a f) o = cfC ad cI cP cB cA S o := by
  refine cfC_congr (fun F2 a2 i2 e => putA_ne ?_) (fun _ => rfl)
  rintro ⟨rfl, rfl⟩
  exact h i2 e.symm
theorem cfC_putL {ad : Nat → Nat} {cI cP cB cA : ClassId} {S : Stt} {o k : Nat} {x : Int64} (h : o ≠ 0) : cfC ad cI cP cB cA (putL S k x) o = cfC ad cI cP cB cA S o := cfC_congr (fun _ _ _ _ => rfl) (fun q => absurd q h)
theorem cf_LP {ad : Nat → Nat} {cI cP cB cA : ClassId} {S : Stt} : cfC ad cI cP cB cA S 0 = .inr (7, [.ref (ad (1 + 0)), .ref (ad (1 + 1)), .ref (ad (34 + 0)), .ref (ad (34 + 1)), .ref (ad 23), .ref (ad 7), .ref (ad 8), .ref (ad 9), .ref (ad 10), .ref (ad 22), .int (S.1 61 0 0), .int (S.1 62 0 0), .long (S.2 0), .long (S.2 1)]) := by
  rfl
theorem cf_Scribe {ad : Nat → Nat} {cI cP cB cA : ClassId} {S : Stt} : cfC ad cI cP cB cA S 7 = .inr (5, [(if S.1 22 0 0 = 0 then .null else .ref (ad (1 + 1))), .int (S.1 23 0 0), .int (S.1 24 0 0), .int (S.1 25 0 0), .int (S.1 26 0 0)]) := by
  rfl
theorem cf_Court {ad : Nat → Nat} {cI cP cB cA : ClassId} {S : Stt} : cfC ad cI cP cB cA S 8 = .inr (1, [.ref (ad 11), .int (S.1 31 0 0), .int (S.1 32 0 0), .int (S.1 33 0 0), .ref (ad 12), .ref (ad 13), .int (S.1 36 0 0), .ref (ad 14)]) := by
  rfl
theorem cf_Planner {ad : Nat → Nat} {cI cP cB cA : ClassId} {S : Stt} : cfC ad cI cP cB cA S 9 = .inr (4, [.ref (ad 15), .ref (ad 16), .int (S.1 42 0 0), .ref (ad 17), .ref (ad 18), .ref (ad 19), .int (S.1 46 0 0)]) := by
  rfl
theorem cf_Orders {ad : Nat → Nat} {cI cP cB cA : ClassId} {S : Stt} : cfC ad cI cP cB cA S 10 = .inr (2, [.ref (ad 20), .ref (ad 21), .int (S.1 52 0 0)]) := by
  rfl
theorem cf_ones {ad : Nat → Nat} {cI cP cB cA : ClassId} {S : Stt} : cfC ad cI cP cB cA S 11 = .inl (cI, 25, .inl (S.1 30 0)) := by
  rfl
theorem cf_alwaysOn {ad : Nat → Nat} {cI cP cB cA : ClassId} {S : Stt} : cfC ad cI cP cB cA S 12 = .inl (cI, 6, .inl (S.1 34 0)) := by
  rfl
theorem cf_everOn {ad : Nat → Nat} {cI cP cB cA : ClassId} {S : Stt} : cfC ad cI cP cB cA S 13 = .inl (cI, 6, .inl (S.1 35 0)) := by
  rfl
theorem cf_flipDays {ad : Nat → Nat} {cI cP cB cA : ClassId} {S : Stt} : cfC ad cI cP cB cA S 14 = .inl (cI, 6, .inl (S.1 37 0)) := by
  rfl
theorem cf_clearOn {ad : Nat → Nat} {cI cP cB cA : ClassId} {S : Stt} : cfC ad cI cP cB cA S 15 = .inl (cI, 21, .inl (S.1 40 0)) := by
  rfl
theorem cf_deeds {ad : Nat → Nat} {cI cP cB cA : ClassId} {S : Stt} : cfC ad cI cP cB cA S 16 = .inl (cI, 8, .inl (S.1 41 0)) := by
  rfl
theorem cf_pdays {ad : Nat → Nat} {cI cP cB cA : ClassId} {S : Stt} : cfC ad cI cP cB cA S 17 = .inl (cI, 8, .inl (S.1 43 0)) := by
  rfl
theorem cf_ptried {ad : Nat → Nat} {cI cP cB cA : ClassId} {S : Stt} : cfC ad cI cP cB cA S 18 = .inl (cI, 8, .inl (S.1 44 0)) := by
  rfl
theorem cf_pplaces {ad : Nat → Nat} {cI cP cB cA : ClassId} {S : Stt} : cfC ad cI cP cB cA S 19 = .inl (cI, 8, .inl (S.1 45 0)) := by
  rfl
theorem cf_otried {ad : Nat → Nat} {cI cP cB cA : ClassId} {S : Stt} : cfC ad cI cP cB cA S 20 = .inl (cI, 6, .inl (S.1 50 0)) := by
  rfl
theorem cf_obest {ad : Nat → Nat} {cI cP cB cA : ClassId} {S : Stt} : cfC ad cI cP cB cA S 21 = .inl (cI, 6, .inl (S.1 51 0)) := by
  rfl
theorem cf_found {ad : Nat → Nat} {cI cP cB cA : ClassId} {S : Stt} : cfC ad cI cP cB cA S 22 = .inl (cI, 6, .inl (S.1 60 0)) := by
  rfl
theorem cf_kept {ad : Nat → Nat} {cI cP cB cA : ClassId} {S : Stt} : cfC ad cI cP cB cA S 23 = .inl (cB, 3, .inr (.inr (.inr (.inr (fun k => some (ad (34 + (2 + k)))))))) := by
  rfl
theorem cf_Shelf {ad : Nat → Nat} {cI cP cB cA : ClassId} {S : Stt} {s : Nat} (h0 : s < 2) : cfC ad cI cP cB cA S (1 + s) = .inr (6, [.ref (ad (3 + s)), .ref (ad (5 + s))]) := by
  rcases (show s = 0 ∨ s = 1 by omega) with rfl | rfl <;> rfl
theorem cf_grid {ad : Nat → Nat} {cI cP cB cA : ClassId} {S : Stt} {s : Nat} (h0 : s < 2) : cfC ad cI cP cB cA S (3 + s) = .inl (cA, (shl s), .inr (.inr (.inr (.inr (fun k => some (ad (24 + 6 * s + k))))))) := by
  rcases (show s = 0 ∨ s = 1 by omega) with rfl | rfl <;> rfl
theorem cf_sizes {ad : Nat → Nat} {cI cP cB cA : ClassId} {S : Stt} {s : Nat} (h0 : s < 2) : cfC ad cI cP cB cA S (5 + s) = .inl (cI, (shl s), .inl (S.1 19 s)) := by
  rcases (show s = 0 ∨ s = 1 by omega) with rfl | rfl <;> rfl
theorem cf_Book {ad : Nat → Nat} {cI cP cB cA : ClassId} {S : Stt} {b : Nat} (h0 : b < 5) : cfC ad cI cP cB cA S (34 + b) = .inr (0, [.ref (ad (39 + b)), .ref (ad (44 + b)), .int (S.1 17 b 0)]) := by
  rcases (show b = 0 ∨ b = 1 ∨ b = 2 ∨ b = 3 ∨ b = 4 by omega) with rfl | rfl | rfl | rfl | rfl <;> rfl
theorem cf_pages {ad : Nat → Nat} {cI cP cB cA : ClassId} {S : Stt} {b : Nat} (h0 : b < 5) : cfC ad cI cP cB cA S (39 + b) = .inl (cP, 6, .inr (.inr (.inr (.inr (fun k => some (ad (49 + 6 * b + k))))))) := by
  rcases (show b = 0 ∨ b = 1 ∨ b = 2 ∨ b = 3 ∨ b = 4 by omega) with rfl | rfl | rfl | rfl | rfl <;> rfl
theorem cf_ranked {ad : Nat → Nat} {cI cP cB cA : ClassId} {S : Stt} {b : Nat} (h0 : b < 5) : cfC ad cI cP cB cA S (44 + b) = .inl (cI, 6, .inl (S.1 18 b)) := by
  rcases (show b = 0 ∨ b = 1 ∨ b = 2 ∨ b = 3 ∨ b = 4 by omega) with rfl | rfl | rfl | rfl | rfl <;> rfl
theorem cf_Page {ad : Nat → Nat} {cI cP cB cA : ClassId} {S : Stt} {b : Nat} {i : Nat} (h0 : b < 5) (h1 : i < 6) : cfC ad cI cP cB cA S (49 + 6 * b + i) = .inr (3, [.int (S.1 10 b i), .int (S.1 11 b i), .int (S.1 12 b i), .int (S.1 13 b i), .int (S.1 14 b i), .int (S.1 15 b i), .int (S.1 16 b i)]) := by
  rcases (show b = 0 ∨ b = 1 ∨ b = 2 ∨ b = 3 ∨ b = 4 by omega) with rfl | rfl | rfl | rfl | rfl <;> rcases (show i = 0 ∨ i = 1 ∨ i = 2 ∨ i = 3 ∨ i = 4 ∨ i = 5 by omega) with rfl | rfl | rfl | rfl | rfl | rfl <;> rfl
theorem cf_inner {ad : Nat → Nat} {cI cP cB cA : ClassId} {S : Stt} {s : Nat} {r : Nat} (h0 : s < 2) (h1 : r < shl s) : cfC ad cI cP cB cA S (24 + 6 * s + r) = .inl (cI, pll s, .inl (S.1 (20 + s) r)) := by
  rcases (show s = 0 ∨ s = 1 by omega) with rfl | rfl
  · have h2 : r < 6 := h1
    rcases (show r = 0 ∨ r = 1 ∨ r = 2 ∨ r = 3 ∨ r = 4 ∨ r = 5 by omega) with rfl | rfl | rfl | rfl | rfl | rfl <;> rfl
  · have h2 : r < 4 := h1
    rcases (show r = 0 ∨ r = 1 ∨ r = 2 ∨ r = 3 by omega) with rfl | rfl | rfl | rfl <;> rfl
theorem shl_le (s : Nat) : shl s ≤ 6 := by unfold shl; split <;> omega
theorem shl_s {s r : Nat} (hs : s < 2) (hr : r < shl s) : 24 + 6 * s + r < 34 := by
  rcases (show s = 0 ∨ s = 1 by omega) with rfl | rfl
  · have h2 : r < 6 := hr
    omega
  · have h2 : r < 4 := hr
    omega
/-! the cells of the reference -/
def mlen (o : Nat) : Nat :=
  if o = 1 then 6 else
  if o = 2 then 6 else
  if o = 3 then 240 else
  if o = 4 then 40 else
  if o = 5 then 4 else
  if o = 6 then 320 else
  if o = 7 then 6 else
  if o = 8 then 6 else
  if o = 9 then 6 else
  if o = 10 then 6 else
  if o = 11 then 6 else
  if o = 12 then 6 else
  if o = 13 then 30 else
  if o = 14 then 114 else
  if o = 15 then 8 else
  if o = 16 then 6 else
  if o = 17 then 6 else
  if o = 18 then 6 else
  0
def cfM (ad : Nat → Nat) (cI : ClassId) (S : Stt) (o : Nat) : va_E := if o = 0 then .inr (8, [.int (S.1 0 0 0), .ref (ad 1), .int (S.1 0 2 0), .long (S.2 3), .long (S.2 4), .ref (ad 2), .ref (ad 3), .ref (ad 4), .ref (ad 5), .ref (ad 6), .int (S.1 0 10 0), .ref (ad 7), .ref (ad 8), .ref (ad 9), .ref (ad 10), .ref (ad 11), .ref (ad 12), .int (S.1 0 17 0), .int (S.1 0 18 0), .ref (ad 13), .int (S.1 0 20 0), .ref (ad 14), .int (S.1 0 22 0), .ref (ad 15), .int (S.1 0 24 0), .ref (ad 16), .int (S.1 0 26 0), .ref (ad 17), .int (S.1 0 28 0), .ref (ad 18), .long (S.2 30)]) else .inl (cI, mlen o, .inl (S.1 o 0))
theorem cf_M {ad : Nat → Nat} {cI : ClassId} {S : Stt} : cfM ad cI S 0 = .inr (8, [.int (S.1 0 0 0), .ref (ad 1), .int (S.1 0 2 0), .long (S.2 3), .long (S.2 4), .ref (ad 2), .ref (ad 3), .ref (ad 4), .ref (ad 5), .ref (ad 6), .int (S.1 0 10 0), .ref (ad 7), .ref (ad 8), .ref (ad 9), .ref (ad 10), .ref (ad 11), .ref (ad 12), .int (S.1 0 17 0), .int (S.1 0 18 0), .ref (ad 13), .int (S.1 0 20 0), .ref (ad 14), .int (S.1 0 22 0), .ref (ad 15), .int (S.1 0 24 0), .ref (ad 16), .int (S.1 0 26 0), .ref (ad 17), .int (S.1 0 28 0), .ref (ad 18), .long (S.2 30)]) := by
  rfl
theorem cfM_congr {ad : Nat → Nat} {cI : ClassId} {S S2 : Stt} {o : Nat} (h : ∀ F a i, F = o → S2.1 F a i = S.1 F a i) (h2 : o = 0 → S2.2 = S.2) : cfM ad cI S2 o = cfM ad cI S o := by
  unfold cfM
  have e : S2.1 o = S.1 o := funext fun a => funext fun i => h o a i rfl
  by_cases c : o = 0
  · subst c
    rw [if_pos rfl, if_pos rfl, h2 rfl]
    rw [e]
  · rw [if_neg c, if_neg c, e]
theorem cfM_put {ad : Nat → Nat} {cI : ClassId} {S : Stt} {o F a i : Nat} {x : Int32} (h : o ≠ F) : cfM ad cI (put S F a i x) o = cfM ad cI S o := by
  refine cfM_congr (fun F2 a2 i2 e => put_ne ?_) (fun _ => rfl)
  rintro ⟨rfl, -, -⟩
  exact h e.symm
theorem cfM_putL {ad : Nat → Nat} {cI : ClassId} {S : Stt} {o k : Nat} {x : Int64} (h : o ≠ 0) : cfM ad cI (putL S k x) o = cfM ad cI S o := cfM_congr (fun _ _ _ _ => rfl) (fun q => absurd q h)
