/-! add, rip, keep, on -/
def stp (F : Nat) (x : Int32) (k : Stt → Option (Int32 × Stt)) (T : Stt) : Option (Int32 × Stt) := grd (ixb (T.1 0 10 0) 6) (k (put T F 0 (T.1 0 10 0).toNatClampNeg x))
def stz (T : Stt) : Option (Int32 × Stt) := grd (ixb (T.1 0 10 0) 6) (some ((put (put T 12 0 (T.1 0 10 0).toNatClampNeg (T.1 0 10 0)) 0 10 0 ((put T 12 0 (T.1 0 10 0).toNatClampNeg (T.1 0 10 0)).1 0 10 0 + 1)).1 0 10 0 - 1, put (put T 12 0 (T.1 0 10 0).toNatClampNeg (T.1 0 10 0)) 0 10 0 ((put T 12 0 (T.1 0 10 0).toNatClampNeg (T.1 0 10 0)).1 0 10 0 + 1)))
theorem add_let (x1 x2 : Int32) (S : Stt) : f_X8_add x1 x2 S = (f_X8_in x1 (0 : Int32) (1 : Int32) S).bind fun q1 => if q1.1 = 0 then (some ((-1 : Int32), q1.2)) else ((f_X8_in x2 (0 : Int32) (127 : Int32) q1.2).bind fun q4 => if q4.1 = 0 then (some ((-1 : Int32), q4.2)) else (if (q4.2.1 0 10 0) = (6 : Int32) then (some ((-2 : Int32), q4.2)) else stp 7 0 (stp 8 x1 (stp 9 x2 (stp 10 (-9) (stp 11 (-9) stz)))) q4.2)) := rfl
theorem stp_eq {T : Stt} {n : Nat} (hn : n < 6) (h : T.1 0 10 0 = nI n) (F : Nat) (x : Int32) (k : Stt → Option (Int32 × Stt)) : stp F x k T = k (put T F 0 n x) := by
  unfold stp
  rw [h, ixb_nI hn (by omega), grd_t, cl_nI (by omega)]
theorem addM_eq {M : Stt} {n : Nat} (hn : n < 6) (h : M.1 0 10 0 = nI n) (x1 x2 : Int32) : stp 7 0 (stp 8 x1 (stp 9 x2 (stp 10 (-9) (stp 11 (-9) stz)))) M = some (nI n, put (put (put (put (put (put (put M 7 0 n 0) 8 0 n x1) 9 0 n x2) 10 0 n (-9)) 11 0 n (-9)) 12 0 n (nI n)) 0 10 0 (nI (n + 1))) := by
  have k : ∀ (T : Stt) F x, T.1 0 10 0 = nI n → F ≠ 0 → (put T F 0 n x).1 0 10 0 = nI n := fun T F x q1 q2 => by rw [put_at, if_neg (by omega)]; exact q1
  have h1 := k M 7 0 h (by omega)
  have h2 := k _ 8 x1 h1 (by omega)
  have h3 := k _ 9 x2 h2 (by omega)
  have h4 := k _ 10 (-9) h3 (by omega)
  have h5 := k _ 11 (-9) h4 (by omega)
  have h6 := k _ 12 (nI n) h5 (by omega)
  rw [stp_eq hn h, stp_eq hn h1, stp_eq hn h2, stp_eq hn h3, stp_eq hn h4]
  unfold stz
  rw [h5, ixb_nI hn (by omega), grd_t, cl_nI (by omega), h6, put_at, if_pos ⟨rfl, rfl, rfl⟩, nI_1, nIm1 (by omega), Nat.add_sub_cancel]
/-- a page behind the others -/
def addQ (Q : Nat → Nat → Nat) (n a0 a1 a2 a3 a4 a5 : Nat) : Nat → Nat → Nat := fun k i => if i = n then (if k = 0 then a0 else if k = 1 then a1 else if k = 2 then a2 else if k = 3 then a3 else if k = 4 then a4 else a5) else Q k i
theorem addQ_lo {Q : Nat → Nat → Nat} {n a0 a1 a2 a3 a4 a5 k i : Nat} (h : i < n) : addQ Q n a0 a1 a2 a3 a4 a5 k i = Q k i := if_neg (by omega)
theorem addQ_n (Q : Nat → Nat → Nat) (n a0 a1 a2 a3 a4 a5 k : Nat) : addQ Q n a0 a1 a2 a3 a4 a5 k n = (if k = 0 then a0 else if k = 1 then a1 else if k = 2 then a2 else if k = 3 then a3 else if k = 4 then a4 else a5) := if_pos rfl
theorem BkV.addQ {n : Nat} {Q : Nat → Nat → Nat} (h : BkV n Q) (hn : n < 6) {a0 a1 a2 a3 a4 a5 : Nat} (h0 : a0 ≤ 5) (h1 : (a0 = 2 ∨ a0 = 5) → a1 ≤ 5) (h2 : a2 ≤ 1) (h3 : a3 < 128) (h4 : a0 = 3 → a4 ≤ 4 ∧ (a3 = 32 ∨ a3 = 64)) (h5 : a5 ≤ 99) : BkV (n + 1) (addQ Q n a0 a1 a2 a3 a4 a5) := by
  refine ⟨by omega, fun i hi => ?_⟩
  by_cases c : i = n
  · subst c
    unfold PgV
    rw [addQ_n, addQ_n, addQ_n, addQ_n, addQ_n, addQ_n]
    exact ⟨h0, h1, h2, h3, h4, h5⟩
  · have := h.2 i (by omega)
    unfold PgV at *
    rw [addQ_lo (by omega), addQ_lo (by omega), addQ_lo (by omega), addQ_lo (by omega), addQ_lo (by omega), addQ_lo (by omega)]
    exact this
theorem sim_add (x1 x2 : Int32) : SimI (f_X7_add x1 x2) (f_X8_add x1 x2) := by
  intro S M h
  obtain ⟨n, Q, hV, hB, hR, hM, hDP, hL, hr⟩ := h.bk
  have hn := hV.1
  unfold f_X7_add
  rw [add_let, in_eq, obind]
  rcases verd2 x1 with ⟨b1, b2⟩ | ⟨v, hv, rfl, b1, b2⟩
  · exact ⟨-1, S, M, by rw [b1, obind, if_pos rfl], by rw [if_neg b2, if_pos rfl], h⟩
  rw [b1, obind, if_neg n10, if_pos b2, if_neg n10, in_eq, obind, n9 127]
  rcases ixle x2 (k := 127) (by omega) with ⟨c1, c2⟩ | ⟨w, hw, rfl, c1, c2, c3⟩
  · refine ⟨-1, S, M, ?_, by rw [if_neg c1, if_pos rfl], h⟩
    rcases c2 with c2 | ⟨c2, c3⟩
    · rw [if_pos c2]
    · rw [if_neg c2, if_neg]
      intro q
      rw [Int32.lt_iff_toInt_lt] at c3
      rw [Int32.le_iff_toInt_le] at q
      omega
  rw [if_neg c1, if_pos c3.2, if_pos c3, if_neg n10]
  dsimp only
  rw [hB.1, hM.1, n9 6, nI_if (by omega) (by omega), nI_if (by omega) (by omega)]
  by_cases c : n = 6
  · exact ⟨-2, S, M, by rw [if_pos c], by rw [if_pos c], h⟩
  rw [if_neg c, if_neg c, addM_eq (by omega) hM.1]
  have hV2 : BkV (n + 1) (addQ Q n 0 0 v w 0 n) := hV.addQ (by omega) (by omega) (by omega) hv (by omega) (by omega) (by omega)
  obtain ⟨S', e1, e2, e3, e4, e5, e6, e7⟩ := append_eq (x1 := 0) (x2 := -9) (x3 := nI v) (x5 := -9) hB (fun k i hi => addQ_lo hi) hV2 (by rw [addQ_n]; rfl) (by rw [addQ_n]; intro q; cases q <;> contradiction) (by rw [addQ_n]; rfl) (by rw [addQ_n]; intro q; contradiction) (by rw [addQ_n]; rfl)
  rw [addQ_n] at e1
  have e1 : f_X0_append 0 0 (-9) (nI v) (nI w) (-9) S = some S' := e1
  rw [e1, obind]
  refine ⟨nI n, S', _, ?_, rfl, h.book1 e2 (fun F a j q1 q2 => ?_) rfl ⟨n + 1, _, hV2, e3, e4, ⟨?_, fun i hi => ?_⟩, ⟨fun i hi => ?_, fun i j hi hj e => ?_⟩, fun i hi => ?_⟩⟩
  · rw [e3.1, nIm1 (by omega), Nat.add_sub_cancel]
  · rw [put_at, if_neg (by omega), put_at, if_neg (by omega), put_at, if_neg (by omega), put_at, if_neg (by omega), put_at, if_neg (by omega), put_at, if_neg (by omega), put_at, if_neg (by omega)]
  · rw [put_at, if_pos ⟨rfl, rfl, rfl⟩]
  · by_cases ci : i = n
    · subst ci
      unfold PgM
      rw [addQ_n, addQ_n, addQ_n, addQ_n, addQ_n, addQ_n]
      refine ⟨?_, fun q => by rcases q with q | q <;> contradiction, ?_, ?_, fun q => by contradiction, ?_⟩ <;> simp [put_at] <;> rfl
    · have := hM.2 i (by omega)
      unfold PgM at *
      rw [addQ_lo (by omega), addQ_lo (by omega), addQ_lo (by omega), addQ_lo (by omega), addQ_lo (by omega), addQ_lo (by omega)]
      simp [put_at, ci]
      exact this
  · by_cases ci : i = n
    · subst ci
      rw [addQ_n]
      exact Nat.lt_succ_self _
    · rw [addQ_lo (by omega)]
      have := hDP.1 i (by omega)
      omega
  · by_cases ci : i = n
    · subst ci
      rw [addQ_n] at e
      by_cases cj : j = i
      · exact cj.symm
      · rw [addQ_lo (by omega)] at e
        have := hDP.1 j (by omega)
        have e : i = Q 5 j := e
        omega
    · rw [addQ_lo (by omega)] at e
      by_cases cj : j = n
      · subst cj
        rw [addQ_n] at e
        have := hDP.1 i (by omega)
        have e : Q 5 i = j := e
        omega
      · rw [addQ_lo (by omega)] at e
        exact hDP.2 i j (by omega) (by omega) e
  · by_cases ci : i = n
    · subst ci
      rw [e5, e6]
      simp [put_at]
    · rw [e7 11 i (by omega) (by omega) (by omega), e7 14 i (by omega) (by omega) (by omega)]
      simp [put_at, ci]
      exact hr i (by omega)
/-! rip -/
theorem drop_loop {b n : Nat} {Q : Nat → Nat → Nat} (hn : n ≤ 6) {t : Nat} (ht : t ≤ 99) (hq : ∀ i, i < n → Q 5 i ≤ 99) (ke : Nat → Stt → Option Stt) : ∀ (k i fuel : Nat) (S : Stt), i + k = n → k < fuel → S.1 17 b 0 = nI n → (∀ j, i ≤ j → j < n → S.1 15 b j = nI (Q 5 j)) → ∃ S', fl_X0_dropLast_33 ke fuel b (nI t) (nI i) S = ke b S' ∧ (∀ F a j, ¬ (F = 15 ∧ a = b ∧ i ≤ j) → S'.1 F a j = S.1 F a j) ∧ S'.2 = S.2 ∧ ∀ j, i ≤ j → j < n → S'.1 15 b j = nI (if t < Q 5 j then Q 5 j - 1 else Q 5 j) := by
  intro k
  induction k with
  | zero =>
    intro i fuel S h1 h2 hc hd
    obtain ⟨g, rfl⟩ : ∃ g, fuel = g + 1 := ⟨fuel - 1, by omega⟩
    refine ⟨S, ?_, fun _ _ _ _ => rfl, rfl, fun j q1 q2 => absurd q2 (by omega)⟩
    rw [fls_X0_dropLast_33]
    unfold fb_X0_dropLast_33
    rw [hc, nI_ifle (by omega) (by omega), if_pos (by omega)]
  | succ k ih =>
    intro i fuel S h1 h2 hc hd
    obtain ⟨g, rfl⟩ : ∃ g, fuel = g + 1 := ⟨fuel - 1, by omega⟩
    have hqi := hq i (by omega)
    have step : fl_X0_dropLast_33 ke (g + 1) b (nI t) (nI i) S = if Q 5 i ≤ t then fl_X0_dropLast_33 ke g b (nI t) (nI (i + 1)) S else fl_X0_dropLast_33 ke g b (nI t) (nI (i + 1)) (put S 15 b i (nI (Q 5 i - 1))) := by
      rw [fls_X0_dropLast_33]
      unfold fb_X0_dropLast_33
      rw [hc, nI_ifle (by omega) (by omega), if_neg (by omega), ixb_nI (show i < 6 by omega) (by omega), grd_t, grd_t, cl_nI (by omega), hd i (by omega) (by omega), nI_ifle (by omega) (by omega), nI_1]
      by_cases c : Q 5 i ≤ t
      · rw [if_pos c, if_pos c]
      · rw [if_neg c, if_neg c, nIm1 (by omega)]
    rw [step]
    by_cases c : Q 5 i ≤ t
    · rw [if_pos c]
      obtain ⟨S', b1, b2, b3, b4⟩ := ih (i + 1) g S (by omega) (by omega) hc (fun j q1 q2 => hd j (by omega) q2)
      refine ⟨S', b1, fun F a j q => b2 F a j (by omega), b3, fun j q1 q2 => ?_⟩
      by_cases cj : j = i
      · subst cj
        rw [b2 15 b j (by omega), hd j (by omega) q2, if_neg (by omega)]
      · exact b4 j (by omega) q2
    · rw [if_neg c]
      obtain ⟨S', b1, b2, b3, b4⟩ := ih (i + 1) g (put S 15 b i (nI (Q 5 i - 1))) (by omega) (by omega) (by rw [put_at, if_neg (by omega)]; exact hc) (fun j q1 q2 => by rw [put_at, if_neg (by omega)]; exact hd j (by omega) q2)
      refine ⟨S', b1, fun F a j q => by rw [b2 F a j (by omega), put_at, if_neg (by omega)], b3.trans rfl, fun j q1 q2 => ?_⟩
      by_cases cj : j = i
      · subst cj
        rw [b2 15 b j (by omega), put_at, if_pos ⟨rfl, rfl, rfl⟩, if_pos (by omega)]
      · exact b4 j (by omega) q2
theorem rip_loopM {n : Nat} {Q : Nat → Nat → Nat} (hn : n < 6) {t : Nat} (ht : t ≤ 99) (hq : ∀ i, i < n → Q 5 i ≤ 99) : ∀ (k i fuel : Nat) (M : Stt), i + k = n → k < fuel → M.1 0 10 0 = nI n → M.1 12 0 n = nI t → (∀ j, i ≤ j → j < n → M.1 12 0 j = nI (Q 5 j)) → ∃ M', fl_X8_rip_22 (fun S => some ((S.1 0 10 0), S)) fuel (nI i) M = some (nI n, M') ∧ (∀ F a j, ¬ (F = 12 ∧ a = 0 ∧ i ≤ j) → M'.1 F a j = M.1 F a j) ∧ M'.2 = M.2 ∧ ∀ j, i ≤ j → j < n → M'.1 12 0 j = nI (if t < Q 5 j then Q 5 j - 1 else Q 5 j) := by
  intro k
  induction k with
  | zero =>
    intro i fuel M h1 h2 hc ht2 hd
    obtain ⟨g, rfl⟩ : ∃ g, fuel = g + 1 := ⟨fuel - 1, by omega⟩
    refine ⟨M, ?_, fun _ _ _ _ => rfl, rfl, fun j q1 q2 => absurd q2 (by omega)⟩
    rw [fls_X8_rip_22]
    unfold fb_X8_rip_22
    rw [hc, nI_ifle (by omega) (by omega), if_pos (by omega)]
    show some (M.1 0 10 0, M) = _
    rw [hc]
  | succ k ih =>
    intro i fuel M h1 h2 hc ht2 hd
    obtain ⟨g, rfl⟩ : ∃ g, fuel = g + 1 := ⟨fuel - 1, by omega⟩
    have hqi := hq i (by omega)
    have step : fl_X8_rip_22 (fun S => some ((S.1 0 10 0), S)) (g + 1) (nI i) M = fl_X8_rip_22 (fun S => some ((S.1 0 10 0), S)) g (nI (i + 1)) (put M 12 0 i (nI (if t < Q 5 i then Q 5 i - 1 else Q 5 i))) := by
      rw [fls_X8_rip_22]
      unfold fb_X8_rip_22
      rw [hc, nI_ifle (by omega) (by omega), if_neg (by omega), ixb_nI (show i < 6 by omega) (by omega), grd_t, grd_t, grd_t, grd_t, ixb_nI hn (by omega), grd_t, cl_nI (show n < 2 ^ 31 by omega), cl_nI (show i < 2 ^ 31 by omega), ht2, hd i (by omega) (by omega), nI_ifle (by omega) (by omega), nI_1]
      by_cases c : Q 5 i ≤ t
      · rw [if_pos c, if_neg (by omega), n9 0, pk_sub (by omega)]
        rfl
      · rw [if_neg c, if_pos (by omega), nIm1 (by omega)]
    rw [step]
    obtain ⟨M', b1, b2, b3, b4⟩ := ih (i + 1) g (put M 12 0 i (nI (if t < Q 5 i then Q 5 i - 1 else Q 5 i))) (by omega) (by omega) (by rw [put_at, if_neg (by omega)]; exact hc) (by rw [put_at, if_neg (by omega)]; exact ht2) (fun j q1 q2 => by rw [put_at, if_neg (by omega)]; exact hd j (by omega) q2)
    refine ⟨M', b1, fun F a j q => by rw [b2 F a j (by omega), put_at, if_neg (by omega)], b3.trans rfl, fun j q1 q2 => ?_⟩
    by_cases cj : j = i
    · subst cj
      rw [b2 12 0 j (by omega), put_at, if_pos ⟨rfl, rfl, rfl⟩]
    · exact b4 j (by omega) q2
theorem sim_rip : SimI f_X7_rip f_X8_rip := by
  intro S M h
  obtain ⟨n, Q, hV, hB, hR, hM, hDP, hL, hr⟩ := h.bk
  have hn := hV.1
  unfold f_X7_rip f_X8_rip
  rw [hB.1, hM.1, n9 0, nI_if (by omega) (by omega), nI_if (by omega) (by omega)]
  by_cases c : n = 0
  · exact ⟨-4, S, M, by rw [if_pos c], by rw [if_pos c], h⟩
  rw [if_neg c, if_neg c]
  obtain ⟨m, rfl⟩ : ∃ m, n = m + 1 := ⟨n - 1, by omega⟩
  have hq : ∀ i, i < m + 1 → Q 5 i ≤ 99 := fun i hi => (hV.2 i hi).2.2.2.2.2
  have e15 : ∀ j, j < m + 1 → S.1 15 0 j = nI (Q 5 j) := fun j hj => (hB.2 j hj).2.2.2.2.2.1
  have e12 : ∀ j, j < m + 1 → M.1 12 0 j = nI (Q 5 j) := fun j hj => (hM.2 j hj).2.2.2.2.2
  obtain ⟨S1, a1, a2, a3, a4⟩ := drop_loop (b := 0) (n := m) (Q := Q) (by omega) (hq m (by omega)) (fun i hi => hq i (by omega)) (fun b0 S => (f_X0_rank b0 S).bind fun q7 => some q7) m 0 300 (put S 17 0 0 (nI m)) (by omega) (by omega) (by rw [put_at, if_pos ⟨rfl, rfl, rfl⟩]) (fun j _ hj => by rw [put_at, if_neg (by omega)]; exact e15 j (by omega))
  obtain ⟨M1, b1, b2, b3, b4⟩ := rip_loopM (n := m) (Q := Q) (by omega) (hq m (by omega)) (fun i hi => hq i (by omega)) m 0 300 (put M 0 10 0 (nI m)) (by omega) (by omega) (by rw [put_at, if_pos ⟨rfl, rfl, rfl⟩]) (by rw [put_at, if_neg (by omega)]; exact e12 m (by omega)) (fun j _ hj => by rw [put_at, if_neg (by omega)]; exact e12 j (by omega))
  have hV1 : BkV m (setD Q (fun j => if Q 5 m < Q 5 j then Q 5 j - 1 else Q 5 j)) := BkV.setD ⟨by omega, fun i hi => hV.2 i (by omega)⟩ (fun i hi => by
    have := hq i (by omega)
    split <;> omega)
  have hB1 : BC S1 0 m (setD Q (fun j => if Q 5 m < Q 5 j then Q 5 j - 1 else Q 5 j)) := by
    refine BC.setD (S := put S 17 0 0 (nI m)) ⟨by rw [put_at, if_pos ⟨rfl, rfl, rfl⟩], fun i hi => (hB.2 i (by omega)).frame (fun F q1 q2 => by rw [put_at, if_neg (by omega)])⟩ (fun i hi => a4 i (by omega) hi) (fun F i q1 q2 q3 => a2 F 0 i (by omega))
  obtain ⟨S2, r1, r2, r3, r4⟩ := rank_eq hV1 hB1
  refine ⟨nI m, S2, M1, ?_, ?_, h.book1 ⟨fun F a i q => ?_, ?_⟩ (fun F a i q1 q2 => ?_) (b3.trans rfl) ⟨m, _, hV1, ⟨?_, fun i hi => (hB1.2 i hi).frame (fun F q1 q2 => r2 F 0 i (by omega))⟩, r4, ?_, ⟨fun i hi => ?_, fun i j hi hj e => ?_⟩, fun i hi => ?_⟩⟩
  · unfold f_X0_dropLast
    rw [hB.1, n9 0, nI_if (by omega) (by omega), if_neg (by omega), nIm1 (by omega), Nat.add_sub_cancel, put_at, if_pos ⟨rfl, rfl, rfl⟩, ixb_nI (show m < 6 by omega) (by omega), grd_t, cl_nI (by omega), put_at, if_neg (by omega), e15 m (by omega), a1, r1, obind, obind]
    rw [r2 17 0 0 (by omega), hB1.1]
  · rw [nIm1 (by omega), Nat.add_sub_cancel]
    exact b1
  · rw [r2 F a i (by omega), a2 F a i (by omega), put_at, if_neg (by omega)]
  · rw [r3, a3]; rfl
  · rw [b2 F a i (by omega), put_at, if_neg (by omega)]
  · rw [r2 17 0 0 (by omega)]; exact hB1.1
  · refine BM.setD (M := put M 0 10 0 (nI m)) ⟨by rw [put_at, if_pos ⟨rfl, rfl, rfl⟩], fun i hi => (hM.2 i (by omega)).frame (fun F q1 q2 => by rw [put_at, if_neg (by omega)])⟩ (fun i hi => b4 i (by omega) hi) (b2 0 10 0 (by omega)) (fun F i q1 q2 => b2 F 0 i (by omega))
  · have z1 := hDP.1 i (by omega)
    have z2 := hDP.1 m (by omega)
    have z3 := hDP.2 i m (by omega) (by omega)
    rw [setD5]
    split <;> omega
  · have z1 := hDP.2 i m (by omega) (by omega)
    have z2 := hDP.2 j m (by omega) (by omega)
    have z3 := hDP.2 i j (by omega) (by omega)
    rw [setD5, setD5] at e
    by_cases c1 : Q 5 m < Q 5 i
    · rw [if_pos c1] at e
      by_cases c2 : Q 5 m < Q 5 j
      · rw [if_pos c2] at e; omega
      · rw [if_neg c2] at e; omega
    · rw [if_neg c1] at e
      by_cases c2 : Q 5 m < Q 5 j
      · rw [if_pos c2] at e; omega
      · rw [if_neg c2] at e; omega
  · rw [r2 11 0 i (by omega), r2 14 0 i (by omega), a2 11 0 i (by omega), a2 14 0 i (by omega), b2 10 0 i (by omega), b2 11 0 i (by omega), put_at, if_neg (by omega), put_at, if_neg (by omega), put_at, if_neg (by omega), put_at, if_neg (by omega)]
    exact hr i (by omega)
