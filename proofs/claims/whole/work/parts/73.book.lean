/-! fault, book -/
theorem fault_loop {r n : Nat} {T : Nat → Int32} (hB : ByT T n) : ∀ (k p c st fu fu2 : Nat) (S M : Stt) (Q : Nat → Nat → Nat), p + k = n → st ≤ p → k + 1 < fu → k < fu2 → Sg S r n T p → Mg M r n T p → In S M c Q →
    (∃ S' M' c' Q', fl_X5_faultOf_36 (fun S => fj_X5_faultOf_94 S) fu 1 (nI st) S = some (-9, S') ∧ fl_X8_goesOn_10 (fun S => some ((S.1 0 17 0), S)) fu2 (nI r) M = some (-9, M') ∧ In S' M' c' Q' ∧ KTx S S' ∧ KM M M') ∨ (∃ S' M' p', p' ≤ 80 ∧ fl_X5_faultOf_36 (fun S => fj_X5_faultOf_94 S) fu 1 (nI st) S = some (nI p', S') ∧ fl_X8_goesOn_10 (fun S => some ((S.1 0 17 0), S)) fu2 (nI r) M = some (nI p', M') ∧ KTx S S' ∧ KM M M') := by
  intro k
  induction k using Nat.strongRecOn with
  | _ k ih =>
    intro p c st fu fu2 S M Q h1 h2 h3 h4 hS hM hI
    obtain ⟨g, rfl⟩ : ∃ g, fu = g + 1 := ⟨fu - 1, by omega⟩
    obtain ⟨g2, rfl⟩ : ∃ g2, fu2 = g2 + 1 := ⟨fu2 - 1, by omega⟩
    have hr := hS.1
    have hn := hS.2.1
    have a8 := hS.2.2.2.2.2.2.2.1
    have a6 := hS.2.2.2.2.2.1
    have a7 := hS.2.2.2.2.2.2.1
    by_cases hp : p < n
    · have eC : fl_X5_faultOf_36 (fun S => fj_X5_faultOf_94 S) (g + 1) 1 (nI st) S = if T p = 32 then fl_X5_faultOf_36 (fun S => fj_X5_faultOf_94 S) g 1 (nI (st + 1)) (put S 25 0 0 (nI (p + 1))) else (f_X5_takeItem 1 S).bind fun q11 => fl_X5_faultOf_36 (fun S => fj_X5_faultOf_94 S) g 1 (nI (st + 1)) q11 := by
        rw [fls_X5_faultOf_36]
        unfold fb_X5_faultOf_36
        rw [n9 80, nI_ifle (by omega) (by omega), if_neg (by omega), a8, if_pos rfl, a6, a7, nI_ifle (by omega) (by omega), if_neg (by omega), sign_eq hS hp, obind]
        dsimp only
        rw [a7, nI_1, nI_1]
      have eM : fl_X8_goesOn_10 (fun S => some ((S.1 0 17 0), S)) (g2 + 1) (nI r) M = if T p = 32 then fl_X8_goesOn_10 (fun S => some ((S.1 0 17 0), S)) g2 (nI r) (put M 0 17 0 (nI (p + 1))) else (f_X8_readsPage (nI r) M).bind fun q6 => if q6.1 = 0 then some ((q6.2.1 0 17 0), q6.2) else fl_X8_goesOn_10 (fun S => some ((S.1 0 17 0), S)) g2 (nI r) q6.2 := by
        rw [fls_X8_goesOn_10]
        unfold fb_X8_goesOn_10
        rw [ixb_nI hr (by omega), grd_t, cl_nI (by omega), hM.1, hM.2.1, nI_ifle (by omega) (by omega), if_neg (by omega), here_eq hr hn hM hp, obind]
        dsimp only
        rw [hM.2.1, nI_1]
      rw [eC, eM]
      by_cases c32 : T p = 32
      · rw [if_pos c32, if_pos c32]
        rcases ih (k - 1) (by omega) (p + 1) c (st + 1) g g2 _ _ Q (by omega) (by omega) (by omega) (by omega) (hS.go hp) hM.go (hI.keep (K5.p25 S (nI (p + 1))) (K17.p17 M (nI (p + 1)))) with ⟨S', M', c', Q', q1, q2, q3, q4, q5⟩ | ⟨S', M', p', q0, q1, q2, q4, q5⟩
        · exact Or.inl ⟨S', M', c', Q', q1, q2, q3, (K5.p25 S (nI (p + 1))).ktx.tr q4, (K17.p17 M (nI (p + 1))).km.tr q5⟩
        · exact Or.inr ⟨S', M', p', q0, q1, q2, (K5.p25 S (nI (p + 1))).ktx.tr q4, (K17.p17 M (nI (p + 1))).km.tr q5⟩
      · rw [if_neg c32, if_neg c32]
        rcases item_both hS hM hB hI hp with ⟨p', S1, M1, Q1, e1, e2, e3, e4, e5, e6, e7, e8⟩ | ⟨p', S1, M1, e1, e2, e3, e4, e5, e6⟩
        · rw [e1, e2, obind, obind]
          dsimp only
          rw [if_neg n10]
          have pn := e4.2.2.1
          rcases ih (n - p') (by omega) p' (c + 1) (st + 1) g g2 S1 M1 Q1 (by omega) (by omega) (by omega) (by omega) e4 e5 e6 with ⟨S', M', c', Q', q1, q2, q3, q4, q5⟩ | ⟨S', M', p2, q0, q1, q2, q4, q5⟩
          · exact Or.inl ⟨S', M', c', Q', q1, q2, q3, e7.tr q4, e8.tr q5⟩
          · exact Or.inr ⟨S', M', p2, q0, q1, q2, e7.tr q4, e8.tr q5⟩
        · rw [e1, e2, obind, obind]
          dsimp only
          rw [if_pos rfl, e4]
          obtain ⟨g', rfl⟩ : ∃ g', g = g' + 1 := ⟨g - 1, by omega⟩
          refine Or.inr ⟨S1, M1, p', e3.2.2, ?_, rfl, e5, e6⟩
          have eJ : fj_X5_faultOf_94 S1 = some (nI p', S1) := by
            unfold fj_X5_faultOf_94
            rw [e3.1, if_neg n10, e3.2.1]
          rw [fls_X5_faultOf_36]
          unfold fb_X5_faultOf_36
          rw [n9 80, nI_ifle (by omega) (by omega)]
          by_cases c80 : 80 ≤ st + 1
          · rw [if_pos c80]; exact eJ
          · rw [if_neg c80, e3.1, if_neg n10]; exact eJ
    · have pn := hS.2.2.1
      refine Or.inl ⟨S, M, c, Q, ?_, ?_, hI, KTx.rf S, KM.rf M⟩
      · have eJ : fj_X5_faultOf_94 S = some (-9, S) := by
          unfold fj_X5_faultOf_94
          rw [a8, if_pos rfl]
        rw [fls_X5_faultOf_36]
        unfold fb_X5_faultOf_36
        rw [n9 80, nI_ifle (by omega) (by omega)]
        by_cases c80 : 80 ≤ st
        · rw [if_pos c80]; exact eJ
        · rw [if_neg c80, a8, if_pos rfl, a6, a7, nI_ifle (by omega) (by omega), if_pos (by omega)]; exact eJ
      · rw [fls_X8_goesOn_10]
        unfold fb_X8_goesOn_10
        rw [ixb_nI hr (by omega), grd_t, cl_nI (by omega), hM.1, hM.2.1, nI_ifle (by omega) (by omega), if_pos (by omega)]
theorem by_b {x : Int32} (h : x.toInt8.toInt32 = x) : -128 ≤ x.toInt ∧ x.toInt ≤ 127 := by
  rw [← h, Int8.toInt_toInt32]
  have h1 := Int8.le_toInt x.toInt8
  have h2 := Int8.toInt_lt x.toInt8
  omega
theorem fault_both {S M : Stt} (h : Rel S M) {r n : Nat} (hr : r < 4) (hn : n ≤ 80) (y2 : S.1 19 1 r = nI n) (y3 : M.1 5 0 r = nI n) (y4 : ∀ i, i < n → S.1 21 r i = M.1 6 0 (80 * r + i)) :
    (∃ S' M' c Q, f_X5_faultOf (nI r) 1 S = some (-9, S') ∧ f_X8_goesOn (nI r) M = some (-9, M') ∧ In S' M' c Q ∧ Same S S' ∧ SameM M M') ∨ (∃ S' M' p, p ≤ 80 ∧ f_X5_faultOf (nI r) 1 S = some (nI p, S') ∧ f_X8_goesOn (nI r) M = some (nI p, M') ∧ Same S S' ∧ SameM M M') := by
  have hB : ByT (S.1 21 r) n := by
    intro i hi
    rw [y4 i hi]
    exact by_b (h.2.2.2.1 _ (by omega))
  obtain ⟨S1, e1⟩ : ∃ x, put (put (put (put (put (put S 22 0 0 1) 23 0 0 (nI r)) 24 0 0 (nI n)) 25 0 0 (0 : Int32)) 26 0 0 (0 : Int32)) 17 1 0 (0 : Int32) = x := ⟨_, rfl⟩
  obtain ⟨M1, e2⟩ : ∃ x, put (put M 0 17 0 (0 : Int32)) 0 18 0 (0 : Int32) = x := ⟨_, rfl⟩
  have fS : ∀ F a i, ¬ (22 ≤ F ∧ F ≤ 26) → ¬ (F = 17 ∧ a = 1) → S1.1 F a i = S.1 F a i := by
    intro F a i q1 q2
    rw [← e1, put_at, if_neg (by omega), put_at, if_neg (by omega), put_at, if_neg (by omega), put_at, if_neg (by omega), put_at, if_neg (by omega), put_at, if_neg (by omega)]
  have fM : ∀ F a i, ¬ (F = 0 ∧ (a = 17 ∨ a = 18)) → M1.1 F a i = M.1 F a i := by
    intro F a i q1
    rw [← e2, put_at, if_neg (by omega), put_at, if_neg (by omega)]
  have hS : Sg S1 r n (S.1 21 r) 0 := by
    refine ⟨hr, hn, Nat.zero_le _, ?_, ?_, ?_, ?_, ?_, fun i hi => fS 21 r i (by omega) (by omega)⟩
    · rw [← e1, put_at, if_neg (by omega), put_at, if_neg (by omega), put_at, if_neg (by omega), put_at, if_neg (by omega), put_at, if_neg (by omega), put_at, if_pos ⟨rfl, rfl, rfl⟩]
    · rw [← e1, put_at, if_neg (by omega), put_at, if_neg (by omega), put_at, if_neg (by omega), put_at, if_neg (by omega), put_at, if_pos ⟨rfl, rfl, rfl⟩]
    · rw [← e1, put_at, if_neg (by omega), put_at, if_neg (by omega), put_at, if_neg (by omega), put_at, if_pos ⟨rfl, rfl, rfl⟩]
    · rw [← e1, put_at, if_neg (by omega), put_at, if_neg (by omega), put_at, if_pos ⟨rfl, rfl, rfl⟩]; rfl
    · rw [← e1, put_at, if_neg (by omega), put_at, if_pos ⟨rfl, rfl, rfl⟩]
  have hM : Mg M1 r n (S.1 21 r) 0 := by
    refine ⟨by rw [fM _ _ _ (by omega)]; exact y3, ?_, fun i hi => by rw [fM _ _ _ (by omega)]; exact (y4 i hi).symm⟩
    rw [← e2, put_at, if_neg (by omega), put_at, if_pos ⟨rfl, rfl, rfl⟩]; rfl
  have hI : In S1 M1 0 (fun _ _ => 0) := by
    refine ⟨⟨Nat.zero_le _, fun i hi => absurd hi (by omega)⟩, ⟨?_, fun i hi => absurd hi (by omega)⟩, ⟨fun _ => 0, fun k hk => absurd hk (by omega), fun k k' _ hk => absurd hk (by omega)⟩, ?_, fun i hi => absurd hi (by omega)⟩
    · rw [← e1, put_at, if_pos ⟨rfl, rfl, rfl⟩]; rfl
    · rw [← e2, put_at, if_pos ⟨rfl, rfl, rfl⟩]; rfl
  have eC : f_X5_faultOf (nI r) 1 S = fl_X5_faultOf_36 (fun S => fj_X5_faultOf_94 S) 300 1 (nI 0) S1 := by
    unfold f_X5_faultOf
    rw [sizeOf_eq (z := 1) hr, obind]
    dsimp only
    rw [show (put (put S 22 0 0 1) 23 0 0 (nI r)).1 19 1 r = nI n by rw [put_at, if_neg (by omega), put_at, if_neg (by omega)]; exact y2]
    unfold f_X0_empty
    rw [obind, e1]
    rfl
  have eM : f_X8_goesOn (nI r) M = fl_X8_goesOn_10 (fun S => some ((S.1 0 17 0), S)) 300 (nI r) M1 := by
    unfold f_X8_goesOn
    rw [e2]
  have sS : ∀ S', KTx S1 S' → Same S S' := fun S' q => ⟨fun F a i z => by rw [q.1 F a i (by omega) (by omega), fS F a i (by omega) (by omega)], by rw [q.2, ← e1]; rfl⟩
  have sM : ∀ M', KM M1 M' → SameM M M' := fun M' q => ⟨fun F a i z => by rw [q.1 F a i (by omega) (by omega), fM F a i (by omega)], by rw [q.2, ← e2]; rfl, by rw [q.2, ← e2]; rfl⟩
  rw [eC, eM]
  rcases fault_loop hB n 0 0 0 300 300 S1 M1 _ (by omega) (by omega) (by omega) (by omega) hS hM hI with ⟨S', M', c', Q', q1, q2, q3, q4, q5⟩ | ⟨S', M', p', q0, q1, q2, q4, q5⟩
  · exact Or.inl ⟨S', M', c', Q', q1, q2, q3, sS _ q4, sM _ q5⟩
  · exact Or.inr ⟨S', M', p', q0, q1, q2, sS _ q4, sM _ q5⟩
theorem sim_fault (x1 : Int32) : SimI (f_X7_fault x1) (f_X8_fault x1) := by
  intro S M h
  unfold f_X7_fault f_X8_fault
  rcases text3 h x1 with ⟨a1, a2, a3⟩ | ⟨r, hr, rfl, y1, y2⟩ | ⟨r, n, hr, rfl, hn, y2, y3, y4⟩
  · exact ⟨-1, S, M, by rw [a1, obind, if_pos rfl], by rw [a3, obind, if_neg nn1], h⟩
  · obtain ⟨S', M', e1, e2, e3⟩ := h.refuse (k := 1) (by omega) (by omega)
    exact ⟨-3, S', M', by rw [isOne_yes (z := 1) hr, obind, if_neg n10, there_no (z := 1) hr y1, obind, if_pos rfl, n9 1, e1, obind], by rw [askedText_gone hr y2 e2, obind, if_neg nn3], e3⟩
  · rw [isOne_yes (z := 1) hr, obind, if_neg n10, there_yes (z := 1) hr y2 (by omega), obind, if_neg n10, askedText_there hr y3 (by omega), obind, if_pos p00]
    rcases fault_both h hr hn y2 y3 y4 with ⟨S', M', c, Q, q1, q2, q3, q4, q5⟩ | ⟨S', M', p, q0, q1, q2, q4, q5⟩
    · exact ⟨-9, S', M', by rw [q1, obind], by rw [q2, obind], h.same q4 q5⟩
    · exact ⟨nI p, S', M', by rw [q1, obind], by rw [q2, obind], h.same q4 q5⟩
/-! book -/
theorem p13a (X : Stt) (i j : Nat) (v : Int32) : (put X 7 0 i v).1 13 0 j = X.1 13 0 j := by rw [put_at, if_neg (by omega)]
theorem p13b (X : Stt) (i j : Nat) (v : Int32) : (put X 8 0 i v).1 13 0 j = X.1 13 0 j := by rw [put_at, if_neg (by omega)]
theorem p13c (X : Stt) (i j : Nat) (v : Int32) : (put X 9 0 i v).1 13 0 j = X.1 13 0 j := by rw [put_at, if_neg (by omega)]
theorem p13d (X : Stt) (i j : Nat) (v : Int32) : (put X 10 0 i v).1 13 0 j = X.1 13 0 j := by rw [put_at, if_neg (by omega)]
theorem p10a (X : Stt) (i : Nat) (v : Int32) : (put X 7 0 i v).1 0 10 0 = X.1 0 10 0 := by rw [put_at, if_neg (by omega)]
theorem p10b (X : Stt) (i : Nat) (v : Int32) : (put X 8 0 i v).1 0 10 0 = X.1 0 10 0 := by rw [put_at, if_neg (by omega)]
theorem p10c (X : Stt) (i : Nat) (v : Int32) : (put X 9 0 i v).1 0 10 0 = X.1 0 10 0 := by rw [put_at, if_neg (by omega)]
theorem p10d (X : Stt) (i : Nat) (v : Int32) : (put X 10 0 i v).1 0 10 0 = X.1 0 10 0 := by rw [put_at, if_neg (by omega)]
theorem p10e (X : Stt) (i : Nat) (v : Int32) : (put X 11 0 i v).1 0 10 0 = X.1 0 10 0 := by rw [put_at, if_neg (by omega)]
theorem book35 {c : Nat} (hc : c ≤ 6) (ke : Stt → Option (Int32 × Stt)) : ∀ (k i fuel : Nat) (M : Stt), i + k = c → k < fuel → M.1 0 10 0 = nI c → ∃ M', fl_X8_book_35 ke fuel (nI i) M = ke M' ∧ (∀ F a j, ¬ (7 ≤ F ∧ F ≤ 12 ∧ a = 0 ∧ i ≤ j) → M'.1 F a j = M.1 F a j) ∧ M'.2 = M.2 ∧ ∀ j, i ≤ j → j < c → M'.1 7 0 j = M.1 13 0 (5 * j) ∧ M'.1 8 0 j = M.1 13 0 (5 * j + 1) ∧ M'.1 9 0 j = M.1 13 0 (5 * j + 2) ∧ M'.1 10 0 j = M.1 13 0 (5 * j + 3) ∧ M'.1 11 0 j = M.1 13 0 (5 * j + 4) ∧ M'.1 12 0 j = nI (c - 1 - j) := by
  intro k
  induction k with
  | zero =>
    intro i fuel M h1 h2 h3
    obtain ⟨g, rfl⟩ : ∃ g, fuel = g + 1 := ⟨fuel - 1, by omega⟩
    refine ⟨M, ?_, fun _ _ _ _ => rfl, rfl, fun j q1 q2 => absurd q2 (by omega)⟩
    rw [fls_X8_book_35]
    unfold fb_X8_book_35
    rw [h3, nI_ifle (by omega) (by omega), if_pos (by omega)]
  | succ k ih =>
    intro i fuel M h1 h2 h3
    obtain ⟨g, rfl⟩ : ∃ g, fuel = g + 1 := ⟨fuel - 1, by omega⟩
    obtain ⟨M1, e1⟩ : ∃ x, put (put (put (put (put (put M 7 0 i (M.1 13 0 (5 * i))) 8 0 i (M.1 13 0 (5 * i + 1))) 9 0 i (M.1 13 0 (5 * i + 2))) 10 0 i (M.1 13 0 (5 * i + 3))) 11 0 i (M.1 13 0 (5 * i + 4))) 12 0 i (nI (c - 1 - i)) = x := ⟨_, rfl⟩
    have f1 : ∀ F a j, ¬ (7 ≤ F ∧ F ≤ 12 ∧ a = 0 ∧ j = i) → M1.1 F a j = M.1 F a j := by
      intro F a j q
      rw [← e1, put_at, if_neg (by omega), put_at, if_neg (by omega), put_at, if_neg (by omega), put_at, if_neg (by omega), put_at, if_neg (by omega), put_at, if_neg (by omega)]
    obtain ⟨M', b1, b2, b3, b4⟩ := ih (i + 1) g M1 (by omega) (by omega) (by rw [f1 _ _ _ (by omega)]; exact h3)
    refine ⟨M', ?_, fun F a j q => ?_, ?_, fun j q1 q2 => ?_⟩
    · rw [fls_X8_book_35]
      unfold fb_X8_book_35
      have z0 : (5 : Int32) * nI i = nI (5 * i) := pk_mul 5 i
      rw [h3, nI_ifle (by omega) (by omega), if_neg (by omega), z0, nI_1, show (2 : Int32) = nI 2 from rfl, show (3 : Int32) = nI 3 from rfl, show (4 : Int32) = nI 4 from rfl, x5a, x5a, x5a, ixb_nI (show 5 * i < 30 by omega) (by omega), grd_t, ixb_nI (show i < 6 by omega) (by omega), grd_t, ixb_nI (show 5 * i + 1 < 30 by omega) (by omega), grd_t, grd_t, ixb_nI (show 5 * i + 2 < 30 by omega) (by omega), grd_t, grd_t, ixb_nI (show 5 * i + 3 < 30 by omega) (by omega), grd_t, grd_t, ixb_nI (show 5 * i + 4 < 30 by omega) (by omega), grd_t, grd_t, grd_t, cl_nI (by omega), cl_nI (by omega), cl_nI (by omega), cl_nI (by omega), cl_nI (by omega), cl_nI (by omega)]
      simp only [p13a, p13b, p13c, p13d, p10a, p10b, p10c, p10d, p10e]
      rw [h3, nIm1 (by omega), pk_sub (by omega), e1, nI_1]
      exact b1
    · rw [b2 F a j (by omega), f1 F a j (by omega)]
    · rw [b3, ← e1]; rfl
    · by_cases cj : j = i
      · subst cj
        rw [b2 7 0 j (by omega), b2 8 0 j (by omega), b2 9 0 j (by omega), b2 10 0 j (by omega), b2 11 0 j (by omega), b2 12 0 j (by omega), ← e1]
        refine ⟨?_, ?_, ?_, ?_, ?_, ?_⟩
        · rw [put_at, if_neg (by omega), put_at, if_neg (by omega), put_at, if_neg (by omega), put_at, if_neg (by omega), put_at, if_neg (by omega), put_at, if_pos ⟨rfl, rfl, rfl⟩]
        · rw [put_at, if_neg (by omega), put_at, if_neg (by omega), put_at, if_neg (by omega), put_at, if_neg (by omega), put_at, if_pos ⟨rfl, rfl, rfl⟩]
        · rw [put_at, if_neg (by omega), put_at, if_neg (by omega), put_at, if_neg (by omega), put_at, if_pos ⟨rfl, rfl, rfl⟩]
        · rw [put_at, if_neg (by omega), put_at, if_neg (by omega), put_at, if_pos ⟨rfl, rfl, rfl⟩]
        · rw [put_at, if_neg (by omega), put_at, if_pos ⟨rfl, rfl, rfl⟩]
        · rw [put_at, if_pos ⟨rfl, rfl, rfl⟩]
      · have := b4 j (by omega) q2
        rw [f1 13 0 _ (by omega), f1 13 0 _ (by omega), f1 13 0 _ (by omega), f1 13 0 _ (by omega), f1 13 0 _ (by omega)] at this
        exact this
theorem book143 (M : Stt) : fl_X8_book_143 (fun S => some ((S.1 0 10 0), S)) 300 (0 : Int32) M = some (M.1 0 10 0, put (put (put M 14 0 0 (-9)) 14 0 38 (-9)) 14 0 76 (-9)) := by
  have e1 : ∀ (i g : Nat) (X : Stt), i < 3 → fl_X8_book_143 (fun S => some ((S.1 0 10 0), S)) (g + 1) (nI i) X = fl_X8_book_143 (fun S => some ((S.1 0 10 0), S)) g (nI (i + 1)) (put X 14 0 (38 * i) (-9)) := by
    intro i g X hi
    rw [fls_X8_book_143]
    unfold fb_X8_book_143
    have z0 : (38 : Int32) * nI i = nI (38 * i) := pk_mul 38 i
    rw [n9 3, nI_ifle (by omega) (by omega), if_neg (by omega), z0, ixb_nI (by omega) (by omega), grd_t, cl_nI (by omega), nI_1]
  have a1 := e1 0 299 M (by omega)
  have a2 := e1 1 298 (put M 14 0 (38 * 0) (-9)) (by omega)
  have a3 := e1 2 297 (put (put M 14 0 (38 * 0) (-9)) 14 0 (38 * 1) (-9)) (by omega)
  refine a1.trans (a2.trans (a3.trans ?_))
  rw [fls_X8_book_143]
  unfold fb_X8_book_143
  rw [n9 3, nI_ifle (by omega) (by omega), if_pos (by omega)]
  dsimp only
  rw [put_at, if_neg (by omega), put_at, if_neg (by omega), put_at, if_neg (by omega)]
theorem bookC74 (S : Stt) : fl_X7_book_74 (fun S => some ((S.1 17 0 0), S)) 300 (0 : Int32) S = some (S.1 17 0 0, put (put (put S 17 2 0 0) 17 3 0 0) 17 4 0 0) := by
  have e1 : ∀ (i g : Nat) (X : Stt), i < 3 → fl_X7_book_74 (fun S => some ((S.1 17 0 0), S)) (g + 1) (nI i) X = fl_X7_book_74 (fun S => some ((S.1 17 0 0), S)) g (nI (i + 1)) (put X 17 (2 + i) 0 0) := by
    intro i g X hi
    rw [fls_X7_book_74]
    unfold fb_X7_book_74 f_X0_empty
    rw [n9 3, nI_ifle (by omega) (by omega), if_neg (by omega), ixb_nI (by omega) (by omega), grd_t, cl_nI (by omega), obind, nI_1]
  have a1 := e1 0 299 S (by omega)
  have a2 := e1 1 298 (put S 17 (2 + 0) 0 0) (by omega)
  have a3 := e1 2 297 (put (put S 17 (2 + 0) 0 0) 17 (2 + 1) 0 0) (by omega)
  refine a1.trans (a2.trans (a3.trans ?_))
  rw [fls_X7_book_74]
  unfold fb_X7_book_74
  rw [n9 3, nI_ifle (by omega) (by omega), if_pos (by omega)]
  dsimp only
  rw [put_at, if_neg (by omega), put_at, if_neg (by omega), put_at, if_neg (by omega)]
theorem sim_book (x1 : Int32) : SimI (f_X7_book x1) (f_X8_book x1) := by
  intro S M h
  unfold f_X7_book f_X8_book
  rcases text3 h x1 with ⟨a1, a2, a3⟩ | ⟨r, hr, rfl, y1, y2⟩ | ⟨r, n, hr, rfl, hn, y2, y3, y4⟩
  · exact ⟨-1, S, M, by rw [a1, obind, if_pos rfl], by rw [a3, obind, if_neg nn1], h⟩
  · obtain ⟨S', M', e1, e2, e3⟩ := h.refuse (k := 1) (by omega) (by omega)
    exact ⟨-3, S', M', by rw [isOne_yes (z := 1) hr, obind, if_neg n10, there_no (z := 1) hr y1, obind, if_pos rfl, n9 1, e1, obind], by rw [askedText_gone hr y2 e2, obind, if_neg nn3], e3⟩
  · rw [isOne_yes (z := 1) hr, obind, if_neg n10, there_yes (z := 1) hr y2 (by omega), obind, if_neg n10, askedText_there hr y3 (by omega), obind, if_pos p00]
    dsimp only
    rcases fault_both h hr hn y2 y3 y4 with ⟨S1, M1, c, Q, q1, q2, q3, q4, q5⟩ | ⟨S', M', p, q0, q1, q2, q4, q5⟩
    · rw [q1, q2, obind, obind]
      dsimp only
      rw [if_pos rfl, if_pos rfl]
      obtain ⟨hV, hB, hR, hc, hP⟩ := q3
      have c6 := hV.1
      obtain ⟨S2, b1, b2, b3, b4⟩ := become_eq (S := S1) (b0 := 0) (b1 := 1) (by decide) c6 hB.1
      obtain ⟨S3, t1, t2, t3, t4⟩ := turnE_eq (S := S2) (b := 0) c6 b3
      obtain ⟨M2, m1, m2, m3, m4⟩ := book35 c6 (fun S => fl_X8_book_143 (fun S => some ((S.1 0 10 0), S)) 300 (0 : Int32) S) c 0 300 (put M1 0 10 0 (nI c)) (by omega) (by omega) (by rw [put_at, if_pos ⟨rfl, rfl, rfl⟩])
      rw [b1, obind, t1, obind, bookC74, hc, show (0 : Int32) = nI 0 from rfl]
      have cS : S3.1 17 0 0 = nI c := by rw [t2 17 0 0 (by omega)]; exact b3
      have cM : M2.1 0 10 0 = nI c := by rw [m2 0 10 0 (by omega), put_at, if_pos ⟨rfl, rfl, rfl⟩]
      obtain ⟨S4, e4⟩ : ∃ x, put (put (put S3 17 2 0 (nI 0)) 17 3 0 (nI 0)) 17 4 0 (nI 0) = x := ⟨_, rfl⟩
      obtain ⟨M4, e5⟩ : ∃ x, put (put (put M2 14 0 0 (-9)) 14 0 38 (-9)) 14 0 76 (-9) = x := ⟨_, rfl⟩
      have fS : ∀ F a j, ¬ (F = 17 ∧ 2 ≤ a) → S4.1 F a j = S3.1 F a j := by
        intro F a j q
        rw [← e4, put_at, if_neg (by omega), put_at, if_neg (by omega), put_at, if_neg (by omega)]
      have fM : ∀ F a j, ¬ F = 14 → M4.1 F a j = M2.1 F a j := by
        intro F a j q
        rw [← e5, put_at, if_neg (by omega), put_at, if_neg (by omega), put_at, if_neg (by omega)]
      have rS : ∀ F i, ((10 ≤ F ∧ F ≤ 14) ∨ F = 16 ∨ F = 18) → i < c → S4.1 F 0 i = S1.1 F 1 i := by
        intro F i q hi
        rw [fS F 0 i (by omega), t2 F 0 i (by omega), b4 F i (by omega) hi]
      have rM : ∀ F j, ¬ (7 ≤ F ∧ F ≤ 12) → ¬ F = 14 → ¬ F = 0 → M4.1 F 0 j = M1.1 F 0 j := by
        intro F j q q2 q3
        rw [fM F 0 j q2, m2 F 0 j (by omega), put_at, if_neg (by omega)]
      have pM : ∀ j, j < c → M4.1 7 0 j = M1.1 13 0 (5 * j) ∧ M4.1 8 0 j = M1.1 13 0 (5 * j + 1) ∧ M4.1 9 0 j = M1.1 13 0 (5 * j + 2) ∧ M4.1 10 0 j = M1.1 13 0 (5 * j + 3) ∧ M4.1 11 0 j = M1.1 13 0 (5 * j + 4) ∧ M4.1 12 0 j = nI (c - 1 - j) := by
        intro j hj
        have := m4 j (by omega) hj
        rw [put_at, if_neg (by omega), put_at, if_neg (by omega), put_at, if_neg (by omega), put_at, if_neg (by omega), put_at, if_neg (by omega)] at this
        rw [fM _ _ _ (by omega), fM _ _ _ (by omega), fM _ _ _ (by omega), fM _ _ _ (by omega), fM _ _ _ (by omega), fM _ _ _ (by omega)]
        exact this
      refine ⟨nI c, S4, M4, by rw [cS, e4], ?_, (h.same q4 q5).books ⟨fun F a i z => ?_, ?_⟩ ⟨fun F a i z => ?_, ?_, ?_⟩ ⟨c, setD Q (fun i => c - 1 - i), hV.setD (fun i hi => by omega), ⟨?_, fun i hi => ?_⟩, ?_, ⟨?_, fun i hi => ?_⟩, ⟨fun i hi => ?_, fun i j hi hj e => ?_⟩, fun i hi => ?_⟩ (fun k hk => Or.inl ⟨?_, ?_⟩)⟩
      · refine m1.trans ?_
        rw [book143, cM, e5]
      · rw [fS F a i (by omega), t2 F a i (by omega), b2.1 F a i (by omega)]
      · rw [← e4]; exact t3.trans b2.2
      · rw [fM F a i (by omega), m2 F a i (by omega), put_at, if_neg (by omega)]
      · rw [← e5]; show M2.2 3 = _; rw [m3]; rfl
      · rw [← e5]; show M2.2 4 = _; rw [m3]; rfl
      · rw [fS 17 0 0 (by omega)]; exact cS
      · obtain ⟨p0, p1, p2, p3, p4, p5, p6⟩ := hB.2 i hi
        unfold PgC
        rw [rS 10 i (by omega) hi, rS 11 i (by omega) hi, rS 12 i (by omega) hi, rS 13 i (by omega) hi, rS 14 i (by omega) hi, rS 16 i (by omega) hi]
        refine ⟨p0, p1, p2, p3, p4, ?_, p6⟩
        rw [fS 15 0 i (by omega), t4 i hi]
        rfl
      · obtain ⟨ρ, r1, r2⟩ := hR
        exact ⟨ρ, fun k hk => ⟨by rw [rS 18 k (by omega) hk]; exact (r1 k hk).1, (r1 k hk).2⟩, r2⟩
      · rw [fM 0 10 0 (by omega)]; exact cM
      · obtain ⟨p0, p1, p2, p3, p4, p5, p6⟩ := hB.2 i hi
        obtain ⟨w0, w1, w2, w3, w4, w5⟩ := pM i hi
        obtain ⟨v0, v1, v2, v3, v4⟩ := hP i hi
        refine ⟨w0.trans v0, fun q => (w3.trans v3).trans (p1 q), w1.trans v1, w2.trans v2, fun q => (w4.trans v4).trans (p4 q), w5⟩
      · show c - 1 - i < c
        omega
      · have e : c - 1 - i = c - 1 - j := e
        omega
      · obtain ⟨w0, w1, w2, w3, w4, w5⟩ := pM i hi
        obtain ⟨v0, v1, v2, v3, v4⟩ := hP i hi
        exact ⟨(rS 11 i (by omega) hi).trans (w3.trans v3).symm, (rS 14 i (by omega) hi).trans (w4.trans v4).symm⟩
      · rcases (show k = 0 ∨ k = 1 ∨ k = 2 by omega) with rfl | rfl | rfl
        · rw [← e4]; simp [put_at]; rfl
        · rw [← e4]; simp [put_at]; rfl
        · rw [← e4]; simp [put_at]; rfl
      · rcases (show k = 0 ∨ k = 1 ∨ k = 2 by omega) with rfl | rfl | rfl
        · rw [← e5]; simp [put_at]
        · rw [← e5]; simp [put_at]
        · rw [← e5]; simp [put_at]
    · rw [q1, q2, obind, obind]
      dsimp only
      rw [if_neg (nI_ne_neg (by omega) neg9), if_neg (nI_ne_neg (by omega) neg9)]
      exact ⟨-4, S', M', rfl, rfl, h.same q4 q5⟩
