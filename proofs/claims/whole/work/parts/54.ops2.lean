/-! page, reverse, swap, add, rip, keep, on -/
def SameX (S S' : Stt) : Prop := (∀ F a i, (F < 22 ∧ ¬ (10 ≤ F ∧ F ≤ 18)) ∨ 60 ≤ F → S'.1 F a i = S.1 F a i) ∧ S'.2 = S.2
def SameXM (M M' : Stt) : Prop := (∀ F a i, (F = 1 ∨ F = 2 ∨ F = 3 ∨ F = 5 ∨ F = 6 ∨ (F = 0 ∧ (a = 0 ∨ a = 2 ∨ a = 20))) → M'.1 F a i = M.1 F a i) ∧ M'.2 3 = M.2 3 ∧ M'.2 4 = M.2 4
theorem SameX.tr {S S' S2 : Stt} (h : SameX S S') (h2 : SameX S' S2) : SameX S S2 := ⟨fun F a i q => (h2.1 F a i q).trans (h.1 F a i q), h2.2.trans h.2⟩
theorem SameXM.tr {M M' M2 : Stt} (h : SameXM M M') (h2 : SameXM M' M2) : SameXM M M2 := ⟨fun F a i q => (h2.1 F a i q).trans (h.1 F a i q), h2.2.1.trans h.2.1, h2.2.2.trans h.2.2⟩
theorem KB.samex {b : Nat} {S S' : Stt} (h : KB b S S') : SameX S S' := ⟨fun F a i q => h.1 F a i (by omega), h.2⟩
theorem Same.samex {S S' : Stt} (h : Same S S') : SameX S S' := ⟨fun F a i q => h.1 F a i (by omega), h.2⟩
theorem SameM.samex {M M' : Stt} (h : SameM M M') : SameXM M M' := ⟨fun F a i q => h.1 F a i (by omega), h.2⟩
theorem Rel.books {S S' M M' : Stt} (h : Rel S M) (h1 : SameX S S') (h2 : SameXM M M') (hb : BkR S' M') (hk : ∀ k, k < 3 → Kp1 S' M' k) : Rel S' M' := by
  obtain ⟨a, b, c, d, e, f, g⟩ := h
  refine ⟨a.frame (fun F x i q => h1.1 F x i (Or.inr q)) h1.2 (h2.1 _ _ _ (by omega)) (h2.1 _ _ _ (by omega)) (fun i => h2.1 _ _ _ (by omega)) h2.2.1 h2.2.2, b.frame (fun r => h1.1 _ _ _ (by omega)) (fun r i => h1.1 _ _ _ (by omega)) (fun r => h2.1 _ _ _ (by omega)) (fun i => h2.1 _ _ _ (by omega)), c.frame (fun r => h1.1 _ _ _ (by omega)) (fun r i => h1.1 _ _ _ (by omega)) (fun r => h2.1 _ _ _ (by omega)) (fun i => h2.1 _ _ _ (by omega)), fun i hi => ?_, hb, hk, ?_⟩
  · rw [h2.1 6 0 i (by omega)]; exact d i hi
  · rw [h2.1 0 20 0 (by omega)]; exact g
/-- only the book itself changes -/
theorem Rel.book1 {S S' M M' : Stt} (h : Rel S M) (h1 : KB 0 S S') (h2 : ∀ F a i, ¬ (7 ≤ F ∧ F ≤ 12) → ¬ (F = 0 ∧ a = 10) → M'.1 F a i = M.1 F a i) (h3 : M'.2 = M.2) (hb : BkR S' M') : Rel S' M' := by
  refine h.books h1.samex ⟨fun F a i q => h2 F a i (by omega) (by omega), by rw [h3], by rw [h3]⟩ hb (fun k hk => (h.2.2.2.2.2.1 k hk).frame (fun F i q1 q2 => h1.1 F (2 + k) i (by omega)) (fun i => h2 14 0 i (by omega) (by omega)))
/-- what stands where: kind, verdict, words, points, fact, day -/
def tf (w : Nat) : Nat := if w = 0 then 10 else if w = 1 then 12 else if w = 2 then 13 else if w = 3 then 11 else if w = 4 then 14 else 15
theorem raw_eq {S M : Stt} {n i : Nat} {Q : Nat → Nat → Nat} (hB : BC S 0 n Q) (hM : BM M n Q) (hr : ∀ i, i < n → S.1 11 0 i = M.1 10 0 i ∧ S.1 14 0 i = M.1 11 0 i) (hi : i < n) {w : Nat} (hw : w ≤ 5) : S.1 (tf w) 0 i = M.1 (7 + w) 0 i := by
  obtain ⟨p0, p1, p2, p3, p4, p5, p6⟩ := hB.2 i hi
  obtain ⟨m0, m1, m2, m3, m4, m5⟩ := hM.2 i hi
  rcases (show w = 0 ∨ w = 1 ∨ w = 2 ∨ w = 3 ∨ w = 4 ∨ w = 5 by omega) with rfl | rfl | rfl | rfl | rfl | rfl
  · exact p0.trans m0.symm
  · exact p2.trans m2.symm
  · exact p3.trans m3.symm
  · exact (hr i hi).1
  · exact (hr i hi).2
  · exact p5.trans m5.symm
theorem tell_eq {S : Stt} {b n i w : Nat} (hn : n ≤ 6) (hc : S.1 17 b 0 = nI n) (hi : i < n) (hw : w ≤ 5) : f_X0_tell b (nI i) (nI w) S = some (S.1 (tf w) b i, S) := by
  unfold f_X0_tell
  rw [isOneB_eq hc (by omega) (by omega), obind, if_b2i, decide_eq_true hi, if_pos rfl, ixb_nI (show i < 6 by omega) (by omega), grd_t, cl_nI (by omega)]
  rcases (show w = 0 ∨ w = 1 ∨ w = 2 ∨ w = 3 ∨ w = 4 ∨ w = 5 by omega) with rfl | rfl | rfl | rfl | rfl | rfl <;> rfl
theorem pageOf_eq {M : Stt} {i w : Nat} (hi : i < 6) (hw : w ≤ 5) : f_X8_pageOf (nI i) (nI w) M = some (M.1 (7 + w) 0 i, M) := by
  unfold f_X8_pageOf
  rw [ixb_nI hi (by omega), grd_t, grd_t, grd_t, grd_t, grd_t, grd_t, cl_nI (by omega)]
  rcases (show w = 0 ∨ w = 1 ∨ w = 2 ∨ w = 3 ∨ w = 4 ∨ w = 5 by omega) with rfl | rfl | rfl | rfl | rfl | rfl <;> rfl
theorem sim_page (x1 x2 : Int32) : SimI (f_X7_page x1 x2) (f_X8_page x1 x2) := by
  intro S M h
  obtain ⟨n, Q, hV, hB, hR, hM, hDP, hL, hr⟩ := h.bk
  have hn := hV.1
  unfold f_X7_page f_X8_page
  rcases page2 x1 hn hB.1 hM.1 with ⟨a1, a2⟩ | ⟨i, hi, rfl, a1, a2⟩
  · exact ⟨-1, S, M, by rw [a1, obind, if_pos rfl], by rw [a2, obind, if_pos rfl], h⟩
  · rw [a1, a2, obind, obind, if_neg n10, if_neg n10, in_eq, obind]
    rcases ixle x2 (k := 5) (by omega) with ⟨b1, b2⟩ | ⟨w, hw, rfl, b1, b2, b3⟩
    · refine ⟨-1, S, M, ?_, by rw [n9 5, if_neg b1, if_pos rfl], h⟩
      rcases b2 with b2 | ⟨b2, b3⟩
      · rw [if_pos b2]
      · rw [if_neg b2, if_neg]
        intro q
        rw [Int32.lt_iff_toInt_lt] at b3
        rw [n9 5, Int32.le_iff_toInt_le] at q
        omega
    · refine ⟨1, _, _, ?_, ?_, h.ask (S.1 (tf w) 0 i)⟩
      · rw [if_neg b1, n9 5, if_pos b3.2, tell_eq hn hB.1 hi hw, obind]
      · rw [n9 5, if_pos b3, if_neg n10, pageOf_eq (by omega) hw, obind]
        unfold f_X8_ask
        rw [obind, raw_eq hB hM hr hi hw]
def setV (Q : Nat → Nat → Nat) (i v : Nat) : Nat → Nat → Nat := fun k j => if k = 2 ∧ j = i then v else Q k j
theorem setV_ne {Q : Nat → Nat → Nat} {i v k j : Nat} (h : k ≠ 2) : setV Q i v k j = Q k j := if_neg (fun q => h q.1)
theorem sim_reverse (x1 x2 : Int32) : SimI (f_X7_reverse x1 x2) (f_X8_reverse x1 x2) := by
  intro S M h
  obtain ⟨n, Q, hV, hB, hR, hM, hDP, hL, hr⟩ := h.bk
  have hn := hV.1
  unfold f_X7_reverse f_X8_reverse
  rcases page2 x1 hn hB.1 hM.1 with ⟨a1, a2⟩ | ⟨i, hi, rfl, a1, a2⟩
  · exact ⟨-1, S, M, by rw [a1, obind, if_pos rfl], by rw [a2, obind, if_pos rfl], h⟩
  · rw [a1, a2, obind, obind, if_neg n10, if_neg n10, in_eq, obind]
    rcases verd2 x2 with ⟨b1, b2⟩ | ⟨v, hv, rfl, b1, b2⟩
    · exact ⟨-1, S, M, by rw [b1, obind, if_pos rfl], by rw [if_neg b2, if_pos rfl], h⟩
    · obtain ⟨p0, p1, p2, p3, p4, p5, p6⟩ := hB.2 i hi
      obtain ⟨m0, m1, m2, m3, m4, m5⟩ := hM.2 i hi
      obtain ⟨v0, v1, v2, v3, v4, v5⟩ := hV.2 i hi
      rw [b1, obind, if_neg n10, if_pos b2, if_neg n10, ixb_nI (show i < 6 by omega) (by omega), grd_t, grd_t, grd_t, grd_t, cl_nI (by omega)]
      dsimp only
      rw [p0, m0, n9 3, nI_if (by omega) (by omega), nI_if (by omega) (by omega)]
      by_cases c : Q 0 i = 3
      · obtain ⟨S', M', e1, e2, e3⟩ := h.refuse (k := 3) (by omega) (by omega)
        exact ⟨-3, S', M', by rw [if_pos c, e1, obind], by rw [if_pos c, e2, obind], e3⟩
      · refine ⟨nI (Q 2 i), put S 12 0 i (nI v), put M 8 0 i (nI v), by rw [if_neg c, p2], by rw [if_neg c, m2], h.book1 ⟨fun F a j q => ?_, rfl⟩ (fun F a j q1 q2 => ?_) rfl ⟨n, setV Q i v, ⟨hn, fun j hj => ?_⟩, ⟨?_, fun j hj => ?_⟩, (hR.frame1 (fun k => ?_)).ext (fun j hj => rfl), ⟨?_, fun j hj => ?_⟩, ?_, fun j hj => ?_⟩⟩
        · rw [put_at, if_neg (by omega)]
        · rw [put_at, if_neg (by omega)]
        · obtain ⟨u0, u1, u2, u3, u4, u5⟩ := hV.2 j hj
          refine ⟨u0, u1, ?_, u3, u4, u5⟩
          unfold setV
          split <;> omega
        · rw [put_at, if_neg (by omega)]; exact hB.1
        · obtain ⟨q0, q1, q2, q3, q4, q5, q6⟩ := hB.2 j hj
          unfold PgC
          simp only [put_at, setV_ne (show (0 : Nat) ≠ 2 by omega), setV_ne (show (1 : Nat) ≠ 2 by omega), setV_ne (show (3 : Nat) ≠ 2 by omega), setV_ne (show (4 : Nat) ≠ 2 by omega), setV_ne (show (5 : Nat) ≠ 2 by omega)]
          refine ⟨q0, q1, ?_, q3, q4, q5, q6⟩
          unfold setV
          by_cases cj : j = i
          · rw [if_pos ⟨trivial, trivial, cj⟩, if_pos ⟨rfl, cj⟩]
          · rw [if_neg (fun q => cj q.2.2), if_neg (fun q => cj q.2)]; exact q2
        · rw [put_at, if_neg (by omega)]
        · rw [put_at, if_neg (by omega)]; exact hM.1
        · obtain ⟨q0, q1, q2, q3, q4, q5⟩ := hM.2 j hj
          unfold PgM
          simp only [put_at, setV_ne (show (0 : Nat) ≠ 2 by omega), setV_ne (show (1 : Nat) ≠ 2 by omega), setV_ne (show (3 : Nat) ≠ 2 by omega), setV_ne (show (4 : Nat) ≠ 2 by omega), setV_ne (show (5 : Nat) ≠ 2 by omega)]
          refine ⟨q0, q1, ?_, q3, q4, q5⟩
          unfold setV
          by_cases cj : j = i
          · rw [if_pos ⟨trivial, trivial, cj⟩, if_pos ⟨rfl, cj⟩]
          · rw [if_neg (fun q => cj q.2.2), if_neg (fun q => cj q.2)]; exact q2
        · exact hDP
        · rw [put_at, if_neg (by omega), put_at, if_neg (by omega), put_at, if_neg (by omega), put_at, if_neg (by omega)]
          exact hr j hj
/-- new days on both sides -/
theorem Rel.days {S S' M M' : Stt} (h : Rel S M) {n : Nat} {Q : Nat → Nat → Nat} (hV : BkV n Q) (hB : BC S 0 n Q) (hR : RkC S 0 n Q) (hM : BM M n Q) (hr : ∀ i, i < n → S.1 11 0 i = M.1 10 0 i ∧ S.1 14 0 i = M.1 11 0 i) (f : Nat → Nat) (hD : DP n (setD Q f)) (h1 : ∀ F a i, ¬ (F = 15 ∧ a = 0) → S'.1 F a i = S.1 F a i) (h2 : S'.2 = S.2) (h3 : ∀ i, i < n → S'.1 15 0 i = nI (f i)) (k1 : ∀ F a i, ¬ (F = 12 ∧ a = 0) → M'.1 F a i = M.1 F a i) (k2 : M'.2 = M.2) (k3 : ∀ i, i < n → M'.1 12 0 i = nI (f i)) : Rel S' M' := by
  have hn := hV.1
  refine h.book1 ⟨fun F a i q => h1 F a i (by omega), h2⟩ (fun F a i q1 q2 => k1 F a i (by omega)) k2 ⟨n, setD Q f, hV.setD (fun i hi => ?_), hB.setD h3 (fun F i q1 q2 q3 => h1 F 0 i (by omega)), (hR.frame1 (fun k => h1 18 0 k (by omega))).ext (fun _ _ => rfl), hM.setD k3 (k1 0 10 0 (by omega)) (fun F i q1 q2 => k1 F 0 i (by omega)), hD, fun i hi => ?_⟩
  · have := hD.1 i hi
    rw [setD5] at this
    omega
  · rw [h1 11 0 i (by omega), h1 14 0 i (by omega), k1 10 0 i (by omega), k1 11 0 i (by omega)]
    exact hr i hi
theorem sim_swap (x1 x2 : Int32) : SimI (f_X7_swap x1 x2) (f_X8_swap x1 x2) := by
  intro S M h
  obtain ⟨n, Q, hV, hB, hR, hM, hDP, hL, hr⟩ := h.bk
  have hn := hV.1
  unfold f_X7_swap f_X8_swap
  rcases page2 x1 hn hB.1 hM.1 with ⟨a1, a2⟩ | ⟨i, hi, rfl, a1, a2⟩
  · exact ⟨-1, S, M, by rw [a1, obind, if_pos rfl], by rw [a2, obind, if_pos rfl], h⟩
  · rw [a1, a2, obind, obind, if_neg n10, if_neg n10]
    rcases page2 x2 hn hB.1 hM.1 with ⟨b1, b2⟩ | ⟨j, hj, rfl, b1, b2⟩
    · exact ⟨-1, S, M, by rw [b1, obind, if_pos rfl], by rw [b2, obind, if_pos rfl], h⟩
    · rw [b1, b2, obind, obind, if_neg n10, if_neg n10, ixb_nI (show i < 6 by omega) (by omega), ixb_nI (show j < 6 by omega) (by omega), cl_nI (show i < 2 ^ 31 by omega), cl_nI (show j < 2 ^ 31 by omega)]
      have e1 := (hB.2 i hi).2.2.2.2.2.1
      have e2 := (hB.2 j hj).2.2.2.2.2.1
      have m1 := (hM.2 i hi).2.2.2.2.2
      have m2 := (hM.2 j hj).2.2.2.2.2
      refine ⟨nI (Q 5 j), put (put S 15 0 i (nI (Q 5 j))) 15 0 j (nI (Q 5 i)), put (put M 12 0 i (nI (Q 5 j))) 12 0 j (nI (Q 5 i)), ?_, ?_, h.days hV hB hR hM hr (fun k => if k = j then Q 5 i else if k = i then Q 5 j else Q 5 k) ⟨fun a ha => ?_, fun a b ha hb e => ?_⟩ (fun F a k q => ?_) rfl (fun k hk => ?_) (fun F a k q => ?_) rfl (fun k hk => ?_)⟩
      · rw [grd_t, grd_t, grd_t, grd_t, grd_t]
        dsimp only
        rw [e1, e2, put_at]
        by_cases c : i = j
        · subst c
          rw [if_pos ⟨rfl, rfl, rfl⟩]
        · rw [if_neg (fun q => c q.2.2), put_at, if_pos ⟨rfl, rfl, rfl⟩]
      · rw [grd_t, grd_t, grd_t, grd_t, grd_t]
        dsimp only
        rw [m1, m2, put_at]
        by_cases c : i = j
        · subst c
          rw [if_pos ⟨rfl, rfl, rfl⟩]
        · rw [if_neg (fun q => c q.2.2), put_at, if_pos ⟨rfl, rfl, rfl⟩]
      · have z1 := hDP.1 a ha
        have z2 := hDP.1 i hi
        have z3 := hDP.1 j hj
        show (if a = j then Q 5 i else if a = i then Q 5 j else Q 5 a) < n
        split
        · omega
        · split <;> omega
      · have z1 := hDP.2 i j hi hj
        have z2 := hDP.2 i b hi hb
        have z3 := hDP.2 j b hj hb
        have z4 := hDP.2 a i ha hi
        have z5 := hDP.2 a j ha hj
        have z6 := hDP.2 a b ha hb
        have z7 := hDP.2 j i hj hi
        have e : (if a = j then Q 5 i else if a = i then Q 5 j else Q 5 a) = (if b = j then Q 5 i else if b = i then Q 5 j else Q 5 b) := e
        by_cases c1 : a = j
        · rw [if_pos c1] at e
          by_cases c2 : b = j
          · omega
          · rw [if_neg c2] at e
            by_cases c3 : b = i
            · rw [if_pos c3] at e; omega
            · rw [if_neg c3] at e; omega
        · rw [if_neg c1] at e
          by_cases c4 : a = i
          · rw [if_pos c4] at e
            by_cases c2 : b = j
            · rw [if_pos c2] at e; omega
            · rw [if_neg c2] at e
              by_cases c3 : b = i
              · omega
              · rw [if_neg c3] at e; omega
          · rw [if_neg c4] at e
            by_cases c2 : b = j
            · rw [if_pos c2] at e; omega
            · rw [if_neg c2] at e
              by_cases c3 : b = i
              · rw [if_pos c3] at e; omega
              · rw [if_neg c3] at e; omega
      · rw [put_at, if_neg (by omega), put_at, if_neg (by omega)]
      · rw [put_at]
        by_cases c : k = j
        · rw [if_pos ⟨rfl, rfl, c⟩, if_pos c]
        · rw [if_neg (fun q => c q.2.2), if_neg c, put_at]
          by_cases c2 : k = i
          · rw [if_pos ⟨rfl, rfl, c2⟩, if_pos c2]
          · rw [if_neg (fun q => c2 q.2.2), if_neg c2]
            exact (hB.2 k hk).2.2.2.2.2.1
      · rw [put_at, if_neg (by omega), put_at, if_neg (by omega)]
      · rw [put_at]
        by_cases c : k = j
        · rw [if_pos ⟨rfl, rfl, c⟩, if_pos c]
        · rw [if_neg (fun q => c q.2.2), if_neg c, put_at]
          by_cases c2 : k = i
          · rw [if_pos ⟨rfl, rfl, c2⟩, if_pos c2]
          · rw [if_neg (fun q => c2 q.2.2), if_neg c2]
            exact (hM.2 k hk).2.2.2.2.2
