/-! best: both searches side by side -/
section
variable {n : Nat} {Q : Nat → Nat → Nat}
theorem tday {S : Stt} (hV : BkV n Q) {D : Nat → Nat} {k i : Nat} (hD : DK D n k) (hk : k < n) (hi : i < n) (h9 : D i = 99) (hB : BC S 1 n (setD Q D)) (hR : RkC S 1 n Q) (fr : Nat → Int32 → Int32 → Stt → Option Stt) (kb : Nat → Int32 → Int32 → Int32 → Stt → Option Stt) (ke : Stt → Option Stt) : ∃ S1, KQ S S1 ∧ BC S1 1 n (setD Q (updD D i k)) ∧ RkC S1 1 n Q ∧ (∀ F a j, ¬ (F = 15 ∧ a = 1) → ¬ (30 ≤ F ∧ F ≤ 33) → S1.1 F a j = S.1 F a j) ∧ fb_X2_tryDay_3 fr kb ke 1 (nI k) (nI (aw (setD Q D) n n k)) (nI i) S = if S1.1 52 0 0 ≤ nI (aw (setD Q (updD D i k)) n n (k + 1)) then kb 1 (nI k) (nI (aw (setD Q D) n n k)) (nI (i + 1)) (put S1 15 1 i 99) else ((f_X2_goOn fr 1 (nI k) (nI (aw (setD Q (updD D i k)) n n (k + 1))) (put S1 50 0 k (nI i))).bind fun q15 => kb 1 (nI k) (nI (aw (setD Q D) n n k)) (nI (i + 1)) (put q15 15 1 i 99)) := by
  have hn := hV.1
  have hV' : BkV n (setD Q (updD D i k)) := hV.setD (fun j hj => by
    by_cases c : j = i
    · rw [c, updD_i]; omega
    · rw [updD_ne c]
      have := hD.1 j hj
      omega)
  have q1 : KQ S (put S 15 1 i (nI k)) := KQ.p15 S _ _
  have hB1 : BC (put S 15 1 i (nI k)) 1 n (setD Q (updD D i k)) := q1.bc hB (fun j hj => by
    rw [put_at]
    by_cases c : j = i
    · rw [if_pos ⟨rfl, rfl, c⟩, c, updD_i]
    · rw [if_neg (fun z => c z.2.2), updD_ne c]
      exact (hB.2 j hj).2.2.2.2.2.1)
  have hR1 : RkC (put S 15 1 i (nI k)) 1 n (setD Q (updD D i k)) := (q1.rk hR).ext (fun _ _ => rfl)
  obtain ⟨S1, a1, a2, a3⟩ := hear_eq hV' hB1 hR1 (hD.upd hi h9 (by omega)).dd (d := k) (by omega)
  refine ⟨S1, q1.tr a2.kq, a2.bc hB1, (q1.tr a2.kq).rk hR, fun F a j z1 z2 => ?_, ?_⟩
  · rw [a2.1 F a j z2, put_at, if_neg (by omega)]
  · have e5 : S.1 15 1 i = nI 99 := by
      have := (hB.2 i hi).2.2.2.2.2.1
      rw [setD5, h9] at this
      exact this
    unfold fb_X2_tryDay_3 fj_X2_tryDay_93_3
    rw [hB.1, if_neg (nI_ge hi (by omega)), if_neg (nI_ge hk (by omega)), ixb_nI (show i < 6 by omega) (by omega), grd_t, cl_nI (show i < 2 ^ 31 by omega), e5, if_pos (show nI 99 = 99 from rfl), grd_t, a1, obind]
    unfold f_X1_waiting
    rw [obind, bitCount_eq, obind]
    dsimp only
    rw [waiting_bc hV' a3, nI_add, show aw (setD Q D) n n k + wc (setD Q (updD D i k)) n n k (-9) = aw (setD Q (updD D i k)) n n (k + 1) by rw [aw, aw_upd hn (by omega) h9], ixb_nI (show k < 6 by omega) (by omega), grd_t, grd_t, cl_nI (show k < 2 ^ 31 by omega), nI_1 i]
    rfl
theorem jbest (hV : BkV n Q) : ∀ (e k dep dep' : Nat) (S M : Stt) (x2 : Int32) (D : Nat → Nat), k + (e + 1) = n → e < dep → e + 1 < dep' → DK D n k → BC S 1 n (setD Q D) → RkC S 1 n Q → RM M n Q D → BBb S M n → (∀ j, j < k → S.1 50 0 j = M.1 16 0 j) → (∀ i, i < n → bt x2 i = decide (D i = 99)) → ∃ S' M', f_X2_tryDay dep 1 (nI k) (nI (aw (setD Q D) n n k)) S = some S' ∧ f_X8_readOn dep' (nI k) x2 M = some M' ∧ KQ S S' ∧ WB n M M' ∧ FDb S' M' n ∧ BC S' 1 n (setD Q D) ∧ RM M' n Q D ∧ (∀ j, j < k → S'.1 50 0 j = S.1 50 0 j) ∧ ∀ j, j < k → M'.1 16 0 j = M.1 16 0 j := by
  have hn := hV.1
  intro e
  induction e with
  | zero => ?_
  | succ e ih => ?_
  all_goals
    intro k dep dep' S M x2 D h1 h2 h3 hD hB hR hM hBB hp hx
    obtain ⟨dp, rfl⟩ : ∃ dp, dep = dp + 1 := ⟨dep - 1, by omega⟩
    obtain ⟨dp', rfl⟩ : ∃ dp', dep' = dp' + 1 := ⟨dep' - 1, by omega⟩
    have lp : ∀ (w i fuel : Nat) (S M : Stt), i + w = n → w < fuel → BC S 1 n (setD Q D) → RkC S 1 n Q → RM M n Q D → BBb S M n → (∀ j, j < k → S.1 50 0 j = M.1 16 0 j) → (FDb S M n ∨ ∃ j, i ≤ j ∧ j < n ∧ D j = 99) → ∃ S' M', fl_X2_tryDay_3 (f_X2_tryDay dp) (fun S => some S) fuel 1 (nI k) (nI (aw (setD Q D) n n k)) (nI i) S = some S' ∧ fl_X8_readOn_61 (f_X8_readOn dp') (fun S => some S) fuel (nI k) x2 (nI i) M = some M' ∧ KQ S S' ∧ WB n M M' ∧ FDb S' M' n ∧ BC S' 1 n (setD Q D) ∧ RM M' n Q D ∧ (∀ j, j < k → S'.1 50 0 j = S.1 50 0 j) ∧ ∀ j, j < k → M'.1 16 0 j = M.1 16 0 j := by
      intro w
      induction w with
      | zero =>
        intro i fuel S M q1 q2 qB qR qM qBB qp qF
        obtain ⟨g, rfl⟩ : ∃ g, fuel = g + 1 := ⟨fuel - 1, by omega⟩
        have hc : M.1 0 10 0 = nI n := qM.2.choose_spec.2.1
        have fd : FDb S M n := by
          rcases qF with z | ⟨j, z1, z2, -⟩
          · exact z
          · omega
        refine ⟨S, M, ?_, ?_, KQ.rf S, WB.rf n M, fd, qB, qM, fun _ _ => rfl, fun _ _ => rfl⟩
        · rw [fls_X2_tryDay_3]
          unfold fb_X2_tryDay_3
          rw [qB.1, if_pos (nI_le (by omega) (by omega))]
        · rw [fls_X8_readOn_61]
          unfold fb_X8_readOn_61
          rw [hc, if_pos (nI_le (by omega) (by omega))]
      | succ w ihw =>
        intro i fuel S M q1 q2 qB qR qM qBB qp qF
        obtain ⟨g, rfl⟩ : ∃ g, fuel = g + 1 := ⟨fuel - 1, by omega⟩
        have hc : M.1 0 10 0 = nI n := qM.2.choose_spec.2.1
        rw [fls_X8_readOn_61, rstep _ _ _ hc (by omega) hn (show i < n by omega), hx i (by omega), fls_X2_tryDay_3]
        by_cases c9 : D i = 99
        · obtain ⟨S1, a1, a2, a3, a4, a5⟩ := tday hV hD (show k < n by omega) (show i < n by omega) c9 qB qR (f_X2_tryDay dp) (fl_X2_tryDay_3 (f_X2_tryDay dp) (fun S => some S) g) (fun S => some S)
          rw [if_pos (decide_eq_true c9), a5]
          have hDu := hD.upd (show i < n by omega) c9 (show k < 99 by omega)
          have hR2 : RM (put (put M 16 0 k (nI i)) 12 0 i (nI k)) n Q (updD D i k) := (qM.keep (WB.p16 n M _ _) (fun j hj => by rw [put_at, if_neg (by omega)])).upd (by omega) (by omega)
          have w2 : WB n M (put (put M 16 0 k (nI i)) 12 0 i (nI k)) := (WB.p16 n M _ _).tr (WB.p12 _ (by omega) _)
          have e28 : (put (put M 16 0 k (nI i)) 12 0 i (nI k)).1 0 28 0 = M.1 0 28 0 := by rw [put_at, if_neg (by omega), put_at, if_neg (by omega)]
          have ab := awB (Q := Q) (n := n) (updD D i k) (k + 1) (by omega)
          obtain ⟨A, hA⟩ : ∃ A, aw (setD Q (updD D i k)) n n (k + 1) = A := ⟨_, rfl⟩
          rw [hA] at ab ⊢
          have e52 : S1.1 52 0 0 = S.1 52 0 0 := a4 52 0 0 (by omega) (by omega)
          have hx2 : ∀ j, j < n → bt (x2 &&& (((1 : Int32) <<< (nI i &&& 31)) ^^^ (-1 : Int32))) j = decide (updD D i k j = 99) := fun j hj => by
            rw [b_and, b_not _ (show j < 32 by omega), b_pow (by omega) (by omega), hx j hj]
            by_cases cj : j = i
            · rw [cj, updD_i, decide_eq_true (rfl : i = i), decide_eq_false (show ¬ k = 99 by omega), Bool.not_true, Bool.and_false]
            · rw [updD_ne cj, decide_eq_false cj, Bool.not_false, Bool.and_true]
          -- what comes after the step
          have after : ∀ (S2 M2 : Stt), KQ S S2 → WB n M M2 → FDb S2 M2 n → BC S2 1 n (setD Q (updD D i k)) → RM M2 n Q (updD D i k) → (∀ j, j < k → S2.1 50 0 j = S.1 50 0 j) → (∀ j, j < k → M2.1 16 0 j = M.1 16 0 j) → ∃ S' M', fl_X2_tryDay_3 (f_X2_tryDay dp) (fun S => some S) g 1 (nI k) (nI (aw (setD Q D) n n k)) (nI (i + 1)) (put S2 15 1 i 99) = some S' ∧ fl_X8_readOn_61 (f_X8_readOn dp') (fun S => some S) g (nI k) x2 (nI (i + 1)) M2 = some M' ∧ KQ S S' ∧ WB n M M' ∧ FDb S' M' n ∧ BC S' 1 n (setD Q D) ∧ RM M' n Q D ∧ (∀ j, j < k → S'.1 50 0 j = S.1 50 0 j) ∧ ∀ j, j < k → M'.1 16 0 j = M.1 16 0 j := by
            intro S2 M2 k1 k2 k3 k4 k5 k6 k7
            have fr : KQ S2 (put S2 15 1 i 99) := KQ.p15 S2 _ _
            have fB : BC (put S2 15 1 i 99) 1 n (setD Q D) := fr.bc k4 (fun j hj => by
              rw [put_at]
              by_cases c : j = i
              · rw [if_pos ⟨rfl, rfl, c⟩, c, c9]; rfl
              · rw [if_neg (fun z => c z.2.2)]
                have := (k4.2 j hj).2.2.2.2.2.1
                rw [setD5, updD_ne c] at this
                exact this)
            have fF : FDb (put S2 15 1 i 99) M2 n := by
              obtain ⟨y, y1, y2, y3, y4⟩ := k3
              exact ⟨y, y1, by rw [put_at, if_neg (by omega)]; exact y2, y3, fun j hj => by rw [put_at, if_neg (by omega)]; exact y4 j hj⟩
            obtain ⟨S', M', d1, d2, d3, d4, d5, d6, d7, d8, d9⟩ := ihw (i + 1) g (put S2 15 1 i 99) M2 (by omega) (by omega) fB ((k1.tr fr).rk qR) (k5.down c9) (Or.inr fF) (fun j hj => by rw [put_at, if_neg (by omega), k6 j hj, k7 j hj]; exact qp j hj) (Or.inl fF)
            refine ⟨S', M', d1, d2, k1.tr (fr.tr d3), k2.tr d4, d5, d6, d7, fun j hj => ?_, fun j hj => (d9 j hj).trans (k7 j hj)⟩
            rw [d8 j hj, put_at, if_neg (by omega), k6 j hj]
          by_cases cl : S1.1 52 0 0 ≤ nI A
          · -- no better
            rw [if_pos cl]
            rw [e52] at cl
            have fd : FDb S M n := by
              rcases qBB with ⟨z1, z2⟩ | z
              · rw [z1] at cl
                exact absurd ((nI_leI (by omega) (by omega)).mp cl) (by omega)
              · exact z
            obtain ⟨M3, d1, d2, d3, d4, d5, d6⟩ := rnu hV (n - (k + 1)) (k + 1) dp' (put (put M 16 0 k (nI i)) 12 0 i (nI k)) (x2 &&& (((1 : Int32) <<< (nI i &&& 31)) ^^^ (-1 : Int32))) (updD D i k) (by omega) (by omega) hDu hR2 hx2 (by
              obtain ⟨y, y1, y2, y3, -⟩ := fd
              rw [e28, hA, y3, ← y2]
              exact cl)
            rw [d1, obind]
            refine after S1 M3 a1 (w2.tr d2) ?_ a2 d6 (fun j hj => a4 50 0 j (by omega) (by omega)) (fun j hj => ?_)
            · obtain ⟨y, y1, y2, y3, y4⟩ := fd
              exact ⟨y, y1, by rw [e52]; exact y2, by rw [d3, e28]; exact y3, fun j hj => by rw [a4 51 0 j (by omega) (by omega), d4 j, put_at, if_neg (by omega), put_at, if_neg (by omega)]; exact y4 j hj⟩
            · rw [d5 j (by omega), put_at, if_neg (by omega), put_at, if_neg (by omega)]
          · -- better
            rw [if_neg cl]
            rw [e52] at cl
            have f50 : KQ S (put S1 50 0 k (nI i)) := a1.tr (KQ.p5 S1 (by omega) _ _)
            have hb28 : ¬ M.1 0 28 0 ≤ nI A := by
              rcases qBB with ⟨z1, z2⟩ | ⟨y, y1, y2, y3, -⟩
              · rw [z2]; exact nI_ge (by omega) (by omega)
              · rw [y3, ← y2]; exact cl
            have hp2 : ∀ j, j < k + 1 → (put S1 50 0 k (nI i)).1 50 0 j = (put (put M 16 0 k (nI i)) 12 0 i (nI k)).1 16 0 j := by
              intro j hj
              rw [put_at, put_at (put M 16 0 k (nI i)), if_neg (show ¬ (16 = 12 ∧ 0 = 0 ∧ j = i) by omega), put_at]
              by_cases cj : j = k
              · rw [if_pos ⟨rfl, rfl, cj⟩, if_pos ⟨rfl, rfl, cj⟩]
              · rw [if_neg (fun z => cj z.2.2), if_neg (fun z => cj z.2.2), a4 50 0 j (by omega) (by omega)]
                exact qp j (by omega)
            have e17 : (put S1 50 0 k (nI i)).1 17 1 0 = nI n := by rw [put_at, if_neg (by omega)]; exact a2.1
            have fB50 : BC (put S1 50 0 k (nI i)) 1 n (setD Q (updD D i k)) := a2.frame (fun F j z1 z2 => by rw [put_at, if_neg (by omega)])
            unfold f_X2_goOn
            rw [e17, nI_1 k, nI_ifle (by omega) (by omega)]
            by_cases ck : n ≤ k + 1
            · have ek : k + 1 = n := by omega
              have e17' : (put (put S1 50 0 k (nI i)) 52 0 0 (nI A)).1 17 1 0 = nI n := by rw [put_at, if_neg (by omega)]; exact e17
              have ecp : cpb (0 : Int32) (0 : Int32) (nI n) 6 6 = true := by
                unfold cpb
                rw [cl_nI (by omega)]
                exact decide_eq_true ⟨by decide, by decide, nI_pos (by omega), by show 0 + n ≤ 6; omega, by show 0 + n ≤ 6; omega⟩
              rw [if_pos ck, e17', ecp, grd_t, obind, cl_nI (show n < 2 ^ 31 by omega), sb_cl0]
              rw [ek] at hDu hA
              obtain ⟨M4, b1, b2⟩ := leaf_aw hn hDu hV hR2
              rw [hA] at b1
              obtain ⟨M5, g1, g2, g3, g4⟩ := copy29 hn (f_X8_readOn (dp' - 1)) n 0 300 (put M4 0 28 0 (nI A)) (by omega) (by omega) (by rw [put_at, if_neg (by omega), b2.1 0 10 0 (by omega), put_at, if_neg (by omega), put_at, if_neg (by omega)]; exact hc)
              have eO : f_X8_readOn dp' (nI (k + 1)) (x2 &&& (((1 : Int32) <<< (nI i &&& 31)) ^^^ (-1 : Int32))) (put (put M 16 0 k (nI i)) 12 0 i (nI k)) = some M5 := by
                obtain ⟨dq, rfl⟩ : ∃ dq, dp' = dq + 1 := ⟨dp' - 1, by omega⟩
                have ec : (put (put M 16 0 k (nI i)) 12 0 i (nI k)).1 0 10 0 = nI n := by rw [put_at, if_neg (by omega), put_at, if_neg (by omega)]; exact hc
                show fo_X8_readOn (f_X8_readOn dq) (nI (k + 1)) _ (put (put M 16 0 k (nI i)) 12 0 i (nI k)) = _
                unfold fo_X8_readOn
                rw [ec, ek, if_pos rfl, b1, obind]
                dsimp only
                rw [b2.1 0 28 0 (by omega), e28, if_neg hb28]
                exact g1
              rw [eO, obind]
              have wM : WB n M M5 := w2.tr ((b2.wb n).tr ((WB.p28 n M4 _).tr ⟨fun F a j z1 z2 z3 z4 => g2 F a j (by omega), g3⟩))
              have e16 : ∀ j, (put M4 0 28 0 (nI A)).1 16 0 j = (put (put M 16 0 k (nI i)) 12 0 i (nI k)).1 16 0 j := fun j => by rw [put_at, if_neg (by omega), b2.1 16 0 j (by omega)]
              refine after (putA (put (put S1 50 0 k (nI i)) 52 0 0 (nI A)) 51 0 (va_cpy ((put (put S1 50 0 k (nI i)) 52 0 0 (nI A)).1 50 0) ((put (put S1 50 0 k (nI i)) 52 0 0 (nI A)).1 51 0) 0 0 n)) M5 (f50.tr ((KQ.p5 _ (by omega) _ _).tr (KQ.p51 _ _))) wM ⟨A, ab, ?_, ?_, fun j hj => ?_⟩ ?_ ?_ (fun j hj => ?_) (fun j hj => ?_)
              · rw [putA_at, if_neg (by omega), put_at, if_pos ⟨rfl, rfl, rfl⟩]
              · rw [g2 0 28 0 (by omega), put_at, if_pos ⟨rfl, rfl, rfl⟩]
              · rw [putA_at, if_pos ⟨rfl, rfl⟩, pk_cpy_in (by omega) (by omega), g4 j (by omega) hj, e16 j, show 0 + (j - 0) = j by omega, put_at, if_neg (by omega)]
                exact hp2 j (by omega)
              · exact fB50.frame (fun F j z1 z2 => by rw [putA_at, if_neg (by omega), put_at, if_neg (by omega)])
              · refine hR2.keep ((b2.wb n).tr ((WB.p28 n M4 _).tr ⟨fun F a j z1 z2 z3 z4 => g2 F a j (by omega), g3⟩)) (fun j hj => ?_)
                rw [g2 12 0 j (by omega), put_at, if_neg (by omega), b2.1 12 0 j (by omega)]
              · rw [putA_at, if_neg (by omega), put_at, if_neg (by omega), put_at, if_neg (by omega), a4 50 0 j (by omega) (by omega)]
              · rw [g2 16 0 j (by omega), e16 j, put_at, if_neg (by omega), put_at, if_neg (by omega)]
            · first
              | omega
              | rw [if_neg ck]
                have hBB2 : BBb (put S1 50 0 k (nI i)) (put (put M 16 0 k (nI i)) 12 0 i (nI k)) n := by
                  unfold BBb FDb at *
                  rw [e28, put_at, if_neg (by omega), e52]
                  rcases qBB with z | ⟨y, y1, y2, y3, y4⟩
                  · exact Or.inl z
                  · exact Or.inr ⟨y, y1, y2, y3, fun j hj => by rw [put_at, if_neg (by omega), a4 51 0 j (by omega) (by omega), put_at, if_neg (by omega), put_at, if_neg (by omega)]; exact y4 j hj⟩
                obtain ⟨S3, M3, d1, d2, d3, d4, d5, d6, d7, d8, d9⟩ := ih (k + 1) dp dp' (put S1 50 0 k (nI i)) (put (put M 16 0 k (nI i)) 12 0 i (nI k)) (x2 &&& (((1 : Int32) <<< (nI i &&& 31)) ^^^ (-1 : Int32))) (updD D i k) (by omega) (by omega) (by omega) hDu fB50 (f50.rk qR) hR2 hBB2 hp2 hx2
                rw [hA] at d1
                rw [d1, obind, obind, d2, obind]
                refine after S3 M3 (f50.tr d3) (w2.tr d4) d5 d6 d7 (fun j hj => ?_) (fun j hj => ?_)
                · rw [d8 j (by omega), put_at, if_neg (by omega), a4 50 0 j (by omega) (by omega)]
                · rw [d9 j (by omega), put_at, if_neg (by omega), put_at, if_neg (by omega)]
        · have v5 := (qB.2 i (by omega)).2.2.2.2.2.1
          rw [setD5] at v5
          have hd9 := hD.1 i (by omega)
          rw [if_neg (by rw [decide_eq_false c9]; decide)]
          have eC : fb_X2_tryDay_3 (f_X2_tryDay dp) (fl_X2_tryDay_3 (f_X2_tryDay dp) (fun S => some S) g) (fun S => some S) 1 (nI k) (nI (aw (setD Q D) n n k)) (nI i) S = fl_X2_tryDay_3 (f_X2_tryDay dp) (fun S => some S) g 1 (nI k) (nI (aw (setD Q D) n n k)) (nI (i + 1)) S := by
            unfold fb_X2_tryDay_3
            rw [qB.1, if_neg (nI_ge (by omega) (by omega)), if_neg (nI_ge (by omega) (by omega)), ixb_nI (show i < 6 by omega) (by omega), grd_t, cl_nI (by omega), v5, n9 99, nI_if (by omega) (by omega), if_neg c9, nI_1 i]
          rw [eC]
          refine ihw (i + 1) g S M (by omega) (by omega) qB qR qM qBB qp ?_
          rcases qF with z | ⟨j, z1, z2, z3⟩
          · exact Or.inl z
          · have : j ≠ i := fun q => c9 (by rw [← q]; exact z3)
            exact Or.inr ⟨j, by omega, z2, z3⟩
    obtain ⟨j0, j1, j2⟩ := hD.free (show k < n by omega)
    obtain ⟨S', M', d1, d2, d3, d4, d5, d6, d7, d8, d9⟩ := lp n 0 300 S M (by omega) (by omega) hB hR hM hBB hp (Or.inr ⟨j0, by omega, j1, j2⟩)
    refine ⟨S', M', d1, ?_, d3, d4, d5, d6, d7, d8, d9⟩
    have hc : M.1 0 10 0 = nI n := hM.2.choose_spec.2.1
    show fo_X8_readOn (f_X8_readOn dp') (nI k) x2 M = _
    unfold fo_X8_readOn
    rw [hc, nI_if (by omega) (by omega), if_neg (by omega)]
    exact d2
end
theorem find9 {n : Nat} (hn : n ≤ 6) (ke : Nat → Stt → Option Stt) : ∀ (k i fuel : Nat) (S : Stt), i + k = n → k < fuel → S.1 17 1 0 = nI n → ∃ S', fl_X2_findBest_9 ke fuel 1 (nI i) S = ke 1 S' ∧ (∀ F a j, ¬ (F = 15 ∧ a = 1 ∧ i ≤ j) → S'.1 F a j = S.1 F a j) ∧ S'.2 = S.2 ∧ ∀ j, i ≤ j → j < n → S'.1 15 1 j = nI 99 := by
  intro k
  induction k with
  | zero =>
    intro i fuel S h1 h2 hc
    obtain ⟨g, rfl⟩ : ∃ g, fuel = g + 1 := ⟨fuel - 1, by omega⟩
    refine ⟨S, ?_, fun _ _ _ _ => rfl, rfl, fun j q1 q2 => absurd q2 (by omega)⟩
    rw [fls_X2_findBest_9]
    unfold fb_X2_findBest_9
    rw [hc, if_pos (nI_le (by omega) (by omega))]
  | succ k ih =>
    intro i fuel S h1 h2 hc
    obtain ⟨g, rfl⟩ : ∃ g, fuel = g + 1 := ⟨fuel - 1, by omega⟩
    obtain ⟨S', b1, b2, b3, b4⟩ := ih (i + 1) g (put S 15 1 i 99) (by omega) (by omega) (by rw [put_at, if_neg (by omega)]; exact hc)
    refine ⟨S', ?_, fun F a j q => ?_, b3.trans rfl, fun j q1 q2 => ?_⟩
    · rw [fls_X2_findBest_9]
      unfold fb_X2_findBest_9
      rw [hc, if_neg (nI_ge (by omega) (by omega)), ixb_nI (show i < 6 by omega) (by omega), grd_t, cl_nI (by omega), nI_1]
      exact b1
    · rw [b2 F a j (by omega), put_at, if_neg (by omega)]
    · by_cases c : j = i
      · subst c
        rw [b2 15 1 j (by omega), put_at, if_pos ⟨rfl, rfl, rfl⟩]
        rfl
      · exact b4 j (by omega) q2
theorem best70 {r n : Nat} (hr : r < 6) (hn : n ≤ 6) : ∀ (k i fuel : Nat) (S : Stt), i + k = n → k < fuel → S.1 17 0 0 = nI n → ∃ S', fl_X7_best_70 (fun S => some ((S.1 52 0 0), S)) fuel (nI r) (nI i) S = some (S.1 52 0 0, S') ∧ (∀ F a j, ¬ (F = 20 ∧ a = r ∧ i ≤ j) → S'.1 F a j = S.1 F a j) ∧ S'.2 = S.2 ∧ ∀ j, i ≤ j → j < n → S'.1 20 r j = S.1 51 0 j := by
  intro k
  induction k with
  | zero =>
    intro i fuel S h1 h2 hc
    obtain ⟨g, rfl⟩ : ∃ g, fuel = g + 1 := ⟨fuel - 1, by omega⟩
    refine ⟨S, ?_, fun _ _ _ _ => rfl, rfl, fun j q1 q2 => absurd q2 (by omega)⟩
    rw [fls_X7_best_70]
    unfold fb_X7_best_70
    rw [hc, if_pos (nI_le (by omega) (by omega))]
  | succ k ih =>
    intro i fuel S h1 h2 hc
    obtain ⟨g, rfl⟩ : ∃ g, fuel = g + 1 := ⟨fuel - 1, by omega⟩
    obtain ⟨S', b1, b2, b3, b4⟩ := ih (i + 1) g (put S 20 r i (S.1 51 0 i)) (by omega) (by omega) (by rw [put_at, if_neg (by omega)]; exact hc)
    have e52 : (put S 20 r i (S.1 51 0 i)).1 52 0 0 = S.1 52 0 0 := by rw [put_at, if_neg (by omega)]
    rw [e52] at b1
    refine ⟨S', ?_, fun F a j q => ?_, b3.trans rfl, fun j q1 q2 => ?_⟩
    · rw [fls_X7_best_70]
      unfold fb_X7_best_70
      rw [hc, if_neg (nI_ge (by omega) (by omega)), ixb_nI (show i < 6 by omega) (by omega), grd_t, cl_nI (by omega), write_eq (z := 0) hr (show i < 40 by omega), obind, nI_1]
      exact b1
    · rw [b2 F a j (by omega), put_at, if_neg (by omega)]
    · by_cases c : j = i
      · subst c
        rw [b2 20 r j (by omega), put_at, if_pos ⟨rfl, rfl, rfl⟩]
      · rw [b4 j (by omega) q2, put_at, if_neg (by omega)]
theorem best58 {r n : Nat} (hr : r < 6) (hn : n ≤ 6) : ∀ (k i fuel : Nat) (M : Stt), i + k = n → k < fuel → M.1 0 10 0 = nI n → ∃ M', fl_X8_best_58 (fun S => some ((S.1 0 28 0), S)) fuel (nI r) (nI i) M = some (M.1 0 28 0, M') ∧ (∀ F a j, ¬ (F = 3 ∧ a = 0 ∧ 40 * r + i ≤ j ∧ j < 40 * r + 40) → M'.1 F a j = M.1 F a j) ∧ M'.2 = M.2 ∧ ∀ j, i ≤ j → j < n → M'.1 3 0 (40 * r + j) = M.1 18 0 j := by
  intro k
  induction k with
  | zero =>
    intro i fuel M h1 h2 hc
    obtain ⟨g, rfl⟩ : ∃ g, fuel = g + 1 := ⟨fuel - 1, by omega⟩
    refine ⟨M, ?_, fun _ _ _ _ => rfl, rfl, fun j q1 q2 => absurd q2 (by omega)⟩
    rw [fls_X8_best_58]
    unfold fb_X8_best_58
    rw [hc, if_pos (nI_le (by omega) (by omega))]
  | succ k ih =>
    intro i fuel M h1 h2 hc
    obtain ⟨g, rfl⟩ : ∃ g, fuel = g + 1 := ⟨fuel - 1, by omega⟩
    obtain ⟨M', b1, b2, b3, b4⟩ := ih (i + 1) g (put M 3 0 (40 * r + i) (M.1 18 0 i)) (by omega) (by omega) (by rw [put_at, if_neg (by omega)]; exact hc)
    have e28 : (put M 3 0 (40 * r + i) (M.1 18 0 i)).1 0 28 0 = M.1 0 28 0 := by rw [put_at, if_neg (by omega)]
    rw [e28] at b1
    refine ⟨M', ?_, fun F a j q => ?_, b3.trans rfl, fun j q1 q2 => ?_⟩
    · rw [fls_X8_best_58]
      unfold fb_X8_best_58
      rw [hc, if_neg (nI_ge (by omega) (by omega)), ixb_nI (show i < 6 by omega) (by omega), grd_t, cl_nI (by omega), setRow_eq hr (by omega), obind, nI_1]
      exact b1
    · rw [b2 F a j (by omega), put_at, if_neg (by omega)]
    · by_cases c : j = i
      · subst c
        rw [b2 3 0 _ (by omega), put_at, if_pos ⟨rfl, rfl, rfl⟩]
      · rw [b4 j (by omega) q2, put_at, if_neg (by omega)]
theorem sim_best (x1 : Int32) : SimI (f_X7_best x1) (f_X8_best x1) := by
  intro S M h
  obtain ⟨n, Q, hV, hB, hR, hM, hDP, hL, hr0⟩ := h.bk
  have hn := hV.1
  unfold f_X7_best f_X8_best
  rcases ix3 x1 (n := 6) (by omega) with h1 | h1 | ⟨r, hr, rfl⟩
  · exact ⟨-1, S, M, by rw [isOne_no (z := 0) (Or.inl h1.1), obind, if_pos rfl], by rw [isRow_no (no05 (Or.inl h1)), obind, if_pos rfl], h⟩
  · exact ⟨-1, S, M, by rw [isOne_no (z := 0) (Or.inr h1.1), obind, if_pos rfl], by rw [isRow_no (no05 (Or.inr h1)), obind, if_pos rfl], h⟩
  rw [isOne_yes (z := 0) hr, obind, if_neg n10, isRow_yes hr, obind, if_neg n10]
  dsimp only
  rw [hB.1, hM.1]
  by_cases c0 : n = 0
  · subst c0
    exact ⟨-4, S, M, by rw [if_pos (show nI 0 = 0 from rfl)], by rw [if_pos (show nI 0 = 0 from rfl)], h⟩
  rw [if_neg (nI_ne0 (by omega) (by omega)), if_neg (nI_ne0 (by omega) (by omega))]
  obtain ⟨S1, a1, a2, a3, a4⟩ := become_eq (S := S) (b0 := 1) (b1 := 0) (by omega) hn hB.1
  have hB1 := become_bc hB a3 a4
  have hR1 := become_rk hR a4
  obtain ⟨S2, b1, b2, b3, b4⟩ := find9 hn (fun b1 S => (f_X2_tryDay 10 b1 (0 : Int32) (0 : Int32) S).bind fun q3 => some q3) n 0 300 (put S1 52 0 0 193) (by omega) (by omega) (by rw [put_at, if_neg (by omega)]; exact a3)
  have q2 : KQ S1 S2 := ⟨fun F a i z1 z2 z3 => by rw [b2 F a i (by omega), put_at, if_neg (by omega)], b3.trans rfl⟩
  have hB2 : BC S2 1 n (setD Q (fun _ => 99)) := hB1.setD (fun i hi => b4 i (by omega) hi) (fun F i z1 z2 z3 => q2.1 F 1 i (by omega) (by omega) (by omega))
  obtain ⟨M1, c1, c2, c3, c4⟩ := aside_eq hn hM.1
  have w1 : WB n M1 (put M1 0 28 0 1048576) := WB.p28 n M1 _
  have hRM : RM (put M1 0 28 0 1048576) n Q (fun _ => 99) := by
    refine ⟨?_, fun i => Q 5 i, fun i hi => ⟨(hV.2 i hi).2.2.2.2.2, fun z => absurd rfl z⟩, ?_⟩
    · unfold LoR at *
      rw [put_at, if_neg (by omega), c2 0 20 0 (by omega)]
      exact hL
    · have e : setD Q (fun i => Q 5 i) = Q := by
        funext k i
        unfold setD
        by_cases c : k = 5
        · rw [if_pos c, c]
        · rw [if_neg c]
      rw [e]
      exact hM.frame (by rw [put_at, if_neg (by omega), c2 0 10 0 (by omega)]) (fun F i z1 z2 => by rw [put_at, if_neg (by omega), c2 F 0 i (by omega)])
  have ec : (put M1 0 28 0 1048576).1 0 10 0 = nI n := by rw [put_at, if_neg (by omega), c2 0 10 0 (by omega)]; exact hM.1
  obtain ⟨S3, M3, d1, d2, d3, d4, ⟨y, y1, y2, y3, y4⟩, d6, d7, -, -⟩ := jbest hV (n - 1) 0 10 10 S2 (put M1 0 28 0 1048576) (((1 : Int32) <<< (nI n &&& 31)) - 1) (fun _ => 99) (by omega) (by omega) (by omega) ⟨fun i hi => Or.inr rfl, fun i j hi hj _ z => absurd rfl z, fun y hy => absurd hy (by omega)⟩ hB2 (q2.rk hR1) hRM (Or.inl ⟨by rw [b2 52 0 0 (by omega), put_at, if_pos ⟨rfl, rfl, rfl⟩]; rfl, by rw [put_at, if_pos ⟨rfl, rfl, rfl⟩]; rfl⟩) (fun j hj => absurd hj (by omega)) (fun i hi => by rw [full_bits n hn i (by omega), decide_eq_true hi]; rfl)
  have d1 : f_X2_tryDay 10 1 0 0 S2 = some S3 := d1
  have d2 : f_X8_readOn 10 0 (((1 : Int32) <<< (nI n &&& 31)) - 1) (put M1 0 28 0 1048576) = some M3 := d2
  have eF : f_X2_findBest 1 S1 = some S3 := by
    unfold f_X2_findBest
    refine Eq.trans b1 ?_
    rw [d1, obind]
  have kS : Same S S3 := a2.same.tr (q2.tr d3).same
  have e17 : S3.1 17 0 0 = nI n := by rw [d3.1 17 0 0 (by omega) (by omega) (by omega), q2.1 17 0 0 (by omega) (by omega) (by omega), a2.1 17 0 0 (by omega)]; exact hB.1
  obtain ⟨S4, f1, f2, f3, f4, f5⟩ := make_eq (z := 0) (r := r) (n := n) hr (show n ≤ 40 by omega) 0 S3
  obtain ⟨S5, g1, g2, g3, g4⟩ := best70 hr hn n 0 300 S4 (by omega) (by omega) (by rw [f2 17 0 0 (by omega) (by omega)]; exact e17)
  have cM3 : M3.1 0 10 0 = nI n := d7.2.choose_spec.2.1
  obtain ⟨M4, i1, i2, i3, i4⟩ := back_eq hn cM3
  have cM4 : M4.1 0 10 0 = nI n := by rw [i2 0 10 0 (by omega)]; exact cM3
  obtain ⟨M5, j1, j2, j3, j4⟩ := row_M (M := M4) hr (show n ≤ 40 by omega)
  obtain ⟨M6, k1, k2, k3, k4⟩ := best58 hr hn n 0 300 M5 (by omega) (by omega) (by rw [j2 0 10 0 (by omega) (by omega)]; exact cM4)
  have kM : SameM M M4 := by
    refine ⟨fun F a i z => ?_, ?_, ?_⟩
    · by_cases c : F = 12 ∧ a = 0 ∧ i < n
      · obtain ⟨rfl, rfl, ci⟩ := c
        rw [i4 i ci, d4.1 17 0 i (by omega) (by omega) (by omega) (by omega), put_at, if_neg (by omega), c4 i ci]
      · rw [i2 F a i c, d4.1 F a i (by omega) c (by omega) (by omega), put_at, if_neg (by omega), c2 F a i (by omega)]
    · rw [i3, d4.2, put_2, c3]
    · rw [i3, d4.2, put_2, c3]
  refine ⟨nI y, S5, M6, ?_, ?_, (h.same kS kM).row hr (fun F a j z1 z2 => ?_) (fun F a j z1 z2 z3 => ?_) (by rw [g3, f5]) (by rw [k3, j3]) (Or.inr ⟨n, by omega, ?_, ?_, fun j hj => ?_⟩)⟩
  · rw [a1, obind, eF, obind, e17, f1, obind]
    refine Eq.trans g1 ?_
    rw [f2 52 0 0 (by omega) (by omega), y2]
  · rw [c1, obind, ec, d2, obind, i1, obind, cM4, j1, obind]
    refine Eq.trans k1 ?_
    rw [j2 0 28 0 (by omega) (by omega), i2 0 28 0 (by omega), y3]
  · rw [g2 F a j (by omega), f2 F a j z1 z2]
  · rw [k2 F a j (by omega), j2 F a j z1 z2]
  · rw [g2 19 0 r (by omega)]; exact f3
  · rw [k2 2 0 r (by omega)]; exact j4
  · rw [g4 j (by omega) hj, f2 51 0 j (by omega) (by omega), k4 j (by omega) hj, j2 18 0 j (by omega) (by omega), i2 18 0 j (by omega)]
    exact y4 j hj
