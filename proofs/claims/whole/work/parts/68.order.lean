/-! order: the search that leaves what is no better, beside the whole search -/
def WO (M M' : Stt) : Prop := (∀ F a i, ¬ (F = 0 ∧ (a = 22 ∨ a = 24) ∧ i = 0) → ¬ F = 15 → ¬ F = 16 → M'.1 F a i = M.1 F a i) ∧ M'.2 = M.2
theorem WO.rf (M : Stt) : WO M M := ⟨fun _ _ _ _ _ _ => rfl, rfl⟩
theorem WO.tr {M M' M2 : Stt} (h : WO M M') (h2 : WO M' M2) : WO M M2 := ⟨fun F a i q1 q2 q3 => (h2.1 F a i q1 q2 q3).trans (h.1 F a i q1 q2 q3), h2.2.trans h.2⟩
theorem WO.same {M M' : Stt} (h : WO M M') : SameM M M' := ⟨fun F a i q => h.1 F a i (by omega) (by omega) (by omega), by rw [h.2], by rw [h.2]⟩
theorem W22.wo {M M' : Stt} (h : W22 M M') : WO M M' := ⟨fun F a i q1 _ _ => h.1 F a i (by omega), h.2⟩
theorem WO.p16 (M : Stt) (i : Nat) (x : Int32) : WO M (put M 16 0 i x) := ⟨fun F a j _ _ q3 => by rw [put_at, if_neg (fun z => q3 z.1)], rfl⟩
theorem WO.p15 (M : Stt) (i : Nat) (x : Int32) : WO M (put M 15 0 i x) := ⟨fun F a j _ q2 _ => by rw [put_at, if_neg (fun z => q2 z.1)], rfl⟩
theorem WO.p24 (M : Stt) (x : Int32) : WO M (put M 0 24 0 x) := ⟨fun F a j q1 _ _ => by rw [put_at, if_neg (by omega)], rfl⟩
/-- what the reference's search reads -/
def OM (M : Stt) (n r N : Nat) (c : Nat → Nat) (Q : Nat → Nat → Nat) : Prop := BM M n Q ∧ LoR M n n ∧ M.1 2 0 r = nI N ∧ ∀ j, j < N → M.1 3 0 (40 * r + j) = nI (c j)
theorem OM.wo {M M' : Stt} {n r N : Nat} {c : Nat → Nat} {Q : Nat → Nat → Nat} (h : OM M n r N c Q) (w : WO M M') : OM M' n r N c Q := by
  obtain ⟨h1, h2, h3, h4⟩ := h
  refine ⟨h1.frame (w.1 0 10 0 (by omega) (by omega) (by omega)) (fun F j q1 q2 => w.1 F 0 j (by omega) (by omega) (by omega)), ?_, by rw [w.1 2 0 r (by omega) (by omega) (by omega)]; exact h3, fun j hj => by rw [w.1 3 0 _ (by omega) (by omega) (by omega)]; exact h4 j hj⟩
  unfold LoR at *
  rw [w.1 0 20 0 (by omega) (by omega) (by omega)]
  exact h2
section
variable {n r N : Nat} {c : Nat → Nat} {Q : Nat → Nat → Nat}
/-- one step of the reference's loop: skip, or go on with a day -/
theorem ostep {M : Stt} (hV : BkV n Q) (hr : r < 6) (hN : N ≤ 5) (hc : ∀ j, j < N → c j < 32) (hO : OM M n r N c Q) (fr : Int32 → Int32 → Int32 → Int32 → Stt → Option Stt) (kb : Int32 → Int32 → Int32 → Int32 → Int32 → Stt → Option Stt) (ke : Stt → Option Stt) {k i f : Nat} (hk : k < 6) (hi : i < N) (x3 x4 : Int32) (hx4 : x4 + 1 = nI f) (hf : f ≤ 21) : ∃ v M1, W22 M M1 ∧ (bt x3 i = true → v = fcF (fun d m => iso Q n n d m) (c i) (21 - f) f) ∧ (bt x3 i = false → v = -9) ∧ fb_X8_orderOn_58 fr kb ke (nI r) (nI k) x3 x4 (nI i) M = if v = -9 then kb (nI r) (nI k) x3 x4 (nI (i + 1)) M1 else ((fr (nI r) (nI (k + 1)) (x3 &&& (((1 : Int32) <<< (nI i &&& 31)) ^^^ (-1 : Int32))) v (put M1 16 0 k (nI i))).bind fun q10 => kb (nI r) (nI k) x3 x4 (nI (i + 1)) q10) := by
  obtain ⟨o1, o2, o3, o4⟩ := hO
  unfold fb_X8_orderOn_58
  rw [ixb_nI hr (by omega), grd_t, cl_nI (by omega), o3, if_neg (nI_ge hi (by omega)), has_eq _ (by omega), obind, if_b2i]
  dsimp only
  cases cb : bt x3 i
  · refine ⟨-9, M, W22.rf M, fun q => (by cases q), fun _ => rfl, ?_⟩
    rw [if_neg (by decide), if_pos rfl]
    unfold fj_X8_orderOn_98_58
    rw [if_pos rfl, nI_1]
  · obtain ⟨M1, b1, b2⟩ := freeFrom_eq hV o1 o2 (hc i hi) hf
    rw [← fc_fr] at b1
    refine ⟨_, M1, b2, fun _ => rfl, fun q => (by cases q), ?_⟩
    obtain ⟨v, hv⟩ : ∃ v, fcF (fun d m => iso Q n n d m) (c i) (21 - f) f = v := ⟨_, rfl⟩
    rw [hv] at b1
    rw [hv, if_pos rfl, rowAt_eq hr (by omega), obind]
    dsimp only
    rw [o4 i hi, hx4, b1, obind]
    unfold fj_X8_orderOn_98_58
    rw [ixb_nI hk (by omega), grd_t, cl_nI (by omega), nI_1, nI_1]
/-- a beginning that is no better than the best changes nothing that counts -/
theorem onu (hV : BkV n Q) (hr : r < 6) (hN : N ≤ 5) (hc : ∀ j, j < N → c j < 32) : ∀ (e k dep : Nat) (M : Stt) (x3 : Int32) (y : Nat), k + e = N → e < dep → OM M n r N c Q → y ≤ 20 → M.1 0 24 0 ≤ nI y → ∃ M', f_X8_orderOn dep (nI r) (nI k) x3 (nI y) M = some M' ∧ WO M M' ∧ M'.1 0 24 0 = M.1 0 24 0 ∧ (∀ j, M'.1 15 0 j = M.1 15 0 j) ∧ ∀ j, j < k → M'.1 16 0 j = M.1 16 0 j := by
  intro e
  induction e with
  | zero =>
    intro k dep M x3 y h1 h2 hO hy hb
    obtain ⟨dp, rfl⟩ : ∃ dp, dep = dp + 1 := ⟨dep - 1, by omega⟩
    refine ⟨M, ?_, WO.rf M, rfl, fun _ => rfl, fun _ _ => rfl⟩
    show fo_X8_orderOn (f_X8_orderOn dp) (nI r) (nI k) x3 (nI y) M = _
    unfold fo_X8_orderOn
    rw [ixb_nI hr (by omega), grd_t, cl_nI (by omega), hO.2.2.1, show k = N by omega, if_pos rfl, if_pos hb]
  | succ e ih =>
    intro k dep M x3 y h1 h2 hO hy hb
    obtain ⟨dp, rfl⟩ : ∃ dp, dep = dp + 1 := ⟨dep - 1, by omega⟩
    have lp : ∀ (w i fuel : Nat) (M : Stt), i + w = N → w < fuel → OM M n r N c Q → M.1 0 24 0 ≤ nI y → ∃ M', fl_X8_orderOn_58 (f_X8_orderOn dp) (fun S => some S) fuel (nI r) (nI k) x3 (nI y) (nI i) M = some M' ∧ WO M M' ∧ M'.1 0 24 0 = M.1 0 24 0 ∧ (∀ j, M'.1 15 0 j = M.1 15 0 j) ∧ ∀ j, j < k → M'.1 16 0 j = M.1 16 0 j := by
      intro w
      induction w with
      | zero =>
        intro i fuel M q1 q2 qO qb
        obtain ⟨g, rfl⟩ : ∃ g, fuel = g + 1 := ⟨fuel - 1, by omega⟩
        refine ⟨M, ?_, WO.rf M, rfl, fun _ => rfl, fun _ _ => rfl⟩
        rw [fls_X8_orderOn_58]
        unfold fb_X8_orderOn_58
        rw [ixb_nI hr (by omega), grd_t, cl_nI (by omega), qO.2.2.1, if_pos (nI_le (by omega) (by omega))]
      | succ w ihw =>
        intro i fuel M q1 q2 qO qb
        obtain ⟨g, rfl⟩ : ∃ g, fuel = g + 1 := ⟨fuel - 1, by omega⟩
        obtain ⟨v, M1, s1, s2, s3, s4⟩ := ostep hV hr hN hc qO (f_X8_orderOn dp) (fl_X8_orderOn_58 (f_X8_orderOn dp) (fun S => some S) g) (fun S => some S) (show k < 6 by omega) (show i < N by omega) x3 (nI y) (f := y + 1) (nI_1 y) (by omega)
        rw [fls_X8_orderOn_58, s4]
        have hO1 := qO.wo s1.wo
        have hb1 : M1.1 0 24 0 = M.1 0 24 0 := s1.1 0 24 0 (by omega)
        by_cases cv : v = -9
        · rw [if_pos cv]
          obtain ⟨M', d1, d2, d3, d4, d5⟩ := ihw (i + 1) g M1 (by omega) (by omega) hO1 (by rw [hb1]; exact qb)
          exact ⟨M', d1, s1.wo.tr d2, d3.trans hb1, fun j => (d4 j).trans (s1.1 15 0 j (by omega)), fun j hj => (d5 j hj).trans (s1.1 16 0 j (by omega))⟩
        · rw [if_neg cv]
          have vy : ∃ y', y + 1 ≤ y' ∧ y' ≤ 20 ∧ v = nI y' := by
            cases cb : bt x3 i
            · exact absurd (s3 cb) cv
            · rw [s2 cb]
              rcases fc_in (fun d m => iso Q n n d m) (c i) (21 - (y + 1)) (y + 1) (by omega) with z | z
              · exact absurd ((s2 cb).trans z) cv
              · exact z
          obtain ⟨y', y1, y2, rfl⟩ := vy
          have hb2 : (put M1 16 0 k (nI i)).1 0 24 0 = M.1 0 24 0 := by rw [put_at, if_neg (by omega)]; exact hb1
          obtain ⟨M2, c1, c2, c3, c4, c5⟩ := ih (k + 1) dp (put M1 16 0 k (nI i)) (x3 &&& (((1 : Int32) <<< (nI i &&& 31)) ^^^ (-1 : Int32))) y' (by omega) (by omega) (hO1.wo (WO.p16 M1 _ _)) y2 (by
            rw [hb2]
            have z := qb
            rw [Int32.le_iff_toInt_le, nI_toInt (by omega)] at z
            rw [Int32.le_iff_toInt_le, nI_toInt (by omega)]
            omega)
          rw [c1, obind]
          have hbM : M2.1 0 24 0 = M.1 0 24 0 := c3.trans hb2
          obtain ⟨M', d1, d2, d3, d4, d5⟩ := ihw (i + 1) g M2 (by omega) (by omega) ((hO1.wo (WO.p16 M1 _ _)).wo c2) (by rw [hbM]; exact qb)
          refine ⟨M', d1, s1.wo.tr ((WO.p16 M1 _ _).tr (c2.tr d2)), d3.trans hbM, fun j => ?_, fun j hj => ?_⟩
          · rw [d4 j, c4 j, put_at, if_neg (by omega), s1.1 15 0 j (by omega)]
          · rw [d5 j hj, c5 j (by omega), put_at, if_neg (by omega), s1.1 16 0 j (by omega)]
    obtain ⟨M', d1, d2, d3, d4, d5⟩ := lp N 0 300 M (by omega) (by omega) hO hb
    refine ⟨M', ?_, d2, d3, d4, d5⟩
    show fo_X8_orderOn (f_X8_orderOn dp) (nI r) (nI k) x3 (nI y) M = _
    unfold fo_X8_orderOn
    rw [ixb_nI hr (by omega), grd_t, cl_nI (by omega), hO.2.2.1, nI_if (by omega) (by omega), if_neg (by omega)]
    exact d1
end
/-- the planner changed what it tries, its places and its best day alone -/
def KO (S S' : Stt) : Prop := (∀ F a i, ¬ (44 ≤ F ∧ F ≤ 46) → S'.1 F a i = S.1 F a i) ∧ S'.2 = S.2
theorem KO.rf (S : Stt) : KO S S := ⟨fun _ _ _ _ => rfl, rfl⟩
theorem KO.tr {S S' S2 : Stt} (h : KO S S') (h2 : KO S' S2) : KO S S2 := ⟨fun F a i q => (h2.1 F a i q).trans (h.1 F a i q), h2.2.trans h.2⟩
theorem KO.kp {S S' : Stt} (h : KO S S') : KP S S' := ⟨fun F a i _ q2 => h.1 F a i (by omega), h.2⟩
theorem KO.pl {S S' : Stt} {N : Nat} {c : Nat → Nat} {q : Nat → Nat → Int32} (h : KO S S') (hP : PlC S N c q) : PlC S' N c q := hP.frame (fun F a i q1 q2 => h.1 F a i (by omega))
theorem KO.p44 (S : Stt) (i : Nat) (x : Int32) : KO S (put S 44 0 i x) := ⟨fun F a j q => by rw [put_at, if_neg (by omega)], rfl⟩
theorem KO.p46 (S : Stt) (x : Int32) : KO S (put S 46 0 0 x) := ⟨fun F a j q => by rw [put_at, if_neg (by omega)], rfl⟩
theorem KO.p45 (S : Stt) (f : Nat → Int32) : KO S (putA S 45 0 f) := ⟨fun F a j q => by rw [putA_at, if_neg (by omega)], rfl⟩
/-- the best so far, of both -/
def BR (S M : Stt) (N : Nat) : Prop := (S.1 46 0 0 = nI 99 ∧ M.1 0 24 0 = nI 1048576) ∨ ∃ y, y ≤ 20 ∧ S.1 46 0 0 = nI y ∧ M.1 0 24 0 = nI y ∧ ∀ j, j < N → S.1 45 0 j = M.1 15 0 j
theorem copy28 {N : Nat} (hN : N ≤ 5) (fr : Int32 → Int32 → Int32 → Int32 → Stt → Option Stt) : ∀ (k i fuel : Nat) (M : Stt), i + k = N → k < fuel → ∃ M', fl_X8_orderOn_28 fr (fun S => some S) fuel (nI N) (nI i) M = some M' ∧ (∀ F a j, ¬ (F = 15 ∧ a = 0 ∧ i ≤ j) → M'.1 F a j = M.1 F a j) ∧ M'.2 = M.2 ∧ ∀ j, i ≤ j → j < N → M'.1 15 0 j = M.1 16 0 j := by
  intro k
  induction k with
  | zero =>
    intro i fuel M h1 h2
    obtain ⟨g, rfl⟩ : ∃ g, fuel = g + 1 := ⟨fuel - 1, by omega⟩
    refine ⟨M, ?_, fun _ _ _ _ => rfl, rfl, fun j q1 q2 => absurd q2 (by omega)⟩
    rw [fls_X8_orderOn_28]
    unfold fb_X8_orderOn_28
    rw [if_pos (nI_le (by omega) (by omega))]
  | succ k ih =>
    intro i fuel M h1 h2
    obtain ⟨g, rfl⟩ : ∃ g, fuel = g + 1 := ⟨fuel - 1, by omega⟩
    obtain ⟨M', b1, b2, b3, b4⟩ := ih (i + 1) g (put M 15 0 i (M.1 16 0 i)) (by omega) (by omega)
    refine ⟨M', ?_, fun F a j q => ?_, b3.trans rfl, fun j q1 q2 => ?_⟩
    · rw [fls_X8_orderOn_28]
      unfold fb_X8_orderOn_28
      rw [if_neg (nI_ge (by omega) (by omega)), ixb_nI (show i < 6 by omega) (by omega), grd_t, ixb_nI (show i < 8 by omega) (by omega), grd_t, cl_nI (by omega), nI_1]
      exact b1
    · rw [b2 F a j (by omega), put_at, if_neg (by omega)]
    · by_cases c : j = i
      · subst c
        rw [b2 15 0 j (by omega), put_at, if_pos ⟨rfl, rfl, rfl⟩]
      · rw [b4 j (by omega) q2, put_at, if_neg (by omega)]
section
variable {n r N : Nat} {c : Nat → Nat} {Q : Nat → Nat → Nat}
theorem joint (hV : BkV n Q) (hr : r < 6) (hN : N ≤ 5) (hc : ∀ j, j < N → c j < 32) : ∀ (e k dep dep' : Nat) (S M : Stt) (x2 x3 x4 : Int32) (f : Nat), k + (e + 1) = N → e < dep → e + 1 < dep' → PlC S N c (fun d m => iso Q n n d m) → OM M n r N c Q → BR S M N → (∀ j, j < k → S.1 44 0 j = M.1 16 0 j) → (∀ i, i < N → bt x3 i = !bt x2 i) → x4 + 1 = nI f → f ≤ 21 → ∃ S' M', f_X4_tryFrom dep (nI k) x2 (nI f) S = some S' ∧ f_X8_orderOn dep' (nI r) (nI k) x3 x4 M = some M' ∧ KO S S' ∧ WO M M' ∧ BR S' M' N ∧ (∀ j, j < k → S'.1 44 0 j = S.1 44 0 j) ∧ ∀ j, j < k → M'.1 16 0 j = M.1 16 0 j := by
  intro e
  induction e with
  | zero => ?_
  | succ e ih => ?_
  all_goals
    intro k dep dep' S M x2 x3 x4 f h1 h2 h3 hP hO hB hp hx hx4 hf
    obtain ⟨dp, rfl⟩ : ∃ dp, dep = dp + 1 := ⟨dep - 1, by omega⟩
    obtain ⟨dp', rfl⟩ : ∃ dp', dep' = dp' + 1 := ⟨dep' - 1, by omega⟩
    have lp : ∀ (w i fuel : Nat) (S M : Stt), i + w = N → w < fuel → PlC S N c (fun d m => iso Q n n d m) → OM M n r N c Q → BR S M N → (∀ j, j < k → S.1 44 0 j = M.1 16 0 j) → ∃ S' M', fl_X4_tryFrom_3 (f_X4_tryFrom dp) (fun S => some S) fuel (nI k) x2 (nI f) (nI i) S = some S' ∧ fl_X8_orderOn_58 (f_X8_orderOn dp') (fun S => some S) fuel (nI r) (nI k) x3 x4 (nI i) M = some M' ∧ KO S S' ∧ WO M M' ∧ BR S' M' N ∧ (∀ j, j < k → S'.1 44 0 j = S.1 44 0 j) ∧ ∀ j, j < k → M'.1 16 0 j = M.1 16 0 j := by
      intro w
      induction w with
      | zero =>
        intro i fuel S M q1 q2 qP qO qB qp
        obtain ⟨g, rfl⟩ : ∃ g, fuel = g + 1 := ⟨fuel - 1, by omega⟩
        refine ⟨S, M, ?_, ?_, KO.rf S, WO.rf M, qB, fun _ _ => rfl, fun _ _ => rfl⟩
        · rw [fls_X4_tryFrom_3]
          unfold fb_X4_tryFrom_3
          rw [qP.1, if_pos (nI_le (by omega) (by omega))]
        · rw [fls_X8_orderOn_58]
          unfold fb_X8_orderOn_58
          rw [ixb_nI hr (by omega), grd_t, cl_nI (by omega), qO.2.2.1, if_pos (nI_le (by omega) (by omega))]
      | succ w ihw =>
        intro i fuel S M q1 q2 qP qO qB qp
        obtain ⟨g, rfl⟩ : ∃ g, fuel = g + 1 := ⟨fuel - 1, by omega⟩
        obtain ⟨v, M1, s1, s2, s3, s4⟩ := ostep hV hr hN hc qO (f_X8_orderOn dp') (fl_X8_orderOn_58 (f_X8_orderOn dp') (fun S => some S) g) (fun S => some S) (show k < 6 by omega) (show i < N by omega) x3 x4 hx4 hf
        rw [fls_X8_orderOn_58, s4, fls_X4_tryFrom_3]
        unfold fb_X4_tryFrom_3
        rw [qP.1, if_neg (nI_ge (by omega) (by omega)), if_neg (nI_ge (by omega) (by omega)), hasBit_eq _ (by omega), obind, if_b2i]
        dsimp only
        have hO1 := qO.wo s1.wo
        have hB1 : BR S M1 N := by
          unfold BR at *
          rw [s1.1 0 24 0 (by omega)]
          rcases qB with z | ⟨y, z1, z2, z3, z4⟩
          · exact Or.inl z
          · exact Or.inr ⟨y, z1, z2, z3, fun j hj => by rw [s1.1 15 0 j (by omega)]; exact z4 j hj⟩
        have hp1 : ∀ j, j < k → S.1 44 0 j = M1.1 16 0 j := fun j hj => by rw [s1.1 16 0 j (by omega)]; exact qp j hj
        -- what comes after a step that left the beginning alone
        have after : ∀ (S2 M2 : Stt), KO S S2 → WO M M2 → BR S2 M2 N → (∀ j, j < k → S2.1 44 0 j = S.1 44 0 j) → (∀ j, j < k → M2.1 16 0 j = M.1 16 0 j) → ∃ S' M', fl_X4_tryFrom_3 (f_X4_tryFrom dp) (fun S => some S) g (nI k) x2 (nI f) (nI (i + 1)) S2 = some S' ∧ fl_X8_orderOn_58 (f_X8_orderOn dp') (fun S => some S) g (nI r) (nI k) x3 x4 (nI (i + 1)) M2 = some M' ∧ KO S S' ∧ WO M M' ∧ BR S' M' N ∧ (∀ j, j < k → S'.1 44 0 j = S.1 44 0 j) ∧ ∀ j, j < k → M'.1 16 0 j = M.1 16 0 j := by
          intro S2 M2 k1 k2 k3 k4 k5
          obtain ⟨S', M', d1, d2, d3, d4, d5, d6, d7⟩ := ihw (i + 1) g S2 M2 (by omega) (by omega) (k1.pl qP) (qO.wo k2) k3 (fun j hj => by rw [k4 j hj, k5 j hj]; exact qp j hj)
          exact ⟨S', M', d1, d2, k1.tr d3, k2.tr d4, d5, fun j hj => (d6 j hj).trans (k4 j hj), fun j hj => (d7 j hj).trans (k5 j hj)⟩
        cases cb : bt x2 i
        · have cb3 : bt x3 i = true := by rw [hx i (by omega), cb]; rfl
          have ev := s2 cb3
          have eC := clear_eq qP (by omega) (show i < N by omega) (hc i (by omega)) hf
          rw [← ev] at eC
          rw [if_neg (by decide), eC, obind]
          dsimp only
          by_cases cv : v = -9
          · rw [if_pos cv, if_pos cv, nI_1 i]
            exact after S M1 (KO.rf S) s1.wo hB1 (fun _ _ => rfl) (fun j hj => s1.1 16 0 j (by omega))
          · rw [if_neg cv, if_neg cv, nI_1 i, nI_1 k]
            have vy : ∃ y', f ≤ y' ∧ y' ≤ 20 ∧ v = nI y' := by
              rw [ev]
              rcases fc_in (fun d m => iso Q n n d m) (c i) (21 - f) f (by omega) with z | z
              · exact absurd (ev.trans z) cv
              · exact z
            obtain ⟨y, y1, y2, rfl⟩ := vy
            have hO2 := hO1.wo (WO.p16 M1 k (nI i))
            have wo2 := s1.wo.tr (WO.p16 M1 k (nI i))
            by_cases cl : nI y < S.1 46 0 0
            · -- better than the best
              have e42 : (put S 44 0 k (nI i)).1 42 0 0 = nI N := by rw [put_at, if_neg (by omega)]; exact qP.1
              have e42' : (put (put S 44 0 k (nI i)) 46 0 0 (nI y)).1 42 0 0 = nI N := by rw [put_at, if_neg (by omega)]; exact e42
              rw [if_pos cl, ixb_nI (show k < 8 by omega) (by omega), grd_t, cl_nI (show k < 2 ^ 31 by omega), e42, e42', nI_ifle (by omega) (by omega)]
              have hb4 : ¬ (put M1 16 0 k (nI i)).1 0 24 0 ≤ nI y := by
                rw [put_at, if_neg (by omega)]
                rcases hB1 with ⟨z1, z2⟩ | ⟨y0, z1, z2, z3, -⟩
                · rw [z2]; exact nI_ge (by omega) (by omega)
                · rw [z3]
                  rw [z2] at cl
                  exact nI_ge ((nI_ltI (by omega) (by omega)).mp cl) (by omega)
              have hp2 : ∀ j, j < k + 1 → (put S 44 0 k (nI i)).1 44 0 j = (put M1 16 0 k (nI i)).1 16 0 j := by
                intro j hj
                rw [put_at, put_at]
                by_cases cj : j = k
                · rw [if_pos ⟨rfl, rfl, cj⟩, if_pos ⟨rfl, rfl, cj⟩]
                · rw [if_neg (fun q => cj q.2.2), if_neg (fun q => cj q.2.2)]
                  exact hp1 j (by omega)
              by_cases ck : N ≤ k + 1
              · -- the last one
                have ek : k + 1 = N := by omega
                rw [if_pos ck]
                have ecp : cpb (0 : Int32) (0 : Int32) (nI N) 8 8 = true := by
                  unfold cpb
                  rw [cl_nI (by omega)]
                  exact decide_eq_true ⟨by decide, by decide, nI_pos (by omega), by show 0 + N ≤ 8; omega, by show 0 + N ≤ 8; omega⟩
                rw [ecp, grd_t, cl_nI (show N < 2 ^ 31 by omega), sb_cl0]
                obtain ⟨M3, g1, g2, g3, g4⟩ := copy28 hN (f_X8_orderOn (dp' - 1)) N 0 300 (put (put M1 16 0 k (nI i)) 0 24 0 (nI y)) (by omega) (by omega)
                have eO : f_X8_orderOn dp' (nI r) (nI (k + 1)) (x3 &&& (((1 : Int32) <<< (nI i &&& 31)) ^^^ (-1 : Int32))) (nI y) (put M1 16 0 k (nI i)) = some M3 := by
                  obtain ⟨dq, rfl⟩ : ∃ dq, dp' = dq + 1 := ⟨dp' - 1, by omega⟩
                  show fo_X8_orderOn (f_X8_orderOn dq) (nI r) (nI (k + 1)) _ (nI y) (put M1 16 0 k (nI i)) = _
                  unfold fo_X8_orderOn
                  rw [ixb_nI hr (by omega), grd_t, cl_nI (by omega), hO2.2.2.1, ek, if_pos rfl, if_neg hb4]
                  exact g1
                rw [eO, obind]
                have hS3 : KO S (putA (put (put S 44 0 k (nI i)) 46 0 0 (nI y)) 45 0 (va_cpy ((put (put S 44 0 k (nI i)) 46 0 0 (nI y)).1 44 0) ((put (put S 44 0 k (nI i)) 46 0 0 (nI y)).1 45 0) 0 0 N)) := (KO.p44 S _ _).tr ((KO.p46 _ _).tr (KO.p45 _ _))
                have hM3 : WO M M3 := wo2.tr ((WO.p24 _ _).tr ⟨fun F a j z1 z2 z3 => g2 F a j (by omega), g3⟩)
                refine after _ M3 hS3 hM3 (Or.inr ⟨y, y2, ?_, ?_, fun j hj => ?_⟩) (fun j hj => ?_) (fun j hj => ?_)
                · rw [putA_at, if_neg (by omega), put_at, if_pos ⟨rfl, rfl, rfl⟩]
                · rw [g2 0 24 0 (by omega), put_at, if_pos ⟨rfl, rfl, rfl⟩]
                · rw [putA_at, if_pos ⟨rfl, rfl⟩, pk_cpy_in (by omega) (by omega), g4 j (by omega) hj, put_at, if_neg (by omega), put_at (put M1 16 0 k (nI i)), if_neg (by omega)]
                  have := hp2 j (by omega)
                  rw [show 0 + (j - 0) = j by omega]
                  exact this
                · rw [putA_at, if_neg (by omega), put_at, if_neg (by omega), put_at, if_neg (by omega)]
                · rw [g2 16 0 j (by omega), put_at, if_neg (by omega), put_at, if_neg (by omega), s1.1 16 0 j (by omega)]
              · -- on
                first
                | omega
                | rw [if_neg ck, nI_1 y]
                  have hB2 : BR (put S 44 0 k (nI i)) (put M1 16 0 k (nI i)) N := by
                    unfold BR at *
                    rw [put_at, if_neg (by omega), put_at, if_neg (by omega)]
                    rcases hB1 with z | ⟨y, z1, z2, z3, z4⟩
                    · exact Or.inl z
                    · exact Or.inr ⟨y, z1, z2, z3, fun j hj => by rw [put_at, if_neg (by omega), put_at, if_neg (by omega)]; exact z4 j hj⟩
                  obtain ⟨S3, M3, d1, d2, d3, d4, d5, d6, d7⟩ := ih (k + 1) dp dp' (put S 44 0 k (nI i)) (put M1 16 0 k (nI i)) (x2 ||| ((1 : Int32) <<< (nI i &&& 31))) (x3 &&& (((1 : Int32) <<< (nI i &&& 31)) ^^^ (-1 : Int32))) (nI y) (y + 1) (by omega) (by omega) (by omega) ((KO.p44 S _ _).pl qP) hO2 hB2 hp2 (fun j hj => by
                    rw [b_and, b_not _ (show j < 32 by omega), b_pow (by omega) (by omega), b_or, b_pow (by omega) (by omega), hx j hj]
                    cases bt x2 j <;> cases decide (j = i) <;> rfl) (nI_1 y) (by omega)
                  rw [d1, obind, d2, obind]
                  refine after S3 M3 ((KO.p44 S _ _).tr d3) (wo2.tr d4) d5 (fun j hj => ?_) (fun j hj => ?_)
                  · rw [d6 j (by omega), put_at, if_neg (by omega)]
                  · rw [d7 j (by omega), put_at, if_neg (by omega), s1.1 16 0 j (by omega)]
            · -- no better
              rw [if_neg cl]
              have hle : (put M1 16 0 k (nI i)).1 0 24 0 ≤ nI y := by
                rw [put_at, if_neg (by omega)]
                rcases hB1 with ⟨z1, z2⟩ | ⟨y0, z1, z2, z3, -⟩
                · rw [z1] at cl
                  exact absurd (nI_lt (show y < 99 by omega) (by omega)) cl
                · rw [z3]
                  rw [z2] at cl
                  exact nI_le (by
                    rcases Nat.lt_or_ge y y0 with q | q
                    · exact absurd (nI_lt q (by omega)) cl
                    · exact q) (by omega)
              obtain ⟨M3, d1, d2, d3, d4, d5⟩ := onu hV hr hN hc (N - (k + 1)) (k + 1) dp' (put M1 16 0 k (nI i)) (x3 &&& (((1 : Int32) <<< (nI i &&& 31)) ^^^ (-1 : Int32))) y (by omega) (by omega) hO2 y2 hle
              rw [d1, obind]
              refine after S M3 (KO.rf S) (wo2.tr d2) ?_ (fun _ _ => rfl) (fun j hj => ?_)
              · unfold BR at *
                rw [d3, put_at, if_neg (by omega)]
                rcases hB1 with z | ⟨y0, z1, z2, z3, z4⟩
                · exact Or.inl z
                · exact Or.inr ⟨y0, z1, z2, z3, fun j hj => by rw [d4 j, put_at, if_neg (by omega)]; exact z4 j hj⟩
              · rw [d5 j (by omega), put_at, if_neg (by omega), s1.1 16 0 j (by omega)]
        · have cb3 : bt x3 i = false := by rw [hx i (by omega), cb]; rfl
          rw [if_pos rfl, if_pos (s3 cb3), nI_1 i]
          exact after S M1 (KO.rf S) s1.wo hB1 (fun _ _ => rfl) (fun j hj => s1.1 16 0 j (by omega))
    obtain ⟨S', M', d1, d2, d3, d4, d5, d6, d7⟩ := lp N 0 300 S M (by omega) (by omega) hP hO hB hp
    refine ⟨S', M', d1, ?_, d3, d4, d5, d6, d7⟩
    show fo_X8_orderOn (f_X8_orderOn dp') (nI r) (nI k) x3 x4 M = _
    unfold fo_X8_orderOn
    rw [ixb_nI hr (by omega), grd_t, cl_nI (by omega), hO.2.2.1, nI_if (by omega) (by omega), if_neg (by omega)]
    exact d2
end
theorem tellPlaces_loop {t N : Nat} (ht : t < 6) (hN : N ≤ 8) : ∀ (k i fuel : Nat) (S : Stt), i + k = N → k < fuel → S.1 42 0 0 = nI N → ∃ S', fl_X4_tellPlaces_12 (fun S => some S) fuel 0 (nI t) (nI i) S = some S' ∧ (∀ F a j, ¬ (F = 20 ∧ a = t ∧ i ≤ j) → S'.1 F a j = S.1 F a j) ∧ S'.2 = S.2 ∧ ∀ j, i ≤ j → j < N → S'.1 20 t j = S.1 45 0 j := by
  intro k
  induction k with
  | zero =>
    intro i fuel S h1 h2 hc
    obtain ⟨g, rfl⟩ : ∃ g, fuel = g + 1 := ⟨fuel - 1, by omega⟩
    refine ⟨S, ?_, fun _ _ _ _ => rfl, rfl, fun j q1 q2 => absurd q2 (by omega)⟩
    rw [fls_X4_tellPlaces_12]
    unfold fb_X4_tellPlaces_12
    rw [hc, if_pos (nI_le (by omega) (by omega))]
  | succ k ih =>
    intro i fuel S h1 h2 hc
    obtain ⟨g, rfl⟩ : ∃ g, fuel = g + 1 := ⟨fuel - 1, by omega⟩
    obtain ⟨S', b1, b2, b3, b4⟩ := ih (i + 1) g (put S 20 t i (S.1 45 0 i)) (by omega) (by omega) (by rw [put_at, if_neg (by omega)]; exact hc)
    refine ⟨S', ?_, fun F a j q => ?_, b3.trans rfl, fun j q1 q2 => ?_⟩
    · rw [fls_X4_tellPlaces_12]
      unfold fb_X4_tellPlaces_12
      rw [hc, if_neg (nI_ge (by omega) (by omega)), ixb_nI (show i < 8 by omega) (by omega), grd_t, cl_nI (by omega), write_eq (z := 0) ht (show i < 40 by omega), obind, nI_1]
      exact b1
    · rw [b2 F a j (by omega), put_at, if_neg (by omega)]
    · by_cases c : j = i
      · subst c
        rw [b2 20 t j (by omega), put_at, if_pos ⟨rfl, rfl, rfl⟩]
      · rw [b4 j (by omega) q2, put_at, if_neg (by omega)]
theorem tellPlaces_eq {S : Stt} {t N : Nat} (ht : t < 6) (hN : N ≤ 8) (hc : S.1 42 0 0 = nI N) : ∃ S', f_X4_tellPlaces 0 (nI t) S = some S' ∧ (∀ F a j, ¬ (F = 20 ∧ a = t) → ¬ (F = 19 ∧ a = 0 ∧ j = t) → S'.1 F a j = S.1 F a j) ∧ S'.2 = S.2 ∧ S'.1 19 0 t = nI N ∧ ∀ j, j < N → S'.1 20 t j = S.1 45 0 j := by
  obtain ⟨S1, a1, a2, a3, a4, a5⟩ := make_eq (z := 0) (r := t) (n := N) ht (show N ≤ 40 by omega) 0 S
  obtain ⟨S2, b1, b2, b3, b4⟩ := tellPlaces_loop ht hN N 0 300 S1 (by omega) (by omega) (by rw [a2 42 0 0 (by omega) (by omega)]; exact hc)
  refine ⟨S2, ?_, fun F a j q1 q2 => ?_, b3.trans a5, ?_, fun j hj => ?_⟩
  · unfold f_X4_tellPlaces
    rw [hc, a1, obind]
    exact b1
  · rw [b2 F a j (by omega), a2 F a j q1 q2]
  · rw [b2 19 0 t (by omega)]; exact a3
  · rw [b4 j (by omega) hj, a2 45 0 j (by omega) (by omega)]
theorem sim_order (x1 x2 : Int32) : SimI (f_X7_order x1 x2) (f_X8_order x1 x2) := by
  intro S M h
  obtain ⟨n, Q, hV, hB, hR, hM, hDP, hL, hr0⟩ := h.bk
  unfold f_X7_order f_X8_order
  rw [n9 5]
  rcases deeds_ref h x1 x2 (mo := 5) (by omega) with ⟨v, S', M', v0, v1, a1, a2, a3⟩ | ⟨r, t, N, c, hr, ht, hN, rfl, rfl, y2, y3, hcv, a1, a2⟩
  · refine ⟨v, S', M', by rw [a1, obind, if_neg v1], ?_, a3⟩
    rw [a2 (fj_X8_order_17 x1 x2)]
    unfold fj_X8_order_17
    rw [if_neg (nI_n0 v0)]
  rw [a1, obind, if_pos rfl, a2 (fj_X8_order_17 (nI r) (nI t))]
  unfold fj_X8_order_17
  rw [if_pos p00, ixb_nI hr (by omega), grd_t, cl_nI (by omega), put_at, if_neg (by omega), y3]
  dsimp only
  obtain ⟨S1, b1, b2, b3⟩ := take_eq (c := c) hV hB hR hDP.dd hr (by omega) y2 (fun j hj => (hcv j hj).1)
  rw [b1, obind]
  unfold f_X4_planSoonest fj_X4_planSoonest_15
  have e42 : (put S1 46 0 0 (-9)).1 42 0 0 = nI N := by rw [put_at, if_neg (by omega)]; exact b3.1
  have e42' : (put S1 46 0 0 99).1 42 0 0 = nI N := by rw [put_at, if_neg (by omega)]; exact b3.1
  rw [b3.1, e42, e42']
  by_cases c0 : N = 0
  · subst c0
    have eO : f_X8_orderOn 10 (nI r) 0 (((1 : Int32) <<< (nI 0 &&& 31)) - 1) (-1) (put M 0 24 0 1048576) = some (put (put M 0 24 0 1048576) 0 24 0 (-1)) := by
      show fo_X8_orderOn (f_X8_orderOn 9) (nI r) (nI 0) _ (-1) (put M 0 24 0 1048576) = _
      unfold fo_X8_orderOn
      have u1 : (put M 0 24 0 1048576).1 2 0 r = nI 0 := by rw [put_at, if_neg (by omega)]; exact y3
      have u2 : (put M 0 24 0 1048576).1 0 24 0 = 1048576 := by rw [put_at, if_pos ⟨rfl, rfl, rfl⟩]
      rw [ixb_nI hr (by omega), grd_t, cl_nI (by omega), u1, if_pos rfl, u2, if_neg (by decide), show (300 : Nat) = 299 + 1 from rfl, fls_X8_orderOn_28]
      unfold fb_X8_orderOn_28
      rw [if_pos (by decide)]
    rw [if_pos (show nI 0 = 0 from rfl), if_pos (show nI 0 ≤ 0 by decide), eO, obind]
    unfold fj_X4_planSoonest_32
    have u3 : (put S1 46 0 0 (-9)).1 46 0 0 = -9 := by rw [put_at, if_pos ⟨rfl, rfl, rfl⟩]
    have u4 : (put (put M 0 24 0 1048576) 0 24 0 (-1)).1 0 24 0 = -1 := by rw [put_at, if_pos ⟨rfl, rfl, rfl⟩]
    have u5 : (put (put M 0 24 0 1048576) 0 24 0 (-1)).1 2 0 r = nI 0 := by rw [put_at, if_neg (by omega), put_at, if_neg (by omega)]; exact y3
    rw [u3, if_neg (by decide), obind, if_neg n10]
    have fS : KP S (put S1 46 0 0 (-9)) := b2.tr (KP.put1 S1 (by omega) _ _ _)
    have fM : WO M (put (put M 0 24 0 1048576) 0 24 0 (-1)) := (WO.p24 M _).tr (WO.p24 _ _)
    obtain ⟨S3, e1, e2, e3, e4, e5⟩ := tellPlaces_eq (S := put S1 46 0 0 (-9)) (N := 0) ht (by omega) (by rw [put_at, if_neg (by omega)]; exact b3.1)
    obtain ⟨M3, g1, g2, g3, g4, g5⟩ := layTold_eq (M := put (put M 0 24 0 1048576) 0 24 0 (-1)) (N := 0) ht (by omega)
    refine ⟨-9, S3, M3, ?_, ?_, (h.same fS.same fM.same).row ht e2 (fun F a j q1 q2 q3 => g2 F a j q1 q2) e3 g3 (Or.inr ⟨0, by omega, e4, g4, fun j hj => absurd hj (by omega)⟩)⟩
    · dsimp only
      rw [e1, obind, e2 46 0 0 (by omega) (by omega), u3]
    · rw [u4, if_neg (by decide), u5, g1, obind, g2 0 24 0 (by omega) (by omega), u4, if_neg (by decide)]
      rfl
  rw [if_neg (nI_ne0 (by omega) (by omega)), if_neg (nI_nle (by omega) (by omega))]
  have fS : KO S1 (put S1 46 0 0 99) := KO.p46 S1 _
  have fM : WO M (put M 0 24 0 1048576) := WO.p24 M _
  obtain ⟨S2, M2, d1, d2, d3, d4, d5, -, -⟩ := joint hV hr hN (fun j hj => (hcv j hj).2.2) (N - 1) 0 10 10 (put S1 46 0 0 99) (put M 0 24 0 1048576) 0 (((1 : Int32) <<< (nI N &&& 31)) - 1) (-1) 0 (by omega) (by omega) (by omega) (fS.pl b3) (OM.wo ⟨hM, hL, y3, fun j hj => (hcv j hj).2.1⟩ fM) (Or.inl ⟨by rw [put_at, if_pos ⟨rfl, rfl, rfl⟩]; rfl, by rw [put_at, if_pos ⟨rfl, rfl, rfl⟩]; rfl⟩) (fun j hj => absurd hj (by omega)) (fun i hi => by rw [full_bits N (by omega) i (by omega), decide_eq_true hi, b_0]; rfl) (by decide) (by omega)
  rw [show f_X4_tryFrom 10 0 0 0 (put S1 46 0 0 99) = some S2 from d1, obind, show f_X8_orderOn 10 (nI r) 0 (((1 : Int32) <<< (nI N &&& 31)) - 1) (-1) (put M 0 24 0 1048576) = some M2 from d2, obind]
  unfold fj_X4_planSoonest_32
  have hRel := h.same (b2.tr (fS.tr d3).kp).same (fM.tr d4).same
  rcases d5 with ⟨z1, z2⟩ | ⟨y, z1, z2, z3, z4⟩
  · exact ⟨-6, S2, M2, by rw [z1, if_pos (show nI 99 = 99 from rfl), obind, if_pos rfl], by rw [z2, if_pos (show nI 1048576 = 1048576 from rfl)], hRel⟩
  · have hP2 := (fS.tr d3).pl b3
    obtain ⟨S3, e1, e2, e3, e4, e5⟩ := tellPlaces_eq ht (show N ≤ 8 by omega) hP2.1
    obtain ⟨M3, g1, g2, g3, g4, g5⟩ := layTold_eq (M := M2) ht (show N ≤ 8 by omega)
    refine ⟨nI y, S3, M3, ?_, ?_, hRel.row ht e2 (fun F a j q1 q2 q3 => g2 F a j q1 q2) e3 g3 (Or.inr ⟨N, by omega, e4, g4, fun j hj => by rw [e5 j hj, g5 j hj, z4 j hj]⟩)⟩
    · rw [z2, n9 99, nI_if (by omega) (by omega), if_neg (by omega), obind, if_neg n10]
      dsimp only
      rw [e1, obind, e2 46 0 0 (by omega) (by omega), z2]
    · rw [z3, n9 1048576, nI_if (by omega) (by omega), if_neg (by omega), d4.1 2 0 r (by omega) (by omega) (by omega), put_at, if_neg (by omega), y3, g1, obind, g2 0 24 0 (by omega) (by omega), z3, if_pos (nI_pos' (by omega))]
      rfl
