/-! a page of the text -/
def KTx (S S' : Stt) : Prop := (∀ F a i, ¬ ((F = 25 ∨ F = 26) ∧ a = 0 ∧ i = 0) → ¬ (10 ≤ F ∧ F ≤ 18 ∧ a = 1) → S'.1 F a i = S.1 F a i) ∧ S'.2 = S.2
def KM (M M' : Stt) : Prop := (∀ F a i, ¬ F = 13 → ¬ (F = 0 ∧ (a = 17 ∨ a = 18)) → M'.1 F a i = M.1 F a i) ∧ M'.2 = M.2
theorem KTx.rf (S : Stt) : KTx S S := ⟨fun _ _ _ _ _ => rfl, rfl⟩
theorem KTx.tr {S S' S2 : Stt} (h : KTx S S') (h2 : KTx S' S2) : KTx S S2 := ⟨fun F a i q q2 => (h2.1 F a i q q2).trans (h.1 F a i q q2), h2.2.trans h.2⟩
theorem KM.rf (S : Stt) : KM S S := ⟨fun _ _ _ _ _ => rfl, rfl⟩
theorem KM.tr {S S' S2 : Stt} (h : KM S S') (h2 : KM S' S2) : KM S S2 := ⟨fun F a i q q2 => (h2.1 F a i q q2).trans (h.1 F a i q q2), h2.2.trans h.2⟩
theorem K5.ktx {S S' : Stt} (h : K5 S S') : KTx S S' := ⟨fun F a i q _ => h.1 F a i q, h.2⟩
theorem KB.ktx {S S' : Stt} (h : KB 1 S S') : KTx S S' := ⟨fun F a i _ q => h.1 F a i q, h.2⟩
theorem K17.km {M M' : Stt} (h : K17 M M') : KM M M' := ⟨fun F a i _ q => h.1 F a i (by omega), h.2⟩
/-- the book that is written, beside the reference's pages -/
def In (S M : Stt) (c : Nat) (Q : Nat → Nat → Nat) : Prop := BkV c Q ∧ BC S 1 c Q ∧ RkC S 1 c Q ∧ M.1 0 18 0 = nI c ∧ ∀ i, i < c → M.1 13 0 (5 * i) = nI (Q 0 i) ∧ M.1 13 0 (5 * i + 1) = nI (Q 2 i) ∧ M.1 13 0 (5 * i + 2) = nI (Q 3 i) ∧ M.1 13 0 (5 * i + 3) = S.1 11 1 i ∧ M.1 13 0 (5 * i + 4) = S.1 14 1 i
theorem In.keep {S S' M M' : Stt} {c : Nat} {Q : Nat → Nat → Nat} (h : In S M c Q) (h1 : K5 S S') (h2 : K17 M M') : In S' M' c Q := by
  obtain ⟨a, b, d, e, f⟩ := h
  refine ⟨a, b.frame (fun F i q1 q2 => h1.1 F 1 i (by omega)), d.frame (fun F i q1 q2 => h1.1 F 1 i (by omega)), by rw [h2.1 _ _ _ (by omega)]; exact e, fun i hi => ?_⟩
  rw [h2.1 13 0 (5 * i) (by omega), h2.1 13 0 (5 * i + 1) (by omega), h2.1 13 0 (5 * i + 2) (by omega), h2.1 13 0 (5 * i + 3) (by omega), h2.1 13 0 (5 * i + 4) (by omega), h1.1 11 1 i (by omega), h1.1 14 1 i (by omega)]
  exact f i hi
theorem app {S : Stt} {c : Nat} {Q : Nat → Nat → Nat} (hV : BkV c Q) (hB : BC S 1 c Q) (hc : c < 6) {k a v w f : Nat} {x2 x5 : Int32} (h0 : k ≤ 5) (h1 : (k = 2 ∨ k = 5) → a ≤ 5 ∧ x2 = nI a) (h2 : v ≤ 1) (h3 : w < 128) (h4 : k = 3 → f ≤ 4 ∧ (w = 32 ∨ w = 64) ∧ x5 = nI f) : ∃ S', f_X0_append 1 (nI k) x2 (nI v) (nI w) x5 S = some S' ∧ KB 1 S S' ∧ BkV (c + 1) (addQ Q c k a v w f c) ∧ BC S' 1 (c + 1) (addQ Q c k a v w f c) ∧ RkC S' 1 (c + 1) (addQ Q c k a v w f c) ∧ S'.1 11 1 c = x2 ∧ S'.1 14 1 c = x5 ∧ ∀ F i, 10 ≤ F → F ≤ 16 → i < c → S'.1 F 1 i = S.1 F 1 i := by
  have hV2 : BkV (c + 1) (addQ Q c k a v w f c) := hV.addQ hc h0 (fun q => (h1 q).1) h2 h3 (fun q => ⟨(h4 q).1, (h4 q).2.1⟩) (by omega)
  obtain ⟨S', e1, e2, e3, e4, e5, e6, e7⟩ := append_eq (x1 := nI k) (x2 := x2) (x3 := nI v) (x5 := x5) hB (fun k i hi => addQ_lo hi) hV2 (by rw [addQ_n]; rfl) (by rw [addQ_n, addQ_n]; intro q; exact (h1 q).2) (by rw [addQ_n]; rfl) (by rw [addQ_n, addQ_n]; intro q; exact (h4 q).2.2) (by rw [addQ_n]; rfl)
  rw [addQ_n] at e1
  exact ⟨S', e1, e2, hV2, e3, e4, e5, e6, e7⟩
theorem x5a (c : Nat) (k : Nat) : nI (5 * c) + nI k = nI (5 * c + k) := nI_add _ _
theorem tail232 {M : Stt} {c : Nat} (hc : c < 6) (h : M.1 0 18 0 = nI c) (x : Int32) : fj_X8_readsPage_232 (nI (5 * c + 4)) x M = some (1, put (put M 13 0 (5 * c + 4) x) 0 18 0 (nI (c + 1))) := by
  unfold fj_X8_readsPage_232
  rw [ixb_nI (by omega) (by omega), grd_t, cl_nI (by omega)]
  have e : (put M 13 0 (5 * c + 4) x).1 0 18 0 = nI c := by rw [put_at, if_neg (by omega)]; exact h
  rw [e, nI_1]
theorem tail212 {M : Stt} {c k : Nat} (hc : c < 6) (hk : k ≤ 5) (h : M.1 0 18 0 = nI c) (x6 y : Int32) : fj_X8_readsPage_212 (nI k) (nI (5 * c)) x6 (nI (5 * c + 3)) y M = some (1, put (put (put M 13 0 (5 * c + 3) y) 13 0 (5 * c + 4) (if k = 3 then x6 else -9)) 0 18 0 (nI (c + 1))) := by
  have e : (put M 13 0 (5 * c + 3) y).1 0 18 0 = nI c := by rw [put_at, if_neg (by omega)]; exact h
  unfold fj_X8_readsPage_212
  rw [ixb_nI (by omega) (by omega), grd_t, cl_nI (by omega), show (3 : Int32) = nI 3 from rfl, nI_if (by omega) (by omega), show (4 : Int32) = nI 4 from rfl, x5a]
  by_cases ck : k = 3
  · rw [if_pos ck, if_pos ck, tail232 hc e]
  · rw [if_neg ck, if_neg ck, tail232 hc e]
theorem tail190 {M : Stt} {c k : Nat} (hc : c < 6) (hk : k ≤ 5) (h : M.1 0 18 0 = nI c) (x4 x6 y : Int32) : fj_X8_readsPage_190 (nI k) (nI (5 * c)) x4 x6 (nI (5 * c + 2)) y M = some (1, put (put (put (put M 13 0 (5 * c + 2) y) 13 0 (5 * c + 3) (if k = 2 ∨ k = 5 then x4 else -9)) 13 0 (5 * c + 4) (if k = 3 then x6 else -9)) 0 18 0 (nI (c + 1))) := by
  have e : (put M 13 0 (5 * c + 2) y).1 0 18 0 = nI c := by rw [put_at, if_neg (by omega)]; exact h
  unfold fj_X8_readsPage_190
  rw [ixb_nI (by omega) (by omega), grd_t, cl_nI (by omega), doesPoint_eq (by omega), obind]
  dsimp only
  rw [if_b2i, show (3 : Int32) = nI 3 from rfl, x5a]
  by_cases ck : k = 2 ∨ k = 5
  · rw [if_pos (decide_eq_true ck), if_pos ck, tail212 hc hk e]
  · rw [if_neg (fun q => ck (of_decide_eq_true q)), if_neg ck, tail212 hc hk e]
theorem tail168 {M : Stt} {c k : Nat} (hc : c < 6) (hk : k ≤ 5) (h : M.1 0 18 0 = nI c) (x4 x5 x6 y : Int32) : fj_X8_readsPage_168 (nI k) (nI (5 * c)) x4 x5 x6 (nI (5 * c + 1)) y M = some (1, put (put (put (put (put M 13 0 (5 * c + 1) y) 13 0 (5 * c + 2) (if k = 3 then (1 : Int32) <<< (x5 &&& 31) else x6)) 13 0 (5 * c + 3) (if k = 2 ∨ k = 5 then x4 else -9)) 13 0 (5 * c + 4) (if k = 3 then x6 else -9)) 0 18 0 (nI (c + 1))) := by
  have e : (put M 13 0 (5 * c + 1) y).1 0 18 0 = nI c := by rw [put_at, if_neg (by omega)]; exact h
  unfold fj_X8_readsPage_168
  rw [ixb_nI (by omega) (by omega), grd_t, cl_nI (by omega), show (3 : Int32) = nI 3 from rfl, nI_if (by omega) (by omega), show (2 : Int32) = nI 2 from rfl, x5a]
  by_cases ck : k = 3
  · rw [if_pos ck, if_pos ck, tail190 hc hk e]
  · rw [if_neg ck, if_neg ck, tail190 hc hk e]
theorem tail132 {M : Stt} {c k : Nat} (hc : c < 6) (hk : k ≤ 5) (h : M.1 0 18 0 = nI c) (x4 x5 : Int32) {x6 : Int32} (h6 : ¬ x6 = -9) : ∃ M', fj_X8_readsPage_132 (nI k) (nI (5 * c)) x4 x5 x6 M = some (1, M') ∧ M'.1 0 18 0 = nI (c + 1) ∧ M'.1 13 0 (5 * c) = nI k ∧ M'.1 13 0 (5 * c + 1) = (if k = 3 then 0 else x5) ∧ M'.1 13 0 (5 * c + 2) = (if k = 3 then (1 : Int32) <<< (x5 &&& 31) else x6) ∧ M'.1 13 0 (5 * c + 3) = (if k = 2 ∨ k = 5 then x4 else -9) ∧ M'.1 13 0 (5 * c + 4) = (if k = 3 then x6 else -9) ∧ (∀ F a i, ¬ (F = 13 ∧ 5 * c ≤ i) → ¬ (F = 0 ∧ a = 18) → M'.1 F a i = M.1 F a i) ∧ M'.2 = M.2 := by
  have e : (put M 13 0 (5 * c) (nI k)).1 0 18 0 = nI c := by rw [put_at, if_neg (by omega)]; exact h
  have e0 : fj_X8_readsPage_132 (nI k) (nI (5 * c)) x4 x5 x6 M = fj_X8_readsPage_168 (nI k) (nI (5 * c)) x4 x5 x6 (nI (5 * c + 1)) (if k = 3 then 0 else x5) (put M 13 0 (5 * c) (nI k)) := by
    unfold fj_X8_readsPage_132
    rw [if_neg h6, ixb_nI (by omega) (by omega), grd_t, cl_nI (by omega), show (3 : Int32) = nI 3 from rfl, nI_if (by omega) (by omega), nI_1]
    by_cases ck : k = 3
    · rw [if_pos ck, if_pos ck]
    · rw [if_neg ck, if_neg ck]
  rw [e0, tail168 hc hk e]
  obtain ⟨y1, hy1⟩ : ∃ y, (if k = 3 then 0 else x5) = y := ⟨_, rfl⟩
  obtain ⟨y2, hy2⟩ : ∃ y, (if k = 3 then (1 : Int32) <<< (x5 &&& 31) else x6) = y := ⟨_, rfl⟩
  obtain ⟨y3, hy3⟩ : ∃ y, (if k = 2 ∨ k = 5 then x4 else -9) = y := ⟨_, rfl⟩
  obtain ⟨y4, hy4⟩ : ∃ y, (if k = 3 then x6 else -9) = y := ⟨_, rfl⟩
  rw [hy1, hy2, hy3, hy4]
  refine ⟨_, rfl, ?_, ?_, ?_, ?_, ?_, ?_, fun F a i q1 q2 => ?_, rfl⟩
  · rw [put_at, if_pos ⟨rfl, rfl, rfl⟩]
  · rw [put_at, if_neg (by omega), put_at, if_neg (by omega), put_at, if_neg (by omega), put_at, if_neg (by omega), put_at, if_neg (by omega), put_at, if_pos ⟨rfl, rfl, rfl⟩]
  · rw [put_at, if_neg (by omega), put_at, if_neg (by omega), put_at, if_neg (by omega), put_at, if_neg (by omega), put_at, if_pos ⟨rfl, rfl, rfl⟩]
  · rw [put_at, if_neg (by omega), put_at, if_neg (by omega), put_at, if_neg (by omega), put_at, if_pos ⟨rfl, rfl, rfl⟩]
  · rw [put_at, if_neg (by omega), put_at, if_neg (by omega), put_at, if_pos ⟨rfl, rfl, rfl⟩]
  · rw [put_at, if_neg (by omega), put_at, if_pos ⟨rfl, rfl, rfl⟩]
  · rw [put_at, if_neg (by omega), put_at, if_neg (by omega), put_at, if_neg (by omega), put_at, if_neg (by omega), put_at, if_neg (by omega), put_at, if_neg (by omega)]
/-- a page is written on both sides -/
theorem In.page {S S' M M' : Stt} {c : Nat} {Q Q' : Nat → Nat → Nat} (h : In S M c Q) (hQ : ∀ k i, i < c → Q' k i = Q k i) (hV : BkV (c + 1) Q') (hB : BC S' 1 (c + 1) Q') (hR : RkC S' 1 (c + 1) Q') (hs : ∀ F i, 10 ≤ F → F ≤ 16 → i < c → S'.1 F 1 i = S.1 F 1 i) (m0 : M'.1 0 18 0 = nI (c + 1)) (m1 : M'.1 13 0 (5 * c) = nI (Q' 0 c)) (m2 : M'.1 13 0 (5 * c + 1) = nI (Q' 2 c)) (m3 : M'.1 13 0 (5 * c + 2) = nI (Q' 3 c)) (m4 : M'.1 13 0 (5 * c + 3) = S'.1 11 1 c) (m5 : M'.1 13 0 (5 * c + 4) = S'.1 14 1 c) (hm : ∀ i, i < 5 * c → M'.1 13 0 i = M.1 13 0 i) : In S' M' (c + 1) Q' := by
  refine ⟨hV, hB, hR, m0, fun i hi => ?_⟩
  by_cases ci : i = c
  · subst ci
    exact ⟨m1, m2, m3, m4, m5⟩
  · have := h.2.2.2.2 i (by omega)
    rw [hm _ (by omega), hm _ (by omega), hm _ (by omega), hm _ (by omega), hm _ (by omega), hs 11 i (by omega) (by omega) (by omega), hs 14 i (by omega) (by omega) (by omega), hQ 0 i (by omega), hQ 2 i (by omega), hQ 3 i (by omega)]
    exact this
theorem Mg.keep {M M' : Stt} {r n p : Nat} {T : Nat → Int32} (h : Mg M r n T p) (hm : ∀ F a i, ¬ F = 13 → ¬ (F = 0 ∧ a = 18) → M'.1 F a i = M.1 F a i) : Mg M' r n T p := by
  obtain ⟨h1, h2, h3⟩ := h
  refine ⟨?_, ?_, fun i hi => ?_⟩
  · rw [hm _ _ _ (by omega) (by omega)]; exact h1
  · rw [hm _ _ _ (by omega) (by omega)]; exact h2
  · rw [hm _ _ _ (by omega) (by omega)]; exact h3 i hi
/-- what a page can come to, on both sides -/
def Out (S M : Stt) (r n : Nat) (T : Nat → Int32) (p c : Nat) (A : Option Stt) (B : Option (Int32 × Stt)) : Prop :=
  (∃ p' S' M' Q', A = some S' ∧ B = some (1, M') ∧ p ≤ p' ∧ Sg S' r n T p' ∧ Mg M' r n T p' ∧ In S' M' (c + 1) Q' ∧ KTx S S' ∧ KM M M') ∨ (∃ p' S' M', A = some S' ∧ B = some (0, M') ∧ St S' p' ∧ M'.1 0 17 0 = nI p' ∧ KTx S S' ∧ KM M M')
theorem Out.step {S M S1 M1 : Stt} {r n p p1 c : Nat} {T : Nat → Int32} {A : Option Stt} {B : Option (Int32 × Stt)} (h : Out S1 M1 r n T p1 c A B) (hp : p ≤ p1) (h1 : KTx S S1) (h2 : KM M M1) : Out S M r n T p c A B := by
  rcases h with ⟨p', S', M', Q', a, b, d, e, f, g, i, j⟩ | ⟨p', S', M', a, b, d, e, f, g⟩
  · exact Or.inl ⟨p', S', M', Q', a, b, Nat.le_trans hp d, e, f, g, h1.tr i, h2.tr j⟩
  · exact Or.inr ⟨p', S', M', a, b, d, e, h1.tr f, h2.tr g⟩
/-- stuck: a page is put all the same -/
theorem bad97 {S : Stt} {p c k a : Nat} {Q : Nat → Nat → Nat} {x2 : Int32} (h : St S p) (hV : BkV c Q) (hB : BC S 1 c Q) (hc : c < 6) (h0 : k ≤ 5) (hk : k ≠ 3) (h1 : (k = 2 ∨ k = 5) → a ≤ 5 ∧ x2 = nI a) : ∃ S', fj_X5_takeItem_97 1 (nI k) x2 S = some S' ∧ St S' p ∧ KTx S S' := by
  obtain ⟨S', e1, e2, _⟩ := app hV hB hc (k := k) (a := a) (v := 0) (w := 0) (f := 0) (x2 := x2) (x5 := -9) h0 h1 (by omega) (by omega) (fun q => absurd q hk)
  refine ⟨S', ?_, h.kb e2, e2.ktx⟩
  unfold fj_X5_takeItem_97
  rw [takeF_st h, obind, words_st h, obind]
  dsimp only
  rw [show (0 : Int32) = nI 0 from rfl, e1, obind]
theorem ok97 {S M : Stt} {r n p c k a : Nat} {T : Nat → Int32} {Q : Nat → Nat → Nat} {x2 x4 : Int32} (hS : Sg S r n T p) (hM : Mg M r n T p) (hB : ByT T n) (hI : In S M c Q) (hc : c < 6) (h0 : k ≤ 5) (hk : k ≠ 3) (h1 : (k = 2 ∨ k = 5) → a ≤ 5 ∧ x2 = nI a ∧ x4 = nI a) (h2 : ¬ (k = 2 ∨ k = 5) → x2 = -9) (h4 : ¬ x4 = -9) : Out S M r n T p c (fj_X5_takeItem_97 1 (nI k) x2 S) (fj_X8_readsPage_61 (nI r) (nI k) (nI (5 * c)) x4 M) := by
  have eR : fj_X8_readsPage_61 (nI r) (nI k) (nI (5 * c)) x4 M = ((f_X8_figure (nI r) (nI 0) (nI 1) M).bind fun q12 => fj_X8_readsPage_98 (nI r) (nI k) (nI (5 * c)) x4 q12.1 q12.2) := by
    unfold fj_X8_readsPage_61
    rw [if_neg h4, show (3 : Int32) = nI 3 from rfl, nI_if (by omega) (by omega), if_neg hk]
    rfl
  rw [eR]
  unfold fj_X5_takeItem_97
  rw [show (0 : Int32) = nI 0 from rfl, show (1 : Int32) = nI 1 from rfl]
  rcases fig_both (lo := 0) (hi := 1) hS hM hB (by omega) (by omega) with ⟨v, S1, M1, _, v2, v3, v4, v5, v6, v7, v8⟩ | ⟨S1, v3, v4, v5, v6⟩
  · have hI1 := hI.keep v7 v8
    rw [v3, v4, obind, obind]
    dsimp only
    have eR2 : fj_X8_readsPage_98 (nI r) (nI k) (nI (5 * c)) x4 (nI v) M1 = ((f_X8_readsWords (nI r) M1).bind fun q16 => fj_X8_readsPage_132 (nI k) (nI (5 * c)) x4 (nI v) q16.1 q16.2) := by
      unfold fj_X8_readsPage_98
      rw [if_neg (nI_ne_neg (by omega) neg9), show (3 : Int32) = nI 3 from rfl, nI_if (by omega) (by omega), if_neg hk]
    rw [eR2]
    rcases words_both v5 v6 hB with ⟨w, p', S2, M2, w1, w2, w3, w4, w5, w6, w7, w8⟩ | ⟨w, p', S2, M2, w1, w3, w4, w5, w6, w7, w8⟩
    · have hI2 := hI1.keep w7 w8
      obtain ⟨S', e1, e2, e3, e4, e5, e6, e7, e8⟩ := app hI2.1 hI2.2.1 hc (k := k) (a := a) (v := v) (w := w) (f := 0) (x2 := x2) (x5 := -9) h0 (fun q => ⟨(h1 q).1, (h1 q).2.1⟩) v2 w1 (fun q => absurd q hk)
      obtain ⟨M', m1, m2, m3, m4, m5, m6, m7, m8, m9⟩ := tail132 hc h0 hI2.2.2.2.1 x4 (nI v) (x6 := nI w) (nI_ne_neg (by omega) neg9)
      rw [w3, w4, obind, obind]
      dsimp only
      rw [m1, e1, obind]
      refine Or.inl ⟨p', S', M', _, rfl, rfl, by omega, w5.kb e2, w6.keep (fun F a i q1 q2 => m8 F a i (by omega) q2), hI2.page (Q' := addQ Q c k a v w 0 c) (fun k i hi => addQ_lo hi) e3 e4 e5 e8 m2 ?_ ?_ ?_ ?_ ?_ (fun i hi => m8 13 0 i (by omega) (by omega)), (v7.ktx.tr w7.ktx).tr e2.ktx, (v8.km.tr w8.km).tr ⟨fun F a i q1 q2 => m8 F a i (by omega) (by omega), m9⟩⟩
      · rw [m3, addQ_n]; rfl
      · rw [m4, if_neg hk, addQ_n]; rfl
      · rw [m5, if_neg hk, addQ_n]; rfl
      · rw [m6, e6]
        by_cases ck : k = 2 ∨ k = 5
        · rw [if_pos ck, (h1 ck).2.1, (h1 ck).2.2]
        · rw [if_neg ck, h2 ck]
      · rw [m7, if_neg hk, e7]
    · have hI2 := hI1.keep w7 w8
      obtain ⟨S', e1, e2, _⟩ := app hI2.1 hI2.2.1 hc (k := k) (a := a) (v := v) (w := w) (f := 0) (x2 := x2) (x5 := -9) h0 (fun q => ⟨(h1 q).1, (h1 q).2.1⟩) v2 w1 (fun q => absurd q hk)
      rw [w3, w4, obind, obind]
      dsimp only
      rw [e1, obind]
      refine Or.inr ⟨p', S', M2, rfl, ?_, w5.kb e2, w6, (v7.ktx.tr w7.ktx).tr e2.ktx, v8.km.tr w8.km⟩
      unfold fj_X8_readsPage_132
      rw [if_pos rfl]
  · obtain ⟨S', e1, e2, _⟩ := app hI.1 (hI.keep v6 (K17.rf M)).2.1 hc (k := k) (a := a) (v := 0) (w := 0) (f := 0) (x2 := x2) (x5 := -9) h0 (fun q => ⟨(h1 q).1, (h1 q).2.1⟩) (by omega) (by omega) (fun q => absurd q hk)
    rw [v3, v4, obind, obind]
    dsimp only
    rw [words_st v5, obind]
    dsimp only
    rw [show (0 : Int32) = nI 0 from rfl, e1, obind]
    refine Or.inr ⟨p, S', M, rfl, ?_, v5.kb e2, hM.2.1, v6.ktx.tr e2.ktx, KM.rf M⟩
    unfold fj_X8_readsPage_98 fj_X8_readsPage_132
    rw [if_pos rfl, if_pos rfl]
theorem shf5 : (1 : Int32) <<< (nI 5 &&& 31) = nI 32 := by decide
theorem shf6 : (1 : Int32) <<< (nI 6 &&& 31) = nI 64 := by decide
theorem item_both {S M : Stt} {r n p c : Nat} {T : Nat → Int32} {Q : Nat → Nat → Nat} (hS : Sg S r n T p) (hM : Mg M r n T p) (hB : ByT T n) (hI : In S M c Q) (hp : p < n) :
    (∃ p' S' M' Q', f_X5_takeItem 1 S = some S' ∧ f_X8_readsPage (nI r) M = some (1, M') ∧ p < p' ∧ Sg S' r n T p' ∧ Mg M' r n T p' ∧ In S' M' (c + 1) Q' ∧ KTx S S' ∧ KM M M') ∨ (∃ p' S' M', f_X5_takeItem 1 S = some S' ∧ f_X8_readsPage (nI r) M = some (0, M') ∧ St S' p' ∧ M'.1 0 17 0 = nI p' ∧ KTx S S' ∧ KM M M') := by
  have hr := hS.1
  have hn := hS.2.1
  have a7 := hS.2.2.2.2.2.2.1
  have c6 := hI.1.1
  have bad : f_X5_takeItem 1 S = some (put S 26 0 0 1) → f_X8_readsPage (nI r) M = some (0, M) → (∃ p' S' M' Q', f_X5_takeItem 1 S = some S' ∧ f_X8_readsPage (nI r) M = some (1, M') ∧ p < p' ∧ Sg S' r n T p' ∧ Mg M' r n T p' ∧ In S' M' (c + 1) Q' ∧ KTx S S' ∧ KM M M') ∨ (∃ p' S' M', f_X5_takeItem 1 S = some S' ∧ f_X8_readsPage (nI r) M = some (0, M') ∧ St S' p' ∧ M'.1 0 17 0 = nI p' ∧ KTx S S' ∧ KM M M') := fun q1 q2 => Or.inr ⟨p, _, _, q1, q2, hS.stop, hM.2.1, (K5.p26 S 1).ktx, KM.rf M⟩
  rcases kind3 (T p) S M with ⟨k, k1, k2, k3⟩ | ⟨k2, k3⟩
  · by_cases c1 : c = 6
    · apply bad
      · unfold f_X5_takeItem
        rw [sign_eq hS hp, obind]
        dsimp only
        rw [k2, obind]
        dsimp only
        rw [if_neg (nI_ne_neg (by omega) neg9), hI.2.1.1, show (6 : Int32) = nI 6 from rfl, c1, if_pos rfl]
      · unfold f_X8_readsPage
        rw [here_eq hr hn hM hp, obind]
        dsimp only
        rw [k3, obind]
        dsimp only
        rw [if_neg (nI_ne_neg (by omega) neg9), hI.2.2.2.1, show (6 : Int32) = nI 6 from rfl, c1, if_pos rfl]
    · have hS1 := hS.go hp
      have hM1 := hM.go
      have hI1 := hI.keep (K5.p25 S (nI (p + 1))) (K17.p17 M (nI (p + 1)))
      have kS1 := K5.p25 S (nI (p + 1))
      have kM1 := K17.p17 M (nI (p + 1))
      have eM : f_X8_readsPage (nI r) M = ((f_X8_doesPoint (nI k) (put M 0 17 0 (nI (p + 1)))).bind fun q7 => if q7.1 = 0 then (fj_X8_readsPage_61 (nI r) (nI k) (nI (5 * c)) (0 : Int32) q7.2) else ((f_X8_figure (nI r) (0 : Int32) (5 : Int32) q7.2).bind fun q34 => fj_X8_readsPage_61 (nI r) (nI k) (nI (5 * c)) q34.1 q34.2)) := by
        unfold f_X8_readsPage
        rw [here_eq hr hn hM hp, obind]
        dsimp only
        rw [k3, obind]
        dsimp only
        rw [if_neg (nI_ne_neg (by omega) neg9), hI.2.2.2.1, show (6 : Int32) = nI 6 from rfl, nI_if (by omega) (by omega), if_neg c1, hM.2.1, nI_1, hI1.2.2.2.1, show (5 : Int32) * nI c = nI (5 * c) from (pk_mul 5 c)]
      have eS : f_X5_takeItem 1 S = (if k = 3 then ((f_X5_takeFigure (5 : Int32) (6 : Int32) (put S 25 0 0 (nI (p + 1)))).bind fun q18 => (f_X5_takeFigure (0 : Int32) (4 : Int32) q18.2).bind fun q20 => (f_X0_append 1 (nI k) (-9 : Int32) (0 : Int32) ((1 : Int32) <<< (q18.1 &&& 31)) q20.1 q20.2).bind fun q22 => some q22) else if k = 2 ∨ k = 5 then fj_X5_takeItem_86 1 (nI k) (put S 25 0 0 (nI (p + 1))) else fj_X5_takeItem_97 1 (nI k) (-9) (put S 25 0 0 (nI (p + 1)))) := by
        unfold f_X5_takeItem
        rw [sign_eq hS hp, obind]
        dsimp only
        rw [k2, obind]
        dsimp only
        rw [if_neg (nI_ne_neg (by omega) neg9), hI.2.1.1, show (6 : Int32) = nI 6 from rfl, nI_if (by omega) (by omega), if_neg c1, a7, nI_1, show (3 : Int32) = nI 3 from rfl, nI_if (by omega) (by omega), show (2 : Int32) = nI 2 from rfl, nI_if (by omega) (by omega), show (5 : Int32) = nI 5 from rfl, nI_if (by omega) (by omega)]
        by_cases q3 : k = 3
        · rw [if_pos q3, if_pos q3]
        · rw [if_neg q3, if_neg q3]
          by_cases q2 : k = 2
          · rw [if_pos q2, if_pos (Or.inl q2)]
          · rw [if_neg q2]
            by_cases q5 : k = 5
            · rw [if_pos q5, if_pos (Or.inr q5)]
            · rw [if_neg q5, if_neg (by omega)]
      have fin : Out (put S 25 0 0 (nI (p + 1))) (put M 0 17 0 (nI (p + 1))) r n T (p + 1) c (f_X5_takeItem 1 S) (f_X8_readsPage (nI r) M) := by
        rw [eM, eS, doesPoint_eq (by omega), obind]
        dsimp only
        rw [if_b2i]
        obtain ⟨S1, eS1⟩ : ∃ x, put S 25 0 0 (nI (p + 1)) = x := ⟨_, rfl⟩
        obtain ⟨M1, eM1⟩ : ∃ x, put M 0 17 0 (nI (p + 1)) = x := ⟨_, rfl⟩
        rw [eS1] at hS1 hI1 kS1 ⊢
        rw [eM1] at hM1 hI1 kM1 ⊢
        by_cases q3 : k = 3
        · subst q3
          rw [if_pos rfl, if_neg (by decide)]
          have eR : fj_X8_readsPage_61 (nI r) (nI 3) (nI (5 * c)) 0 M1 = ((f_X8_figure (nI r) (nI 5) (nI 6) M1).bind fun q32 => fj_X8_readsPage_98 (nI r) (nI 3) (nI (5 * c)) 0 q32.1 q32.2) := by
            unfold fj_X8_readsPage_61
            rw [if_neg (by decide), if_pos (by decide)]
            rfl
          rw [eR, show (5 : Int32) = nI 5 from rfl, show (6 : Int32) = nI 6 from rfl, show (4 : Int32) = nI 4 from rfl, show (0 : Int32) = nI 0 from rfl]
          rcases fig_both (lo := 5) (hi := 6) hS1 hM1 hB (by omega) (by omega) with ⟨v, S2, M2, v1, v2, v3, v4, v5, v6, v7, v8⟩ | ⟨S2, v3, v4, v5, v6⟩
          · have hI2 := hI1.keep v7 v8
            have hv : ∃ w, (w = 32 ∨ w = 64) ∧ (1 : Int32) <<< (nI v &&& 31) = nI w := by
              rcases (show v = 5 ∨ v = 6 by omega) with rfl | rfl
              · exact ⟨32, Or.inl rfl, shf5⟩
              · exact ⟨64, Or.inr rfl, shf6⟩
            obtain ⟨w, w1, w2⟩ := hv
            rw [v3, v4, obind, obind]
            dsimp only
            have eR2 : fj_X8_readsPage_98 (nI r) (nI 3) (nI (5 * c)) (nI 0) (nI v) M2 = ((f_X8_figure (nI r) (nI 0) (nI 4) M2).bind fun q30 => fj_X8_readsPage_132 (nI 3) (nI (5 * c)) (nI 0) (nI v) q30.1 q30.2) := by
              unfold fj_X8_readsPage_98
              rw [if_neg (nI_ne_neg (by omega) neg9), if_pos (by decide)]
              rfl
            rw [eR2]
            rcases fig_both (lo := 0) (hi := 4) v5 v6 hB (by omega) (by omega) with ⟨f, S3, M3, f1, f2, f3, f4, f5, f6, f7, f8⟩ | ⟨S3, f3, f4, f5, f6⟩
            · have hI3 := hI2.keep f7 f8
              obtain ⟨S', e1, e2, e3, e4, e5, e6, e7, e8⟩ := app hI3.1 hI3.2.1 (by omega) (k := 3) (a := 0) (v := 0) (w := w) (f := f) (x2 := -9) (x5 := nI f) (by omega) (by omega) (by omega) (by omega) (fun _ => ⟨f2, w1, rfl⟩)
              obtain ⟨M', m1, m2, m3, m4, m5, m6, m7, m8, m9⟩ := tail132 (by omega) (show 3 ≤ 5 by omega) hI3.2.2.2.1 (nI 0) (nI v) (x6 := nI f) (nI_ne_neg (by omega) neg9)
              rw [f3, f4, obind, obind]
              dsimp only
              rw [m1, w2, e1, obind]
              refine Or.inl ⟨p + 1 + 1 + 1, S', M', _, rfl, rfl, by omega, f5.kb e2, f6.keep (fun F a i q1 q2 => m8 F a i (by omega) q2), hI3.page (Q' := addQ Q c 3 0 0 w f c) (fun k i hi => addQ_lo hi) e3 e4 e5 e8 m2 ?_ ?_ ?_ ?_ ?_ (fun i hi => m8 13 0 i (by omega) (by omega)), (v7.ktx.tr f7.ktx).tr e2.ktx, (v8.km.tr f8.km).tr ⟨fun F a i q1 q2 => m8 F a i (by omega) (by omega), m9⟩⟩
              · rw [m3, addQ_n]; rfl
              · rw [m4, if_pos rfl, addQ_n]; rfl
              · rw [m5, if_pos rfl, addQ_n]; exact w2
              · rw [m6, e6, if_neg (by decide)]
              · rw [m7, if_pos rfl, e7]
            · obtain ⟨S', e1, e2, _⟩ := app hI2.1 (hI2.keep f6 (K17.rf M2)).2.1 (by omega) (k := 3) (a := 0) (v := 0) (w := w) (f := 0) (x2 := -9) (x5 := nI 0) (by omega) (by omega) (by omega) (by omega) (fun _ => ⟨by omega, w1, rfl⟩)
              rw [f3, f4, obind, obind]
              dsimp only
              rw [w2, e1, obind]
              refine Or.inr ⟨p + 1 + 1, S', M2, rfl, ?_, f5.kb e2, v6.2.1, (v7.ktx.tr f6.ktx).tr e2.ktx, v8.km⟩
              unfold fj_X8_readsPage_132
              rw [if_pos rfl]
          · obtain ⟨S', e1, e2, _⟩ := app hI1.1 (hI1.keep v6 (K17.rf M1)).2.1 (by omega) (k := 3) (a := 0) (v := 0) (w := 32) (f := 0) (x2 := -9) (x5 := nI 0) (by omega) (by omega) (by omega) (by omega) (fun _ => ⟨by omega, Or.inl rfl, rfl⟩)
            rw [v3, v4, obind, obind]
            dsimp only
            rw [takeF_st v5, obind]
            dsimp only
            rw [shf5, e1, obind]
            refine Or.inr ⟨p + 1, S', M1, rfl, ?_, v5.kb e2, hM1.2.1, v6.ktx.tr e2.ktx, KM.rf M1⟩
            unfold fj_X8_readsPage_98 fj_X8_readsPage_132
            rw [if_pos rfl, if_pos rfl]
        · rw [if_neg q3]
          by_cases q2 : k = 2 ∨ k = 5
          · rw [if_pos q2, if_pos (decide_eq_true q2)]
            unfold fj_X5_takeItem_86
            rw [show (5 : Int32) = nI 5 from rfl, show (0 : Int32) = nI 0 from rfl]
            rcases fig_both (lo := 0) (hi := 5) hS1 hM1 hB (by omega) (by omega) with ⟨v, S2, M2, v1, v2, v3, v4, v5, v6, v7, v8⟩ | ⟨S2, v3, v4, v5, v6⟩
            · have hI2 := hI1.keep v7 v8
              rw [v3, v4, obind, obind]
              dsimp only
              exact (ok97 v5 v6 hB hI2 (by omega) (by omega) q3 (fun _ => ⟨v2, rfl, rfl⟩) (fun q => absurd q2 q) (nI_ne_neg (by omega) neg9)).step (by omega) v7.ktx v8.km
            · obtain ⟨S', e1, e2, e3⟩ := bad97 (k := k) (a := 0) (x2 := nI 0) v5 hI1.1 (hI1.keep v6 (K17.rf M1)).2.1 (by omega) (by omega) q3 (fun _ => ⟨by omega, rfl⟩)
              rw [v3, v4, obind, obind]
              dsimp only
              rw [e1]
              refine Or.inr ⟨p + 1, S', M1, rfl, ?_, e2, hM1.2.1, v6.ktx.tr e3, KM.rf M1⟩
              unfold fj_X8_readsPage_61 fj_X8_readsPage_98 fj_X8_readsPage_132
              rw [if_pos rfl, if_pos rfl, if_pos rfl]
          · rw [if_neg q2, if_neg (fun q => q2 (of_decide_eq_true q))]
            exact ok97 (a := 0) hS1 hM1 hB hI1 (by omega) (by omega) q3 (fun q => absurd q q2) (fun _ => rfl) (by decide)
      rcases fin with ⟨p', S', M', Q', a, b, d, e, f, g, i, j⟩ | ⟨p', S', M', a, b, d, e, f, g⟩
      · exact Or.inl ⟨p', S', M', Q', a, b, by omega, e, f, g, kS1.ktx.tr i, kM1.km.tr j⟩
      · exact Or.inr ⟨p', S', M', a, b, d, e, kS1.ktx.tr f, kM1.km.tr g⟩
  · apply bad
    · unfold f_X5_takeItem
      rw [sign_eq hS hp, obind]
      dsimp only
      rw [k2, obind, if_pos rfl]
    · unfold f_X8_readsPage
      rw [here_eq hr hn hM hp, obind]
      dsimp only
      rw [k3, obind, if_pos rfl]
