/-! flips, flip, most -/
/-- the last verdict that was sure before day k -/
def tw (s : Nat → Int32) : Nat → Int32
  | 0 => -9
  | k + 1 => if s k = -9 then tw s k else s k
abbrev isf (s : Nat → Int32) (k : Nat) : Prop := ¬ s k = -9 ∧ ¬ tw s k = -9 ∧ ¬ tw s k = s k
def tn (s : Nat → Int32) : Nat → Nat
  | 0 => 0
  | k + 1 => tn s k + (if isf s k then 1 else 0)
/-- the day of the flip that has number x, among the first k days -/
def fy (s : Nat → Int32) (x : Int32) : Nat → Int32
  | 0 => -9
  | k + 1 => if isf s k ∧ nI (tn s k) = x then nI k else fy s x k
theorem tn_le (s : Nat → Int32) : ∀ k, tn s k ≤ k := by
  intro k
  induction k with
  | zero => exact Nat.le_refl 0
  | succ k ih => rw [tn]; split <;> omega
theorem tn_mono (s : Nat → Int32) {a : Nat} : ∀ b, a ≤ b → tn s a ≤ tn s b := by
  intro b
  induction b with
  | zero => intro h; rw [show a = 0 by omega]; exact Nat.le_refl _
  | succ b ih =>
    intro h
    by_cases c : a = b + 1
    · rw [c]; exact Nat.le_refl _
    · have := ih (by omega)
      rw [tn]
      omega
theorem tn_congr {s s' : Nat → Int32} : ∀ k, (∀ j, j < k → s j = s' j) → tn s k = tn s' k ∧ tw s k = tw s' k := by
  intro k
  induction k with
  | zero => intro _; exact ⟨rfl, rfl⟩
  | succ k ih =>
    intro h
    obtain ⟨h1, h2⟩ := ih (fun j hj => h j (by omega))
    have h3 := h k (by omega)
    refine ⟨?_, ?_⟩
    · rw [tn, tn, h1]
      unfold isf
      rw [h2, h3]
    · rw [tw, tw, h2, h3]
/-- what the court noted of each day of the reading -/
def RdC (S : Stt) (n : Nat) (q : Nat → Nat → Int32) : Prop := S.1 36 0 0 = nI n ∧ ∀ d, d < n → ∀ m, m < 32 → bt (S.1 34 0 d) m = decide (q d m = 1) ∧ bt (S.1 35 0 d) m = decide (¬ q d m = 0) ∧ (q d m = 0 ∨ q d m = 1 ∨ q d m = -9)
def KR (S S' : Stt) : Prop := (∀ F a i, ¬ (30 ≤ F ∧ F ≤ 37) → S'.1 F a i = S.1 F a i) ∧ S'.2 = S.2
theorem KR.tr {S S' S2 : Stt} (h : KR S S') (h2 : KR S' S2) : KR S S2 := ⟨fun F a i q => (h2.1 F a i q).trans (h.1 F a i q), h2.2.trans h.2⟩
theorem KR.same {S S' : Stt} (h : KR S S') : Same S S' := ⟨fun F a i q => h.1 F a i (by omega), h.2⟩
theorem KR.bc {S S' : Stt} {b n : Nat} {Q : Nat → Nat → Nat} (h : KR S S') (hB : BC S b n Q) : BC S' b n Q := hB.frame (fun F i q1 q2 => h.1 F b i (by omega))
theorem KR.rk {S S' : Stt} {b n : Nat} {Q : Nat → Nat → Nat} (h : KR S S') (hB : RkC S b n Q) : RkC S' b n Q := hB.frame (fun F i q1 q2 => h.1 F b i (by omega))
theorem reading_loop {b n : Nat} {Q : Nat → Nat → Nat} (hV : BkV n Q) (hD : DD n Q) : ∀ (k i fuel : Nat) (S : Stt), i + k = n → k < fuel → BC S b n Q → RkC S b n Q → S.1 36 0 0 = nI n → (∀ d, d < i → ∀ m, m < 32 → bt (S.1 34 0 d) m = decide (iso Q n n d m = 1) ∧ bt (S.1 35 0 d) m = decide (¬ iso Q n n d m = 0) ∧ (iso Q n n d m = 0 ∨ iso Q n n d m = 1 ∨ iso Q n n d m = -9)) → ∃ S', fl_X1_hearReading_10 (fun S => some S) fuel b (nI i) S = some S' ∧ KR S S' ∧ RdC S' n (fun d m => iso Q n n d m) := by
  have hn := hV.1
  intro k
  induction k with
  | zero =>
    intro i fuel S h1 h2 hB hR hc hp
    obtain ⟨g, rfl⟩ : ∃ g, fuel = g + 1 := ⟨fuel - 1, by omega⟩
    refine ⟨S, ?_, ⟨fun _ _ _ _ => rfl, rfl⟩, hc, fun d hd => hp d (by omega)⟩
    rw [fls_X1_hearReading_10]
    unfold fb_X1_hearReading_10
    rw [hc, nI_ifle (by omega) (by omega), if_pos (by omega)]
  | succ k ih =>
    intro i fuel S h1 h2 hB hR hc hp
    obtain ⟨g, rfl⟩ : ∃ g, fuel = g + 1 := ⟨fuel - 1, by omega⟩
    obtain ⟨S1, a1, a2, a3⟩ := hear_eq hV hB hR hD (d := i) (by omega)
    have fr : KR S (put (put S1 34 0 i (S1.1 32 0 0)) 35 0 i (S1.1 33 0 0)) := ⟨fun F a j q => by rw [put_at, if_neg (by omega), put_at, if_neg (by omega), a2.1 F a j (by omega)], by rw [put_2, put_2, a2.2]⟩
    obtain ⟨S2, b1, b2, b3⟩ := ih (i + 1) g (put (put S1 34 0 i (S1.1 32 0 0)) 35 0 i (S1.1 33 0 0)) (by omega) (by omega) (fr.bc hB) (fr.rk hR) (by rw [put_at, if_neg (by omega), put_at, if_neg (by omega), a2.1 36 0 0 (by omega)]; exact hc) (fun d hd m hm => by
      by_cases c : d = i
      · subst c
        rw [put_at, if_neg (by omega), put_at, if_pos ⟨rfl, rfl, rfl⟩, put_at, if_pos ⟨rfl, rfl, rfl⟩]
        exact iso_bits hV a3 hm
      · rw [put_at, if_neg (by omega), put_at, if_neg (by omega), put_at, if_neg (by omega), put_at, if_neg (by omega), a2.1 34 0 d (by omega), a2.1 35 0 d (by omega)]
        exact hp d (by omega) m hm)
    refine ⟨S2, ?_, fr.tr b2, b3⟩
    rw [fls_X1_hearReading_10]
    unfold fb_X1_hearReading_10
    rw [hc, nI_ifle (by omega) (by omega), if_neg (by omega), a1, obind, ixb_nI (show i < 6 by omega) (by omega), grd_t, grd_t, cl_nI (by omega), nI_1]
    have e : (put S1 34 0 i (S1.1 32 0 0)).1 33 0 0 = S1.1 33 0 0 := by rw [put_at, if_neg (by omega)]
    rw [e]
    exact b1
theorem reading_eq {S : Stt} {b n : Nat} {Q : Nat → Nat → Nat} (hV : BkV n Q) (hB : BC S b n Q) (hR : RkC S b n Q) (hD : DD n Q) : ∃ S', f_X1_hearReading b S = some S' ∧ KR S S' ∧ RdC S' n (fun d m => iso Q n n d m) := by
  have hn := hV.1
  have fr : KR S (put S 36 0 0 (nI n)) := ⟨fun F a j q => by rw [put_at, if_neg (by omega)], rfl⟩
  obtain ⟨S', a1, a2, a3⟩ := reading_loop hV hD n 0 300 (put S 36 0 0 (nI n)) (by omega) (by omega) (fr.bc hB) (fr.rk hR) (by rw [put_at, if_pos ⟨rfl, rfl, rfl⟩]) (fun d hd => absurd hd (by omega))
  refine ⟨S', ?_, fr.tr a2, a3⟩
  unfold f_X1_hearReading
  rw [hB.1]
  exact a1
/-- the court changed its days of flips alone -/
def K37 (S S' : Stt) : Prop := (∀ F a i, ¬ F = 37 → S'.1 F a i = S.1 F a i) ∧ S'.2 = S.2
theorem K37.tr {S S' S2 : Stt} (h : K37 S S') (h2 : K37 S' S2) : K37 S S2 := ⟨fun F a i q => (h2.1 F a i q).trans (h.1 F a i q), h2.2.trans h.2⟩
theorem K37.put1 (S : Stt) (i : Nat) (x : Int32) : K37 S (put S 37 0 i x) := ⟨fun F a j z => by rw [put_at, if_neg (fun q => z q.1)], rfl⟩
theorem K37.rd {S S' : Stt} {n : Nat} {q : Nat → Nat → Int32} (h : K37 S S') (hR : RdC S n q) : RdC S' n q := by
  refine ⟨by rw [h.1 36 0 0 (by omega)]; exact hR.1, fun d hd m hm => ?_⟩
  rw [h.1 34 0 d (by omega), h.1 35 0 d (by omega)]
  exact hR.2 d hd m hm
theorem K37.kr {S S' : Stt} (h : K37 S S') : KR S S' := ⟨fun F a i q => h.1 F a i (by omega), h.2⟩
theorem trace_loop {n m : Nat} {q : Nat → Nat → Int32} (hn : n ≤ 6) (hm : m < 32) : ∀ (k i fuel : Nat) (S : Stt), i + k = n → k < fuel → RdC S n q → (∀ j, j < i → isf (fun d => q d m) j → S.1 37 0 (tn (fun d => q d m) j) = nI j) → ∃ S', fl_X1_trace_8 (fun x2 S => some (x2, S)) fuel (nI m) (nI (tn (fun d => q d m) i)) (tw (fun d => q d m) i) (nI i) S = some (nI (tn (fun d => q d m) n), S') ∧ K37 S S' ∧ ∀ j, j < n → isf (fun d => q d m) j → S'.1 37 0 (tn (fun d => q d m) j) = nI j := by
  intro k
  induction k with
  | zero =>
    intro i fuel S h1 h2 hR hp
    obtain ⟨g, rfl⟩ : ∃ g, fuel = g + 1 := ⟨fuel - 1, by omega⟩
    refine ⟨S, ?_, ⟨fun _ _ _ _ => rfl, rfl⟩, fun j hj => hp j (by omega)⟩
    rw [fls_X1_trace_8]
    unfold fb_X1_trace_8
    rw [hR.1, nI_ifle (by omega) (by omega), if_pos (by omega), show i = n by omega]
  | succ k ih =>
    intro i fuel S h1 h2 hR hp
    obtain ⟨g, rfl⟩ : ∃ g, fuel = g + 1 := ⟨fuel - 1, by omega⟩
    obtain ⟨r1, r2, r3⟩ := hR.2 i (by omega) m hm
    have tl := tn_le (fun d => q d m) i
    rw [fls_X1_trace_8]
    unfold fb_X1_trace_8
    rw [hR.1, nI_ifle (by omega) (by omega), if_neg (by omega), ixb_nI (show i < 6 by omega) (by omega), grd_t, cl_nI (by omega), hasBit_eq _ hm, obind, if_b2i]
    dsimp only
    rw [grd_t, hasBit_eq _ hm, obind, if_b2i, r1, r2]
    dsimp only
    have stay : q i m = -9 → tn (fun d => q d m) (i + 1) = tn (fun d => q d m) i ∧ tw (fun d => q d m) (i + 1) = tw (fun d => q d m) i ∧ ¬ isf (fun d => q d m) i := by
      intro e
      have nf : ¬ isf (fun d => q d m) i := fun z => z.1 e
      exact ⟨by rw [tn, if_neg nf]; rfl, by rw [tw, if_pos e], nf⟩
    have go : ∀ v : Int32, ¬ v = -9 → q i m = v → ∃ S', fj_X1_trace_62_8 (fl_X1_trace_8 (fun x2 S => some (x2, S)) g) (fun x2 S => some (x2, S)) (nI m) (nI (tn (fun d => q d m) i)) (tw (fun d => q d m) i) (nI i) v S = some (nI (tn (fun d => q d m) n), S') ∧ K37 S S' ∧ ∀ j, j < n → isf (fun d => q d m) j → S'.1 37 0 (tn (fun d => q d m) j) = nI j := by
      intro v hv9 hv
      have etw : tw (fun d => q d m) (i + 1) = v := by rw [tw, hv, if_neg hv9]
      unfold fj_X1_trace_62_8
      by_cases cf : isf (fun d => q d m) i
      · have c2 := cf.2.2
        dsimp only at c2
        rw [hv] at c2
        rw [if_neg cf.2.1, if_neg c2, ixb_nI (show tn (fun d => q d m) i < 6 by omega) (by omega), grd_t, cl_nI (by omega), nI_1, nI_1]
        have etn : tn (fun d => q d m) (i + 1) = tn (fun d => q d m) i + 1 := by rw [tn, if_pos cf]
        obtain ⟨S', b1, b2, b3⟩ := ih (i + 1) g (put S 37 0 (tn (fun d => q d m) i) (nI i)) (by omega) (by omega) (K37.rd (K37.put1 S _ _) hR) (fun j hj hjf => by
          rw [put_at]
          by_cases cj : j = i
          · subst cj
            rw [if_pos ⟨rfl, rfl, rfl⟩]
          · have t1 := tn_mono (fun d => q d m) (a := j + 1) i (by omega)
            have t2 : tn (fun d => q d m) (j + 1) = tn (fun d => q d m) j + 1 := by rw [tn, if_pos hjf]
            rw [if_neg (by omega)]
            exact hp j (by omega) hjf)
        rw [etn, etw] at b1
        exact ⟨S', b1, K37.tr (K37.put1 S _ _) b2, b3⟩
      · have etn : tn (fun d => q d m) (i + 1) = tn (fun d => q d m) i := by rw [tn, if_neg cf]; rfl
        obtain ⟨S', b1, b2, b3⟩ := ih (i + 1) g S (by omega) (by omega) hR (fun j hj hjf => by
          by_cases cj : j = i
          · subst cj; exact absurd hjf cf
          · exact hp j (by omega) hjf)
        rw [etn, etw, ← nI_1] at b1
        by_cases c1 : tw (fun d => q d m) i = -9
        · rw [if_pos c1]
          exact ⟨S', b1, b2, b3⟩
        · rw [if_neg c1]
          by_cases c2 : tw (fun d => q d m) i = v
          · rw [if_pos c2]
            exact ⟨S', b1, b2, b3⟩
          · exact absurd ⟨by dsimp only; rw [hv]; exact hv9, c1, by dsimp only; rw [hv]; exact c2⟩ cf
    rcases r3 with z | z | z
    · rw [z, if_neg (by decide), if_neg (by decide)]
      exact go 0 (by decide) z
    · rw [z, if_pos (by decide)]
      exact go 1 (by decide) z
    · obtain ⟨s1, s2, s3⟩ := stay z
      rw [z, if_neg (by decide), if_pos (by decide), nI_1]
      obtain ⟨S', b1, b2, b3⟩ := ih (i + 1) g S (by omega) (by omega) hR (fun j hj hjf => by
        by_cases cj : j = i
        · subst cj; exact absurd hjf s3
        · exact hp j (by omega) hjf)
      rw [s1, s2] at b1
      exact ⟨S', b1, b2, b3⟩
theorem trace_eq {S : Stt} {n m : Nat} {q : Nat → Nat → Int32} (hn : n ≤ 6) (hm : m < 32) (hR : RdC S n q) : ∃ S', f_X1_trace (nI m) S = some (nI (tn (fun d => q d m) n), S') ∧ K37 S S' ∧ ∀ j, j < n → isf (fun d => q d m) j → S'.1 37 0 (tn (fun d => q d m) j) = nI j := trace_loop hn hm n 0 300 S (by omega) (by omega) hR (fun j hj => absurd hj (by omega))
def WF (M M' : Stt) : Prop := (∀ F a i, ¬ (F = 0 ∧ (a = 22 ∨ a = 26) ∧ i = 0) → M'.1 F a i = M.1 F a i) ∧ M'.2 = M.2
theorem WF.tr {M M' M2 : Stt} (h : WF M M') (h2 : WF M' M2) : WF M M2 := ⟨fun F a i q => (h2.1 F a i q).trans (h.1 F a i q), h2.2.trans h.2⟩
theorem WF.put1 (M : Stt) (x : Int32) : WF M (put M 0 26 0 x) := ⟨fun F a j z => by rw [put_at, if_neg (by omega)], rfl⟩
theorem WF.bm {M M' : Stt} {n : Nat} {Q : Nat → Nat → Nat} (h : WF M M') (hB : BM M n Q) : BM M' n Q := hB.frame (h.1 0 10 0 (by omega)) (fun F i q1 q2 => h.1 F 0 i (by omega))
theorem WF.lo {M M' : Stt} {n lo : Nat} (h : WF M M') (hL : LoR M n lo) : LoR M' n lo := by
  unfold LoR at *
  rw [h.1 0 20 0 (by omega)]
  exact hL
theorem WF.same {M M' : Stt} (h : WF M M') : SameM M M' := ⟨fun F a i q => h.1 F a i (by omega), by rw [h.2], by rw [h.2]⟩
theorem W22.wf {M M' : Stt} (h : W22 M M') : WF M M' := ⟨fun F a i q => h.1 F a i (by omega), h.2⟩
theorem flips_loop {n m : Nat} {Q : Nat → Nat → Nat} (hV : BkV n Q) (hm : m < 32) (s : Nat → Int32) (hs : ∀ d, d < n → iso Q n n d m = s d) (x : Int32) : ∀ (k i fuel : Nat) (M : Stt), i + k = n → k < fuel → BM M n Q → LoR M n n → M.1 0 26 0 = fy s x i → ∃ M', fl_X8_flipsOf_15 (fun x4 S => some (x4, S)) fuel (nI m) x (tw s i) (nI (tn s i)) (nI i) M = some (nI (tn s n), M') ∧ WF M M' ∧ M'.1 0 26 0 = fy s x n := by
  have hn := hV.1
  intro k
  induction k with
  | zero =>
    intro i fuel M h1 h2 hB hL h26
    obtain ⟨g, rfl⟩ : ∃ g, fuel = g + 1 := ⟨fuel - 1, by omega⟩
    have hi : i = n := by omega
    subst hi
    refine ⟨M, ?_, ⟨fun _ _ _ _ => rfl, rfl⟩, h26⟩
    rw [fls_X8_flipsOf_15]
    unfold fb_X8_flipsOf_15
    rw [hB.1, nI_ifle (by omega) (by omega), if_pos (by omega)]
  | succ k ih =>
    intro i fuel M h1 h2 hB hL h26
    obtain ⟨g, rfl⟩ : ∃ g, fuel = g + 1 := ⟨fuel - 1, by omega⟩
    obtain ⟨M1, a1, a2⟩ := isOn_eq hV hB hL (d := i) (by omega) hm
    rw [hs i (by omega)] at a1
    have h26' : M1.1 0 26 0 = fy s x i := by rw [a2.1 0 26 0 (by omega)]; exact h26
    rw [fls_X8_flipsOf_15]
    unfold fb_X8_flipsOf_15
    rw [hB.1, nI_ifle (by omega) (by omega), if_neg (by omega), a1, obind]
    dsimp only
    -- not a flip: the count stays
    have no : ¬ isf s i → ¬ s i = -9 → ∃ M', fj_X8_flipsOf_56_15 (fl_X8_flipsOf_15 (fun x4 S => some (x4, S)) g) (fun x4 S => some (x4, S)) (nI m) x (nI (tn s i)) (nI i) (s i) M1 = some (nI (tn s n), M') ∧ WF M M' ∧ M'.1 0 26 0 = fy s x n := by
      intro nf n9'
      obtain ⟨M2, b1, b2, b3⟩ := ih (i + 1) g (put M1 0 26 0 (M1.1 0 26 0)) (by omega) (by omega) ((a2.wf.tr (WF.put1 M1 _)).bm hB) ((a2.wf.tr (WF.put1 M1 _)).lo hL) (by rw [put_at, if_pos ⟨rfl, rfl, rfl⟩, h26', fy, if_neg (fun z => nf z.1)])
      refine ⟨M2, ?_, (a2.wf.tr (WF.put1 M1 _)).tr b2, b3⟩
      unfold fj_X8_flipsOf_56_15 fj_X8_flipsOf_57_15 fj_X8_flipsOf_76_15 fj_X8_flipsOf_80_15
      rw [if_pos rfl, if_pos rfl, nI_1, n9 0, nI_add (tn s i) 0]
      rw [tw, if_neg n9', tn, if_neg nf] at b1
      exact b1
    by_cases c9 : s i = -9
    · rw [if_pos c9, nI_1]
      have nf : ¬ isf s i := fun z => z.1 c9
      obtain ⟨M2, b1, b2, b3⟩ := ih (i + 1) g M1 (by omega) (by omega) (a2.wf.bm hB) (a2.wf.lo hL) (by rw [h26', fy, if_neg (fun z => nf z.1)])
      refine ⟨M2, ?_, a2.wf.tr b2, b3⟩
      rw [tw, if_pos c9, tn, if_neg nf] at b1
      exact b1
    rw [if_neg c9]
    by_cases cw : tw s i = -9
    · rw [if_pos cw]
      exact no (fun z => z.2.1 cw) c9
    rw [if_neg cw]
    by_cases ce : s i = tw s i
    · rw [if_pos ce]
      exact no (fun z => z.2.2 ce.symm) c9
    rw [if_neg ce]
    have yf : isf s i := ⟨c9, cw, fun z => ce z.symm⟩
    have fin : ∀ y : Int32, y = fy s x (i + 1) → ∃ M', fj_X8_flipsOf_80_15 (fl_X8_flipsOf_15 (fun x4 S => some (x4, S)) g) (fun x4 S => some (x4, S)) (nI m) x (nI (tn s i)) (nI i) (s i) 1 y M1 = some (nI (tn s n), M') ∧ WF M M' ∧ M'.1 0 26 0 = fy s x n := by
      intro y hy
      obtain ⟨M2, b1, b2, b3⟩ := ih (i + 1) g (put M1 0 26 0 y) (by omega) (by omega) ((a2.wf.tr (WF.put1 M1 _)).bm hB) ((a2.wf.tr (WF.put1 M1 _)).lo hL) (by rw [put_at, if_pos ⟨rfl, rfl, rfl⟩, hy])
      refine ⟨M2, ?_, (a2.wf.tr (WF.put1 M1 _)).tr b2, b3⟩
      unfold fj_X8_flipsOf_80_15
      rw [if_neg n10, nI_1, nI_1]
      rw [tw, if_neg c9, tn, if_pos yf] at b1
      exact b1
    unfold fj_X8_flipsOf_57_15
    rw [if_neg n10]
    by_cases cx : nI (tn s i) = x
    · rw [if_pos cx]
      exact fin _ (by rw [fy, if_pos ⟨yf, cx⟩])
    · rw [if_neg cx]
      unfold fj_X8_flipsOf_76_15
      exact fin _ (by rw [h26', fy, if_neg (fun z => cx z.2)])
theorem flipsOf_eq {M : Stt} {n m : Nat} {Q : Nat → Nat → Nat} (hV : BkV n Q) (hB : BM M n Q) (hL : LoR M n n) (hm : m < 32) (x : Int32) : ∃ M', f_X8_flipsOf (nI m) x M = some (nI (tn (fun d => iso Q n n d m) n), M') ∧ WF M M' ∧ M'.1 0 26 0 = fy (fun d => iso Q n n d m) x n := by
  have fr : WF M (put M 0 26 0 (-9)) := WF.put1 M _
  obtain ⟨M', a1, a2, a3⟩ := flips_loop hV hm (fun d => iso Q n n d m) (fun d _ => rfl) x n 0 300 (put M 0 26 0 (-9)) (by omega) (by have := hV.1; omega) (fr.bm hB) (fr.lo hL) (by rw [put_at, if_pos ⟨rfl, rfl, rfl⟩]; rfl)
  exact ⟨M', a1, fr.tr a2, a3⟩
theorem sim_flips (x1 : Int32) : SimI (f_X7_flips x1) (f_X8_flips x1) := by
  intro S M h
  obtain ⟨n, Q, hV, hB, hR, hM, hDP, hL, hr⟩ := h.bk
  have hn := hV.1
  unfold f_X7_flips f_X8_flips
  rcases case2 x1 with ⟨c1, c2⟩ | ⟨m, hm, rfl, c1, c2⟩
  · exact ⟨-1, S, M, by rw [c1, obind, if_pos rfl], by rw [c2, obind, if_pos rfl], h⟩
  rw [c1, c2, obind, obind, if_neg n10, if_neg n10]
  obtain ⟨S1, a1, a2, a3⟩ := reading_eq hV hB hR hDP.dd
  obtain ⟨S2, b1, b2, -⟩ := trace_eq hn hm a3
  obtain ⟨M1, d1, d2, -⟩ := flipsOf_eq hV hM hL hm (-9)
  exact ⟨_, S2, M1, by rw [a1, obind, b1, obind], by rw [d1, obind], h.same (a2.same.tr b2.kr.same) d2.same⟩
theorem pageRead_loop {S : Stt} {n y : Nat} {Q : Nat → Nat → Nat} (hV : BkV n Q) (hB : BC S 0 n Q) (hy : y ≤ 99) : ∀ (k i fuel : Nat), i + k = n → k < fuel → fl_X0_pageReadOn_2 (fun S => some ((-9 : Int32), S)) fuel 0 (nI y) (nI i) S = some (fdF (fun i => decide (Q 5 i = y)) k i, S) := by
  have hn := hV.1
  intro k
  induction k with
  | zero =>
    intro i fuel h1 h2
    obtain ⟨g, rfl⟩ : ∃ g, fuel = g + 1 := ⟨fuel - 1, by omega⟩
    rw [fls_X0_pageReadOn_2]
    unfold fb_X0_pageReadOn_2
    rw [hB.1, nI_ifle (by omega) (by omega), if_pos (by omega)]
    rfl
  | succ k ih =>
    intro i fuel h1 h2
    obtain ⟨g, rfl⟩ : ∃ g, fuel = g + 1 := ⟨fuel - 1, by omega⟩
    have v5 := (hV.2 i (by omega)).2.2.2.2.2
    rw [fls_X0_pageReadOn_2]
    unfold fb_X0_pageReadOn_2
    rw [hB.1, nI_ifle (by omega) (by omega), if_neg (by omega), ixb_nI (show i < 6 by omega) (by omega), grd_t, cl_nI (by omega), (hB.2 i (by omega)).2.2.2.2.2.1, nI_if (by omega) (by omega), nI_1, ih (i + 1) g (by omega) (by omega), fdF]
    by_cases c : Q 5 i = y
    · rw [if_pos c, if_pos (decide_eq_true c)]
    · rw [if_neg c, if_neg (by rw [decide_eq_false c]; decide)]
theorem flip28 {M : Stt} {n y : Nat} {Q : Nat → Nat → Nat} (hV : BkV n Q) (hB : BM M n Q) (hy : y ≤ 99) : ∀ (k i fuel : Nat), i + k = n → k < fuel → fl_X8_flip_28 (fun S => some ((-9 : Int32), S)) fuel (nI y) (nI i) M = some (fdF (fun i => decide (Q 5 i = y)) k i, M) := by
  have hn := hV.1
  intro k
  induction k with
  | zero =>
    intro i fuel h1 h2
    obtain ⟨g, rfl⟩ : ∃ g, fuel = g + 1 := ⟨fuel - 1, by omega⟩
    rw [fls_X8_flip_28]
    unfold fb_X8_flip_28
    rw [hB.1, nI_ifle (by omega) (by omega), if_pos (by omega)]
    rfl
  | succ k ih =>
    intro i fuel h1 h2
    obtain ⟨g, rfl⟩ : ∃ g, fuel = g + 1 := ⟨fuel - 1, by omega⟩
    have v5 := (hV.2 i (by omega)).2.2.2.2.2
    rw [fls_X8_flip_28]
    unfold fb_X8_flip_28
    rw [hB.1, nI_ifle (by omega) (by omega), if_neg (by omega), if_neg (nI_ne_neg (by omega) neg9), ixb_nI (show i < 6 by omega) (by omega), grd_t, cl_nI (by omega), (hB.2 i (by omega)).2.2.2.2.2, nI_if (by omega) (by omega), nI_1, ih (i + 1) g (by omega) (by omega), fdF]
    by_cases c : Q 5 i = y
    · rw [if_pos c, if_pos (decide_eq_true c)]
    · rw [if_neg c, if_neg (by rw [decide_eq_false c]; decide)]
theorem fy_no {s : Nat → Int32} {w : Nat} (hw : w < 2 ^ 31) : ∀ k, k ≤ 6 → tn s k ≤ w → fy s (nI w) k = -9 := by
  intro k
  induction k with
  | zero => intro _ _; rfl
  | succ k ih =>
    intro hk h
    have tl := tn_le s k
    rw [tn] at h
    rw [fy, ih (by omega) (by omega), if_neg]
    rintro ⟨z1, z2⟩
    rw [if_pos z1] at h
    have := (nI_eq (by omega) hw).mp z2
    omega
theorem fy_yes {s : Nat → Int32} {w : Nat} : ∀ k, k ≤ 6 → w < tn s k → ∃ j, j < k ∧ isf s j ∧ tn s j = w ∧ fy s (nI w) k = nI j := by
  intro k
  induction k with
  | zero => intro _ h; exact absurd h (Nat.not_lt_zero _)
  | succ k ih =>
    intro hk h
    have tl := tn_le s k
    by_cases c : w < tn s k
    · obtain ⟨j, j1, j2, j3, j4⟩ := ih (by omega) c
      refine ⟨j, by omega, j2, j3, ?_⟩
      rw [fy, if_neg, j4]
      rintro ⟨z1, z2⟩
      have := (nI_eq (by omega) (by omega)).mp z2
      omega
    · rw [tn] at h
      by_cases cf : isf s k
      · rw [if_pos cf] at h
        refine ⟨k, by omega, cf, by omega, ?_⟩
        rw [fy, if_pos ⟨cf, by rw [show tn s k = w by omega]⟩]
      · rw [if_neg cf] at h
        omega
theorem sim_flip (x1 x2 : Int32) : SimI (f_X7_flip x1 x2) (f_X8_flip x1 x2) := by
  intro S M h
  obtain ⟨n, Q, hV, hB, hR, hM, hDP, hL, hr⟩ := h.bk
  have hn := hV.1
  unfold f_X7_flip f_X8_flip
  rcases case2 x1 with ⟨c1, c2⟩ | ⟨m, hm, rfl, c1, c2⟩
  · exact ⟨-1, S, M, by rw [c1, obind, if_pos rfl], by rw [c2, obind, if_pos rfl], h⟩
  rw [c1, c2, obind, obind, if_neg n10, if_neg n10]
  by_cases c0 : ¬ 0 ≤ x2
  · exact ⟨-1, S, M, by rw [if_neg c0], by rw [if_neg c0], h⟩
  have c0 := Classical.not_not.mp c0
  obtain ⟨w, hw, rfl⟩ := nI_of (x := x2) (fun q => nI_n0 q c0)
  rw [if_pos c0, if_pos c0]
  dsimp only
  obtain ⟨S1, a1, a2, a3⟩ := reading_eq hV hB hR hDP.dd
  obtain ⟨S2, b1, b2, b3⟩ := trace_eq hn hm a3
  obtain ⟨M1, d1, d2, d3⟩ := flipsOf_eq hV hM hL hm (nI w)
  have hRel : Rel S2 M1 := h.same (a2.same.tr b2.kr.same) d2.same
  have tl := tn_le (fun d => iso Q n n d m) n
  obtain ⟨s, hs⟩ : ∃ s : Nat → Int32, (fun d => iso Q n n d m) = s := ⟨_, rfl⟩
  rw [hs] at b1 b3 d1 d3 tl
  rw [a1, obind, b1, obind, d1, obind]
  dsimp only
  rw [d3, nI_ifle (by omega) hw]
  by_cases cw : tn s n ≤ w
  · refine ⟨-9, S2, M1, by rw [if_pos cw], ?_, hRel⟩
    rw [fy_no hw n hn cw]
    have hM1 := d2.bm hM
    rw [show (300 : Nat) = 299 + 1 from rfl, fls_X8_flip_28]
    unfold fb_X8_flip_28
    rw [if_pos rfl]
    split <;> rfl
  · obtain ⟨j, j1, j2, j3, j4⟩ := fy_yes (s := s) (w := w) n hn (by omega)
    have e37 := b3 j j1 j2
    rw [j3] at e37
    have hB2 := (a2.tr b2.kr).bc hB
    refine ⟨fdF (fun i => decide (Q 5 i = j)) n 0, S2, M1, ?_, ?_, hRel⟩
    · rw [if_neg cw, ixb_nI (show w < 6 by omega) (by omega), grd_t, cl_nI (by omega), e37]
      have := pageRead_loop (y := j) hV hB2 (by omega) n 0 300 (by omega) (by omega)
      have : f_X0_pageReadOn 0 (nI j) S2 = _ := this
      rw [this, obind]
    · rw [j4]
      exact flip28 (y := j) hV (d2.bm hM) (by omega) n 0 300 (by omega) (by omega)
theorem most_loop {n : Nat} {Q : Nat → Nat → Nat} (hV : BkV n Q) : ∀ (k m fuel b t : Nat) (S M : Stt), m + k = 32 → k < fuel → b < 32 → t ≤ 6 → RdC S n (fun d m => iso Q n n d m) → BM M n Q → LoR M n n → ∃ b' t' S' M', (∀ ke, fl_X7_most_17 ke fuel (nI b) (nI t) (nI m) S = ke (nI b') (nI t') S') ∧ (∀ ke, fl_X8_most_6 ke fuel (nI b) (nI t) (nI m) M = ke (nI b') (nI t') M') ∧ K37 S S' ∧ WF M M' := by
  have hn := hV.1
  intro k
  induction k with
  | zero =>
    intro m fuel b t S M h1 h2 hb ht hR hB hL
    obtain ⟨g, rfl⟩ : ∃ g, fuel = g + 1 := ⟨fuel - 1, by omega⟩
    refine ⟨b, t, S, M, fun ke => ?_, fun ke => ?_, ⟨fun _ _ _ _ => rfl, rfl⟩, ⟨fun _ _ _ _ => rfl, rfl⟩⟩
    · rw [fls_X7_most_17]
      unfold fb_X7_most_17
      rw [n9 32, if_pos (nI_le (by omega) (by omega))]
    · rw [fls_X8_most_6]
      unfold fb_X8_most_6
      rw [n9 32, if_pos (nI_le (by omega) (by omega))]
  | succ k ih =>
    intro m fuel b t S M h1 h2 hb ht hR hB hL
    obtain ⟨g, rfl⟩ : ∃ g, fuel = g + 1 := ⟨fuel - 1, by omega⟩
    obtain ⟨S1, a1, a2, -⟩ := trace_eq hn (show m < 32 by omega) hR
    obtain ⟨M1, d1, d2, -⟩ := flipsOf_eq hV hB hL (show m < 32 by omega) (-9)
    have tl := tn_le (fun d => iso Q n n d m) n
    obtain ⟨c, hc⟩ : ∃ c, tn (fun d => iso Q n n d m) n = c := ⟨_, rfl⟩
    rw [hc] at a1 d1 tl
    by_cases cc : c ≤ t
    · obtain ⟨b', t', S', M', e1, e2, e3, e4⟩ := ih (m + 1) g b t S1 M1 (by omega) (by omega) hb ht (a2.rd hR) (d2.bm hB) (d2.lo hL)
      refine ⟨b', t', S', M', fun ke => ?_, fun ke => ?_, a2.tr e3, d2.tr e4⟩
      · rw [fls_X7_most_17]
        unfold fb_X7_most_17
        rw [n9 32, if_neg (nI_ge (by omega) (by omega)), a1, obind]
        dsimp only
        rw [if_pos (nI_le cc (by omega)), nI_1]
        exact e1 ke
      · rw [fls_X8_most_6]
        unfold fb_X8_most_6 fj_X8_most_32_6
        rw [n9 32, if_neg (nI_ge (by omega) (by omega)), d1, obind]
        dsimp only
        rw [if_pos (nI_le cc (by omega)), if_pos (nI_le cc (by omega)), nI_1]
        exact e2 ke
    · obtain ⟨b', t', S', M', e1, e2, e3, e4⟩ := ih (m + 1) g m c S1 M1 (by omega) (by omega) (by omega) (by omega) (a2.rd hR) (d2.bm hB) (d2.lo hL)
      refine ⟨b', t', S', M', fun ke => ?_, fun ke => ?_, a2.tr e3, d2.tr e4⟩
      · rw [fls_X7_most_17]
        unfold fb_X7_most_17
        rw [n9 32, if_neg (nI_ge (by omega) (by omega)), a1, obind]
        dsimp only
        rw [if_neg (nI_ge (by omega) (by omega)), nI_1]
        exact e1 ke
      · rw [fls_X8_most_6]
        unfold fb_X8_most_6 fj_X8_most_32_6
        rw [n9 32, if_neg (nI_ge (by omega) (by omega)), d1, obind]
        dsimp only
        rw [if_neg (nI_ge (by omega) (by omega)), if_neg (nI_ge (by omega) (by omega)), nI_1]
        exact e2 ke
theorem sim_most : SimI f_X7_most f_X8_most := by
  intro S M h
  obtain ⟨n, Q, hV, hB, hR, hM, hDP, hL, hr⟩ := h.bk
  obtain ⟨S1, a1, a2, a3⟩ := reading_eq hV hB hR hDP.dd
  obtain ⟨b', t', S2, M1, e1, e2, e3, e4⟩ := most_loop hV 32 0 300 0 0 S1 M (by omega) (by omega) (by omega) (by omega) a3 hM hL
  refine ⟨nI b', put S2 62 0 0 (nI t'), put M1 0 2 0 (nI t'), ?_, ?_, (h.same (a2.same.tr e3.kr.same) e4.same).ask _⟩
  · unfold f_X7_most
    rw [a1, obind]
    exact e1 _
  · unfold f_X8_most
    exact e2 _
