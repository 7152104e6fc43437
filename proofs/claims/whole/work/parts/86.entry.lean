/-! THE CLAIM OUT OF ONE WALK OF THE LAW'S BODY. Your part is whole_start (and what it stands on); all else here is the same for every law, but numbers. -/
def R_law : String := "LastPageLaw"
def lw_P (b : Addr) (xs : List Int32) (args : Array Value) (s : State) : Prop := args = #[.ref b] ∧ s.IntsAt b xs ∧ xs.length ≤ 384 ∧ (Jvm.Cond.and given_1 narrow_1).before args s = true
def lw_Q (_ : Array Value) (s : State) (o : Outcome) (t : State) : Prop := o = .returned (some (.int 1)) ∧ Framed s o t [] 600000 7302250
def lw_Z (below : List Frame) (a : Array Value) (s : State) : State → Prop := fun t => ∃ o, t.status = .running ∧ Ended t below o ∧ lw_Q a s o t
/-- the law's own end, with 1 on the stack, nothing written that was there before, its room as the claim has it -/
theorem lw_ret {p : Program} {l : Launch} {e : Env} {s : State} {m : MethodId} {below : List Frame} {meth : Method} {c : Code} {b : Nat} (hx : p.tables.exec = Jvm.exec) (hb : c.code = code) (hr : meth.sig.returnType = ret) (hlocks : meth.locks = false) {pc : Nat} {H : Heap} {ls : Array Slot} (hdg : decode code pc = .ok (.ireturn, 1)) : W p l e room_1 s m #[Value.ref b] below meth c H [] 600000 7302250 (lw_Z below #[Value.ref b] s) (F0 m pc ls [.int 1]) := by
  intro T hT X
  obtain ⟨fs, hret, hrun, hended, hW, hframe⟩ := X.leave (v := some (.int 1)) (hlocks := hlocks) (fun h => by rw [hr] at h; cases h)
  have hmeth' : T.vm.method? m = some meth := X.method'
  refine ⟨T.setFrames fs, ?_, .returned (some (.int 1)), hrun, hended, rfl, ⟨_, rfl⟩, hW, hframe⟩
  jvm_step X.here [X.here.top, hx, hb, hdg, hmeth', hr, ret, narrow_b1]
  (try refine ⟨rfl, ?_⟩); (try refine ⟨rfl, ?_⟩)
  first | (intro acts; rw [hret _ acts rfl rfl rfl]) | rw [hret _ _ rfl rfl rfl]
  exact Steps.refl _
/-- what holds at the law's entry: the machine, the code, the tables' words (any of lw_tbl by 'hts w (by decide +kernel)'), the script of L ints xs at the cell b, what the Statement gives of the start (any of its parts by flat_of_before) -/
def lw_At (p : Program) (s : State) (m : MethodId) (meth : Method) (c : Code) (b L : Nat) (xs : Nat → Int32) : Prop :=
  p.tables.exec = Jvm.exec ∧ c.code = code ∧ meth.sig.returnType = ret ∧ c.maxLocals = 4 ∧ s.vm.findClass R_law = some m.cls ∧ (∀ w ∈ lw_tbl, w.before #[Value.ref b] s = true) ∧ va_X b L xs s s.heap ∧ b < s.heap.size ∧ meth.locks = false ∧ (Jvm.Cond.and given_1 narrow_1).before #[Value.ref b] s = true
/-! what the start gives -/
theorem tz_sL : Cond.laysStatic "LastPage" "LETTERS" "[I" ∈ lw_tbl := List.mem_of_getElem? (i := 415) (by decide +kernel)
theorem tz_sC : Cond.laysStatic "LastPage" "CASES_WITH" "[I" ∈ lw_tbl := List.mem_of_getElem? (i := 432) (by decide +kernel)
theorem tz_oP : Cond.arrayOver (.object "LastPage$Page") ∈ lw_tbl := List.mem_of_getElem? (i := 102) (by decide +kernel)
theorem tz_oB : Cond.arrayOver (.object "LastPage$Book") ∈ lw_tbl := List.mem_of_getElem? (i := 157) (by decide +kernel)
theorem tz_oA : Cond.arrayOver (.array .int) ∈ lw_tbl := List.mem_of_getElem? (i := 83) (by decide +kernel)
theorem law_sta {s : State} {b : Nat} (hts : ∀ w ∈ lw_tbl, w.before #[Value.ref b] s = true) (hgv : (Jvm.Cond.and given_1 narrow_1).before #[Value.ref b] s = true) : ∃ tL tC, Sta tL tC (fr9 s.heap.size) s s.heap := by
  have hs := flat_of_before _ hgv
  have hA : ∀ a : Nat, a < s.heap.size → ¬ fr9 s.heap.size a := fun a h => Nat.not_le.mpr h
  have hini : (Cond.initialized "LastPage").before #[Value.ref b] s = true := hts _ (List.mem_filter.mp tw_381).1
  obtain ⟨tL, h1, h2⟩ := va_Tof (args := #[Value.ref b]) (tm := .static "LastPage" "LETTERS" "[I") (ty := .int) (N := 6) (f := fun j => .int (litL j)) (A := fr9 s.heap.size) (by decide) (hs _ (by decide +kernel)) (va_eqt (hs (Cond.eq (.length (.static "LastPage" "LETTERS" "[I")) (.int 6)) (by decide +kernel))) (fun j hj => by
    rcases (show j = 0 ∨ j = 1 ∨ j = 2 ∨ j = 3 ∨ j = 4 ∨ j = 5 by omega) with rfl | rfl | rfl | rfl | rfl | rfl
    · exact va_eqt (hs (Cond.eq (.elem (.static "LastPage" "LETTERS" "[I") (.int 0)) (.int 112)) (by decide +kernel))
    · exact va_eqt (hs (Cond.eq (.elem (.static "LastPage" "LETTERS" "[I") (.int 1)) (.int 101)) (by decide +kernel))
    · exact va_eqt (hs (Cond.eq (.elem (.static "LastPage" "LETTERS" "[I") (.int 2)) (.int 111)) (by decide +kernel))
    · exact va_eqt (hs (Cond.eq (.elem (.static "LastPage" "LETTERS" "[I") (.int 3)) (.int 100)) (by decide +kernel))
    · exact va_eqt (hs (Cond.eq (.elem (.static "LastPage" "LETTERS" "[I") (.int 4)) (.int 115)) (by decide +kernel))
    · exact va_eqt (hs (Cond.eq (.elem (.static "LastPage" "LETTERS" "[I") (.int 5)) (.int 105)) (by decide +kernel))) hA
  obtain ⟨tC, h3, h4⟩ := va_Tof (args := #[Value.ref b]) (tm := .static "LastPage" "CASES_WITH" "[I") (ty := .int) (N := 5) (f := fun j => .int (litC j)) (A := fr9 s.heap.size) (by decide) (hs _ (by decide +kernel)) (va_eqt (hs (Cond.eq (.length (.static "LastPage" "CASES_WITH" "[I")) (.int 5)) (by decide +kernel))) (fun j hj => by
    rcases (show j = 0 ∨ j = 1 ∨ j = 2 ∨ j = 3 ∨ j = 4 by omega) with rfl | rfl | rfl | rfl | rfl
    · exact va_eqt (hs (Cond.eq (.elem (.static "LastPage" "CASES_WITH" "[I") (.int 0)) (.int (-1431655766))) (by decide +kernel))
    · exact va_eqt (hs (Cond.eq (.elem (.static "LastPage" "CASES_WITH" "[I") (.int 1)) (.int (-858993460))) (by decide +kernel))
    · exact va_eqt (hs (Cond.eq (.elem (.static "LastPage" "CASES_WITH" "[I") (.int 2)) (.int (-252645136))) (by decide +kernel))
    · exact va_eqt (hs (Cond.eq (.elem (.static "LastPage" "CASES_WITH" "[I") (.int 3)) (.int (-16711936))) (by decide +kernel))
    · exact va_eqt (hs (Cond.eq (.elem (.static "LastPage" "CASES_WITH" "[I") (.int 4)) (.int (-65536))) (by decide +kernel))) hA
  exact ⟨tL, tC, va_Zof (hts _ tz_sL) hini h1 hA, h2, va_Zof (hts _ tz_sC) hini h3 hA, h4⟩
theorem law_K {s : State} {b : Nat} (hts : ∀ w ∈ lw_tbl, w.before #[Value.ref b] s = true) : ∃ (D : va_G) (cI cP cB cA : ClassId), Kz D cI cP cB cA s := by
  have hT : TB s := TB.of hts
  have ht := hT.use #[Value.ref b]
  obtain ⟨c0, i0, k0⟩ := u_known (ws := tbs) (C := RX0) (T := TX0) (N := 3) (n := 3) ht inX0 (ht _ tz_is42)
  obtain ⟨c1, i1, k1⟩ := u_known (ws := tbs) (C := RX1) (T := TX1) (N := 8) (n := 8) ht inX1 (ht _ tz_is127)
  obtain ⟨c2, i2, k2⟩ := u_known (ws := tbs) (C := RX2) (T := TX2) (N := 3) (n := 3) ht inX2 (ht _ tz_is192)
  obtain ⟨c3, i3, k3⟩ := u_known (ws := tbs) (C := RX3) (T := TX3) (N := 7) (n := 7) ht inX3 (ht _ tz_is49)
  obtain ⟨c4, i4, k4⟩ := u_known (ws := tbs) (C := RX4) (T := TX4) (N := 7) (n := 7) ht inX4 (ht _ tz_is163)
  obtain ⟨c5, i5, k5⟩ := u_known (ws := tbs) (C := RX5) (T := TX5) (N := 5) (n := 5) ht inX5 (ht _ tz_is105)
  obtain ⟨c6, i6, k6⟩ := u_known (ws := tbs) (C := RX6) (T := TX6) (N := 2) (n := 2) ht inX6 (ht _ tz_is23)
  obtain ⟨c7, i7, k7⟩ := u_known (ws := tbs) (C := RX7) (T := TX7) (N := 14) (n := 14) ht inX7 (ht _ tz_is15)
  obtain ⟨c8, i8, k8⟩ := u_known (ws := tbs) (C := RX8) (T := TX8) (N := 31) (n := 31) ht inX8 (ht _ tz_is800)
  obtain ⟨dC, dI, hKc⟩ : ∃ (dC : Nat → ClassId) (dI : Nat → Nat → Nat), ∀ (k : Nat) (q : vw_C), vwCl[k]? = some q → u_Kn s q.1 q.2.1 q.2.2 (dC k) (dI k) := by
    refine ⟨fun k => match k with | 0 => c0 | 1 => c1 | 2 => c2 | 3 => c3 | 4 => c4 | 5 => c5 | 6 => c6 | 7 => c7 | _ => c8, fun k => match k with | 0 => i0 | 1 => i1 | 2 => i2 | 3 => i3 | 4 => i4 | 5 => i5 | 6 => i6 | 7 => i7 | _ => i8, ?_⟩
    intro k q hq
    match k, hq with
    | 0, hq => cases hq; exact k0
    | 1, hq => cases hq; exact k1
    | 2, hq => cases hq; exact k2
    | 3, hq => cases hq; exact k3
    | 4, hq => cases hq; exact k4
    | 5, hq => cases hq; exact k5
    | 6, hq => cases hq; exact k6
    | 7, hq => cases hq; exact k7
    | 8, hq => cases hq; exact k8
    | k + 9, hq => simp [vwCl] at hq
  obtain ⟨cI, kI, compI, f1, f2, f3⟩ := Cond.arrayClass_spec (ht _ tz_aI)
  obtain ⟨compP, cP, kP, g1, -, g3, g4, g5⟩ := Cond.arrayOver_spec (hts _ tz_oP)
  obtain ⟨compB, cB, kB, p1, -, p3, p4, p5⟩ := Cond.arrayOver_spec (hts _ tz_oB)
  obtain ⟨compA, cA, kA, r1, -, r3, r4, r5⟩ := arrayOverA_spec (hts _ tz_oA)
  refine ⟨(dC, dI), cI, cP, cB, cA, ⟨hKc, fun k q hk => ?_⟩, hT, va_AO.of (hts _ tz_oP), va_AO.of (hts _ tz_oB), hts _ tz_oA⟩
  match k, hk with
  | 0, hk => cases hk; exact ⟨fun n z => ⟨fun k h => (by cases h), kI, f2, compI, f3⟩, f1⟩
  | 1, hk => cases hk; exact ⟨fun n z => ⟨fun k h => (by cases h), kP, g3, compP, g4⟩, kP, compP, g3, g4, g1, g5⟩
  | 2, hk => cases hk; exact ⟨fun n z => ⟨fun k h => (by cases h), kB, p3, compB, p4⟩, kB, compB, p3, p4, p1, p5⟩
  | 3, hk => cases hk; exact ⟨fun n z => ⟨fun k h => (by cases h), kA, r3, compA, r4⟩, r5⟩
  | k + 4, hk => simp [tysW] at hk
