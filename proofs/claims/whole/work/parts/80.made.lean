/-! what is made: cells one behind another from b on -/
theorem tz_aI : Cond.arrayClass .int ∈ tbs := tbs_of (List.mem_of_getElem? (i := 94) (by decide +kernel)) rfl
theorem tz_ob : Cond.code objectInit ⟨#[0xb1]⟩ 1 none ∈ tbs := tbs_of (List.mem_of_getElem? (i := 75) (by decide +kernel)) rfl
def Im (D : va_G) (b : Nat) (L : List va_E) (H : Heap) : Prop := H.size = b + L.length ∧ ∀ o e, L[o]? = some e → va_at D vwCl (b + o, e) H
theorem va_AOA.moved {t : FieldType} {u U : State} (hvm : u.vm.Alike U.vm) (h : va_AOA t u) : va_AOA t U := by
  unfold va_AOA at *
  rw [← Cond.arrayOver_setVmC hvm] at h
  simp only [Cond.before, Cond.holds, Cond.value, State.vm_setVm] at h ⊢
  exact h
def Kz (D : va_G) (cI cP cB cA : ClassId) (U : State) : Prop := va_K D vwCl (tysW cI cP cB cA) U ∧ TB U ∧ va_AO "LastPage$Page" U ∧ va_AO "LastPage$Book" U ∧ va_AOA .int U
theorem Kz.next {D : va_G} {cI cP cB cA : ClassId} {s U : State} (h : Kz D cI cP cB cA s) (hW : s.WarmedH U.vm) : Kz D cI cP cB cA U := ⟨va_K.moved hW.alike h.1, h.2.1.warm hW, h.2.2.1.moved hW.alike, h.2.2.2.1.moved hW.alike, h.2.2.2.2.moved hW.alike⟩
theorem Kz.call {D : va_G} {cI cP cB cA : ClassId} {U : State} {g : JFrame} {mk : MethodId} {a : Array Value} (h : Kz D cI cP cB cA U) : Kz D cI cP cB cA (U.calling g mk a) :=
  ⟨va_K.moved (u := U) (U := U.calling g mk a) (Vm.Alike.refl U.vm) h.1, h.2.1.warm (U := U.calling g mk a) (State.WarmedH.refl U), h.2.2.1.moved (U := U.calling g mk a) (Vm.Alike.refl U.vm), h.2.2.2.1.moved (U := U.calling g mk a) (Vm.Alike.refl U.vm), h.2.2.2.2.moved (U := U.calling g mk a) (Vm.Alike.refl U.vm)⟩
def fr9 (b : Nat) : Nat → Prop := fun q => b ≤ q
theorem Im.new {D : va_G} {b : Nat} {L : List va_E} {H H1 : Heap} {e : va_E} (h : Im D b L H) (e1 : va_at D vwCl (b + L.length, e) H1) (z : H1.size = b + L.length + 1) (o : ∀ q, q < b + L.length → H1[q]? = H[q]?) : Im D b (L ++ [e]) H1 := by
  refine ⟨by rw [z, List.length_append]; rfl, fun k e' hk => ?_⟩
  by_cases c : k < L.length
  · rw [List.getElem?_append_left c] at hk
    exact (h.2 k e' hk).kept (o _ (by omega))
  · have hl := (List.getElem?_eq_some_iff.mp hk).1
    rw [List.length_append] at hl
    have hl : k < L.length + 1 := hl
    have hk2 : k = L.length := by omega
    subst hk2
    rw [List.getElem?_append_right (Nat.le_refl _), Nat.sub_self] at hk
    cases hk
    exact e1
theorem Im.set {D : va_G} {b : Nat} {L : List va_E} {H H1 : Heap} {e' : va_E} (h : Im D b L H) {o : Nat} (e1 : va_at D vwCl (b + o, e') H1) (z : H1.size = H.size) (oq : ∀ q, q ≠ b + o → H1[q]? = H[q]?) : Im D b (L.set o e') H1 := by
  refine ⟨by rw [z, List.length_set]; exact h.1, fun k e2 hk => ?_⟩
  by_cases c : k = o
  · subst c
    rw [List.getElem?_set] at hk
    by_cases c2 : k < L.length
    · rw [if_pos rfl, if_pos c2] at hk
      cases hk
      exact e1
    · rw [if_pos rfl, if_neg c2] at hk
      cases hk
  · rw [List.getElem?_set_ne (Ne.symm c)] at hk
    exact (h.2 k e2 hk).kept (oq _ (by show b + k ≠ b + o; omega))
theorem Im.last {D : va_G} {b : Nat} {L : List va_E} {e : va_E} {H : Heap} (h : Im D b (L ++ [e]) H) : Im D (b + L.length) [e] H := by
  refine ⟨by rw [h.1, List.length_append, Nat.add_assoc], fun k e2 hk => ?_⟩
  have hl := (List.getElem?_eq_some_iff.mp hk).1
  have hl : k < 1 := hl
  have hk0 : k = 0 := by omega
  subst hk0
  cases hk
  exact h.2 L.length e (by rw [List.getElem?_append_right (Nat.le_refl _), Nat.sub_self]; rfl)
theorem Im.join {D : va_G} {b : Nat} {L L2 : List va_E} {e : va_E} {H H1 : Heap} (h : Im D b (L ++ [e]) H) (h2 : Im D (b + L.length) L2 H1) (oq : ∀ q, q < b + L.length → H1[q]? = H[q]?) : Im D b (L ++ L2) H1 := by
  refine ⟨by rw [h2.1, List.length_append, Nat.add_assoc], fun k e2 hk => ?_⟩
  by_cases c : k < L.length
  · rw [List.getElem?_append_left c] at hk
    exact (h.2 k e2 (by rw [List.getElem?_append_left c]; exact hk)).kept (oq _ (by omega))
  · rw [List.getElem?_append_right (by omega)] at hk
    have := h2.2 _ e2 hk
    rw [show b + L.length + (k - L.length) = b + k by omega] at this
    exact this
theorem S_new {b n : Nat} {H0 H H1 : Heap} {locs : List Loc} (hS : va_S (fr9 b) H0 H locs) (hz : H.size = n) (z : H1.size = n + 1) (o : ∀ q, q < n → H1[q]? = H[q]?) : va_S (fr9 b) H0 H1 locs :=
  ⟨by have := hS.1; omega, fun q h1 h2 => (o q (by have := hS.1; omega)).trans (hS.2.1 q h1 h2), hS.2.2⟩
theorem arr_ext {c : ClassId} {N : Nat} {f g : Nat → Value} (h : ∀ j, j < N → f j = g j) : arrV c N f = arrV c N g := by
  unfold arrV
  congr 2
  funext j
  exact h j.val j.isLt
theorem at_q {D : va_G} {a : Nat} {c : ClassId} {N : Nat} {f g : Nat → Option Nat} {H : Heap} (h : va_at D vwCl (a, .inl (c, N, .inr (.inr (.inr (.inr f))))) H) (hj : ∀ j, j < N → f j = g j) : va_at D vwCl (a, .inl (c, N, .inr (.inr (.inr (.inr g))))) H := by
  have h : H[a]? = some (vp_cell _ _) := h
  show H[a]? = some (vp_cell _ _)
  rw [h, vp_cell_q, vp_cell_q, arr_ext (fun j q => by rw [hj j q])]
theorem at_i {D : va_G} {a : Nat} {c : ClassId} {N : Nat} {f g : Nat → Int32} {H : Heap} (h : va_at D vwCl (a, .inl (c, N, .inl f)) H) (hj : ∀ j, j < N → f j = g j) : va_at D vwCl (a, .inl (c, N, .inl g)) H := by
  have h : H[a]? = some (vp_cell _ _) := h
  show H[a]? = some (vp_cell _ _)
  rw [h, vp_cell_i, vp_cell_i, arr_ext (fun j q => by rw [hj j q])]
/-! the rows of the makers -/
section MADE
variable {p : Program} {l : Launch} {e : Env} {R : Room} {s : State} {m : MethodId} {args : Array Value} {below : List Frame} {meth : Method} {c : Code} {H : Heap} {locs : List Loc} {cells slots : Nat} {Q : State → Prop}
variable {D : va_G} {cI cP cB cA : ClassId} {b : Nat} {L : List va_E} {cc : ByteArray} {nL : Nat} {own : String} {pc : Nat} {ls : Array Slot} {rest : List Value}
def Cz (D : va_G) (cI cP cB cA : ClassId) (p : Program) (s : State) (m : MethodId) (c : Code) (cc : ByteArray) (nL : Nat) (args : Array Value) (own : String) : Prop := CallFix p m c cc nL s args tbs own ∧ Kz D cI cP cB cA s
theorem zNew (X : Cz D cI cP cB cA p s m c cc nL args own) (hI : Im D b L H) (hS : va_S (fr9 b) s.heap H locs) {ci ix N : Nat} {C : String} {T : u_T} {fs : List Value} (hcl : vwCl[ci]? = some (C, T, N)) (hin : ∀ w ∈ u_ws C T N, w ∈ tbs) (ty : Nat → FieldType) (hty : ∀ k, k < N → parseFieldDescriptor (T k).2.2.1 = some (ty k)) (hfs : ∀ j, j < N → defaultValue (ty j) = vp_V fs j) (w1 : Cond.classLink own ix C ∈ tbs) (w2 : Cond.instantiable C N ∈ tbs) (w3 : Cond.initialized C ∈ tbs) (hc : cells + 1 ≤ R.cells) (hs : slots + N ≤ R.slots) (hd : decode cc pc = .ok (.new ix, 3))
    (kk : ∀ H1 : Heap, Im D b (L ++ [.inr (ci, fs)]) H1 → va_S (fr9 b) s.heap H1 locs → W p l e R s m args below meth c H1 locs (cells + 1) (slots + N) Q (F0 m (pc + 3) ls (.ref (b + L.length) :: rest))) : W p l e R s m args below meth c H locs cells slots Q (F0 m pc ls rest) := by
  have hKn := X.2.1.1 ci _ hcl
  refine W.newcK X.1.1 X.1.2.1 X.1.2.2.2.1 (X.1.2.2.2.2 _ w1) (X.1.2.2.2.2 _ w2) (X.1.2.2.2.2 _ w3) rfl hd hc hs hKn.2.1 hI.1 fun H1 kC hkC e1 z1 o1 => ?_
  exact kk H1 (hI.new ⟨_, hcl, (u_born ty X.1.2.2.2.2 hin hKn hkC e1 hty).to hfs⟩ z1 o1) (S_new hS hI.1 z1 o1)
theorem zArr (X : Cz D cI cP cB cA p s m c cc nL args own) (hI : Im D b L H) (hS : va_S (fr9 b) s.heap H locs) {n : Int32} {N : Nat} (hn : ¬ n < 0) (hN : n.toNatClampNeg = N) (hby : N * 4 ≤ 536870912) (hc : cells + 1 ≤ R.cells) (hs : slots + N ≤ R.slots) (hd : decode cc pc = .ok (.newarray .int, 2))
    (kk : ∀ H1 : Heap, Im D b (L ++ [.inl (cI, N, .inl (fun _ => 0))]) H1 → va_S (fr9 b) s.heap H1 locs → W p l e R s m args below meth c H1 locs (cells + 1) (slots + N) Q (F0 m (pc + 2) ls (.ref (b + L.length) :: rest))) : W p l e R s m args below meth c H locs cells slots Q (F0 m pc ls (.int n :: rest)) := by
  refine va_newaK (atype := .int) X.1.1 X.1.2.1 (X.1.2.2.2.2 _ tz_aI) rfl hd rfl hn hN hby hc hs hI.1 fun H1 cA' e1 z1 o1 _ hf => ?_
  have hcc : cA' = cI := Option.some.inj (hf.symm.trans (X.2.1.2 0 (cI, .int) rfl).2)
  subst hcc
  exact kk H1 (hI.new e1 z1 o1) (S_new hS hI.1 z1 o1)
theorem zArrQ (X : Cz D cI cP cB cA p s m c cc nL args own) (hI : Im D b L H) (hS : va_S (fr9 b) s.heap H locs) {n : Int32} {N t0 ix : Nat} {c9 : ClassId} {C : String} (ht : (tysW cI cP cB cA)[t0]? = some (c9, .object C)) (hn : ¬ n < 0) (hN : n.toNatClampNeg = N) (hby : N * 4 ≤ 536870912) (w1 : Cond.classLink own ix C ∈ tbs) (hov : va_AO C s) (hc : cells + 1 ≤ R.cells) (hs : slots + N ≤ R.slots) (hd : decode cc pc = .ok (.anewarray ix, 3))
    (kk : ∀ H1 : Heap, Im D b (L ++ [.inl (c9, N, .inr (.inr (.inr (.inr (fun _ => none)))))]) H1 → va_S (fr9 b) s.heap H1 locs → W p l e R s m args below meth c H1 locs (cells + 1) (slots + N) Q (F0 m (pc + 3) ls (.ref (b + L.length) :: rest))) : W p l e R s m args below meth c H locs cells slots Q (F0 m pc ls (.int n :: rest)) := by
  subst hN
  refine W.anew X.1.1 X.1.2.1 X.1.2.2.2.1 (X.1.2.2.2.2 _ w1) (va_AO.use hov) rfl hd rfl hn hby hc hs fun cA' kA comp f1 f2 f3 f4 => ?_
  obtain ⟨_, _, _, _, _, hf⟩ := (X.2.1.2 t0 _ ht).2
  have hcc : cA' = c9 := Option.some.inj (f1.symm.trans hf)
  subst hcc
  generalize hH1 : H.push ({ cls := cA', slots := Array.replicate n.toNatClampNeg .null, vm := .none } : Cell) = H1
  have z1 : H1.size = b + L.length + 1 := by rw [← hH1, Array.size_push, hI.1]
  have e1 : H1[b + L.length]? = some (arrV cA' n.toNatClampNeg (fun _ => .null)) := by rw [← hH1, ← hI.1, Array.getElem?_push_size, ← arrV_new]
  have o1 : ∀ q : Nat, q < b + L.length → H1[q]? = H[q]? := fun q hq => by rw [← hH1, Array.getElem?_push, if_neg (by rw [hI.1]; omega)]
  rw [hI.1]
  exact kk H1 (hI.new e1 z1 o1) (S_new hS hI.1 z1 o1)
end MADE
