/-! more rows of the makers -/
theorem one1 {D : va_G} {a : Nat} {e : va_E} {H : Heap} (h : va_at D vwCl (a, e) H) : va_P D vwCl [(a, e)] H := by
  intro k q hk
  have hl := (List.getElem?_eq_some_iff.mp hk).1
  have hl : k < 1 := hl
  have hk0 : k = 0 := by omega
  subst hk0
  cases hk
  exact h
def rmN (d mc ms : Nat) : Room := { frames := d, cells := mc, slots := ms, locals := 44 * d }
def QN (D : va_G) (b : Nat) (L : List va_E) : Array Value → State → Outcome → State → Prop := va_Qv (fun (_ : Unit) => True) (fun _ t => Im D b L t.heap) (fr9 b)
def CtN (l : Launch) (D : va_G) (cI cP cB cA : ClassId) (y : MethodName) (cc : ByteArray) (nL d mc ms : Nat) (av : List Value) (b : Nat) (L0 L1 : List va_E) : Prop :=
  Met l y [Cond.code y cc nL none] (rmN d mc ms) (va_Pc av (fun U => Im D b L0 U.heap ∧ Kz D cI cP cB cA U)) (QN D b L1) mc ms (fr9 b)
section MADE2
variable {p : Program} {l : Launch} {e : Env} {R : Room} {s : State} {m : MethodId} {args : Array Value} {below : List Frame} {meth : Method} {c : Code} {H : Heap} {locs : List Loc} {cells slots : Nat} {Q : State → Prop}
variable {D : va_G} {cI cP cB cA : ClassId} {b : Nat} {L : List va_E} {cc : ByteArray} {nL : Nat} {own : String} {pc : Nat} {ls : Array Slot} {rest : List Value}
theorem zGet (X : Cz D cI cP cB cA p s m c cc nL args own) (hI : Im D b L H) {o ci k N ix : Nat} {fs : List Value} {C : String} {T : u_T} (ho : L[o]? = some (.inr (ci, fs))) (hcl : vwCl[ci]? = some (C, T, N)) (hin : ∀ w ∈ u_ws C T N, w ∈ tbs) (hk : k < N) {v : Value} (hv : fs[k]? = some v) (hl : Cond.fieldLink own ix (T k).1 (T k).2.1 (T k).2.2.1 ∈ tbs) (hd : decode cc pc = .ok (.getfield ix, 3))
    (kk : W p l e R s m args below meth c H locs cells slots Q (F0 m (pc + 3) ls (v :: rest))) : W p l e R s m args below meth c H locs cells slots Q (F0 m pc ls (.ref (b + o) :: rest)) :=
  va_get (D := D) X.1.1 X.1.2.1 X.1.2.2.2.2 hin X.1.2.2.2.1 X.2.1 (one1 (hI.2 o _ ho)) 0 rfl hcl k hk (X.1.2.2.2.2 _ hl) (fun _ h => h) hv hd kk
theorem zPutF (X : Cz D cI cP cB cA p s m c cc nL args own) (hI : Im D b L H) (hS : va_S (fr9 b) s.heap H locs) (hin2 : meth.name = "<init>") {o ci k N ix : Nat} {fs : List Value} {C : String} {T : u_T} (ho : L[o]? = some (.inr (ci, fs))) (hcl : vwCl[ci]? = some (C, T, N)) (hin : ∀ w ∈ u_ws C T N, w ∈ tbs) (ty0 : Nat → FieldType) (hty : ∀ k, k < N → parseFieldDescriptor (T k).2.2.1 = some (ty0 k)) (hnm : ∀ a, a < N → ∀ b, b < N → a ≠ b → (T a).2.1 ≠ (T b).2.1) (hk : k < N) (hfin : (T k).2.2.2 = true) (hdecl : (T k).1 = own) {v : Value} (hn : narrow (ty0 k) v = v) (hfit : fits (ty0 k) v = true) (hlen : k < fs.length) (hl : Cond.fieldLink own ix (T k).1 (T k).2.1 (T k).2.2.1 ∈ tbs) (hd : decode cc pc = .ok (.putfield ix, 3))
    (kk : ∀ (H1 : Heap) (locs1 : List Loc), Im D b (L.set o (.inr (ci, fs.set k v))) H1 → va_S (fr9 b) s.heap H1 locs1 → W p l e R s m args below meth c H1 locs1 cells slots Q (F0 m (pc + 3) ls rest)) : W p l e R s m args below meth c H locs cells slots Q (F0 m pc ls (v :: .ref (b + o) :: rest)) := by
  have hap := va_apart (own := own) X.1.2.2.2.2 hin ty0 hty hnm X.2.1 hcl
  obtain ⟨r, h1, cell, q1, q2, q3, q4⟩ := hI.2 o _ ho
  have hr : r = (C, T, N) := Option.some.inj (h1.symm.trans hcl)
  subst hr
  obtain ⟨hSl, hfc, kC, hkC, hkind⟩ := X.2.1.1 ci _ hcl
  obtain ⟨cf, kf, fi, f, hi, hsl⟩ := hSl k hk
  have hlay := X.1.2.2.2.2 _ (hin _ (u_in_lay hk))
  unfold u_lay at hlay
  rw [if_pos hfin] at hlay
  have hst := (u_facts hfc hkC (u_lays X.1.2.2.2.2 hin hk) hi).1
  have hcf : m.cls = cf := by
    obtain ⟨_, _, c', _, _, _, -, -, hf', -, -, -, hown2, -⟩ := Cond.laysFinal_spec hlay
    have e1 : c' = cf := by have := hi.symm.trans hf'; simp at this; exact this.1.symm
    rw [hdecl] at hown2
    rw [← e1]; exact Option.some.inj (X.1.2.2.2.1.symm.trans hown2)
  have h6 := u_fits hfc hkC hkind (Or.inr hlay) hi (hty k hk) hn hfit
  refine W.putFinK X.1.1 X.1.2.1 X.1.2.2.2.1 (X.1.2.2.2.2 _ hl) hi hst hcf hin2 (by rw [q2]; exact h6) q1 q3 (by rw [hsl]; exact k2_hasslot (q4 k hk)) rfl rfl hd fun H' e1 e2 e3 => ?_
  rw [hsl] at e1 ⊢
  exact kk H' _ (hI.set ⟨_, hcl, t_OB.to (V := updV (vp_V fs) k v) ⟨_, e1, q2, q3, t_set q4 hap hk v⟩ (fun j _ => vp_updV_set hlen v j)⟩ e2 e3) (hS.put e2 e3 (Nat.le_add_right _ _))
theorem zPut (X : Cz D cI cP cB cA p s m c cc nL args own) (hI : Im D b L H) (hS : va_S (fr9 b) s.heap H locs) {o ci k N ix : Nat} {fs : List Value} {C : String} {T : u_T} (ho : L[o]? = some (.inr (ci, fs))) (hcl : vwCl[ci]? = some (C, T, N)) (hin : ∀ w ∈ u_ws C T N, w ∈ tbs) (ty0 : Nat → FieldType) (hty : ∀ k, k < N → parseFieldDescriptor (T k).2.2.1 = some (ty0 k)) (hnm : ∀ a, a < N → ∀ b, b < N → a ≠ b → (T a).2.1 ≠ (T b).2.1) (hk : k < N) (hfin : (T k).2.2.2 = false) {v : Value} (hn : narrow (ty0 k) v = v) (hfit : fits (ty0 k) v = true) (hlen : k < fs.length) (hl : Cond.fieldLink own ix (T k).1 (T k).2.1 (T k).2.2.1 ∈ tbs) (hd : decode cc pc = .ok (.putfield ix, 3))
    (kk : ∀ (H1 : Heap) (locs1 : List Loc), Im D b (L.set o (.inr (ci, fs.set k v))) H1 → va_S (fr9 b) s.heap H1 locs1 → W p l e R s m args below meth c H1 locs1 cells slots Q (F0 m (pc + 3) ls rest)) : W p l e R s m args below meth c H locs cells slots Q (F0 m pc ls (v :: .ref (b + o) :: rest)) := by
  have hap := va_apart (own := own) X.1.2.2.2.2 hin ty0 hty hnm X.2.1 hcl
  obtain ⟨r, h1, cell, q1, q2, q3, q4⟩ := hI.2 o _ ho
  have hr : r = (C, T, N) := Option.some.inj (h1.symm.trans hcl)
  subst hr
  obtain ⟨hSl, hfc, kC, hkC, hkind⟩ := X.2.1.1 ci _ hcl
  obtain ⟨cf, kf, fi, f, hi, hsl⟩ := hSl k hk
  have hlay := X.1.2.2.2.2 _ (hin _ (u_in_lay hk))
  unfold u_lay at hlay
  rw [if_neg (by rw [hfin]; decide)] at hlay
  have hst := (u_facts hfc hkC (u_lays X.1.2.2.2.2 hin hk) hi).1
  have h6 := u_store hfc hkC hkind hlay hi (hty k hk) hn hfit
  refine W.putK X.1.1 X.1.2.1 (f := f) ⟨X.1.2.2.2.1, X.1.2.2.2.2 _ hl, ⟨_, _, _, hi⟩, hst⟩ (by rw [q2]; exact h6) q1 q3 (by rw [hsl]; exact k2_hasslot (q4 k hk)) rfl rfl hd fun H' e1 e2 e3 => ?_
  rw [hsl] at e1 ⊢
  exact kk H' _ (hI.set ⟨_, hcl, t_OB.to (V := updV (vp_V fs) k v) ⟨_, e1, q2, q3, t_set q4 hap hk v⟩ (fun j _ => vp_updV_set hlen v j)⟩ e2 e3) (hS.put e2 e3 (Nat.le_add_right _ _))
theorem zAst (X : Cz D cI cP cB cA p s m c cc nL args own) (hI : Im D b L H) (hS : va_S (fr9 b) s.heap H locs) {o N : Nat} {f : Nat → Int32} (ho : L[o]? = some (.inl (cI, N, .inl f))) {i x : Int32} (hin : vp_in i N) (hd : decode cc pc = .ok (.iastore, 1))
    (kk : ∀ (H1 : Heap) (locs1 : List Loc), Im D b (L.set o (.inl (cI, N, .inl (upd f i.toNatClampNeg x)))) H1 → va_S (fr9 b) s.heap H1 locs1 → W p l e R s m args below meth c H1 locs1 cells slots Q (F0 m (pc + 1) ls rest)) : W p l e R s m args below meth c H locs cells slots Q (F0 m pc ls (.int x :: .int i :: .ref (b + o) :: rest)) := by
  refine W.iast X.1.1 X.1.2.1 (hI.2 o _ ho) ((X.2.1.2 0 _ rfl).1 N (fun j => .int (f j))) (fun q => by cases q) (by show ¬ (i < 0 ∨ (arrV _ _ _).slots.size ≤ _); rw [arrV_size]; exact hin) rfl rfl hd fun H1 e1 z oq => ?_
  refine kk H1 _ (hI.set ?_ z oq) (hS.put z oq (Nat.le_add_right _ _))
  show H1[b + o]? = some (vp_cell _ _)
  rw [e1, vp_cell_i, vp_cell_i, arrV_store]
  congr 2
  funext q
  by_cases hq : q = i.toNatClampNeg
  · subst hq
    simp [updV, upd]
  · simp [updV, upd, hq]
theorem zAast (X : Cz D cI cP cB cA p s m c cc nL args own) (hI : Im D b L H) (hS : va_S (fr9 b) s.heap H locs) {o N t0 o2 ci : Nat} {c9 : ClassId} {r : vw_C} {vs : List Value} {f : Nat → Option Nat} (ho : L[o]? = some (.inl (c9, N, .inr (.inr (.inr (.inr f)))))) (ht : (tysW cI cP cB cA)[t0]? = some (c9, .object r.1)) (ho2 : L[o2]? = some (.inr (ci, vs))) (hc : vwCl[ci]? = some r) {i : Int32} (hin : vp_in i N) (hd : decode cc pc = .ok (.aastore, 1))
    (kk : ∀ (H1 : Heap) (locs1 : List Loc), Im D b (L.set o (.inl (c9, N, .inr (.inr (.inr (.inr (va_up f i.toNatClampNeg (some (b + o2))))))))) H1 → va_S (fr9 b) s.heap H1 locs1 → W p l e R s m args below meth c H1 locs1 cells slots Q (F0 m (pc + 1) ls rest)) : W p l e R s m args below meth c H locs cells slots Q (F0 m pc ls (.ref (b + o2) :: .int i :: .ref (b + o) :: rest)) := by
  have hlt : i.toNatClampNeg < N := Nat.not_le.mp fun q => hin (Or.inr q)
  have h0 : ¬ i < 0 := fun q => hin (Or.inl q)
  obtain ⟨r', hr', cellV, g1, g2, g3, -⟩ := hI.2 o2 _ ho2
  have hcls := (X.2.1.1 ci r hc).2
  obtain ⟨kA, comp, k1, k2, k3, -⟩ := (X.2.1.2 t0 _ ht).2
  have hcomp : comp = D.1 ci := Option.some.inj (k3.symm.trans hcls.1)
  subst hcomp
  obtain ⟨kC, hkC, -⟩ := hcls.2
  refine W.aast X.1.1 X.1.2.1 (hI.2 o _ ho) (fun q h => by cases h) (fun h => by cases h) k1 k2 rfl hkC ⟨h0, by show _ < (arrV _ _ _).slots.size; rw [arrV_size]; exact hlt⟩ g1 (fun q h => by rw [g3] at h; cases h) (by rw [g2]; exact hkC) (by rw [g2]; exact va_assign hcls) rfl rfl hd fun H1 e1 z oq => ?_
  refine kk H1 _ (hI.set ?_ z oq) (hS.put z oq (Nat.le_add_right _ _))
  show H1[b + o]? = some (vp_cell _ _)
  rw [e1, vp_cell_q, vp_cell_q, arrV_store]
  congr 2
  funext q
  by_cases hq : q = i.toNatClampNeg
  · subst hq
    simp [updV, va_up, va_rf]
  · simp [updV, va_up, hq]
theorem zObj (X : Cz D cI cP cB cA p s m c cc nL args own) {ix : Nat} {a : Nat} (hls : ls.size = nL) (hl : Cond.methodLink own ix objectInit ∈ tbs) (hfr : 1 ≤ R.frames) (hlo : (rest.map fun v => v.category).sum + 12 ≤ R.locals) (hd : decode cc pc = .ok (.invokespecial ix, 3))
    (kk : W p l e R s m args below meth c H locs cells slots Q (F0 m (pc + 3) ls rest)) : W p l e R s m args below meth c H locs cells slots Q (F0 m pc ls (.ref a :: rest)) :=
  W.objInit X.1.1 X.1.2.1 X.1.2.2.2.1 (X.1.2.2.2.2 _ hl) (X.1.2.2.2.2 _ tw_395) (X.1.2.2.2.2 _ tz_ob) rfl (hls.trans X.1.2.2.1.symm) rfl hd hfr (by show 2 * 0 + _ + 12 ≤ _; omega) kk
theorem zRet (X : Cz D cI cP cB cA p s m c cc nL args own) (hr : meth.sig.returnType = none) (hlk : meth.locks = false) (hI : Im D b L H) (hS : va_S (fr9 b) s.heap H locs) (hd : decode cc pc = .ok (.return_, 1)) : W p l e R s m args below meth c H locs cells slots (MQ below (QN D b L) args s cells slots (fr9 b)) (F0 m pc ls []) :=
  W.vret X.1.1 X.1.2.1 hr (fun t ht hW => ⟨⟨(), rfl, trivial, by show Im D b L t.heap; rw [ht]; exact hI⟩, hS.F ht⟩) hS.2.2 hd hlk
theorem preN (X : Cz D cI cP cB cA p s m c cc nL args own) {e0 : va_E} (hI : Im D b (L ++ [e0]) H) (av : List Value) : PreS s H (va_Pc av (fun U => Im D (b + L.length) [e0] U.heap ∧ Kz D cI cP cB cA U)) av :=
  ⟨fun a U g mk q => ⟨q.1, q.2.1, q.2.2.call⟩, fun U hU hW => ⟨rfl, by rw [hU]; exact hI.last, X.2.next hW⟩⟩
theorem aftN {e0 : va_E} {L1 : List va_E} {mc ms : Nat} {g0 : List Value} {a : Array Value} (hI : Im D b (L ++ [e0]) H) (hS : va_S (fr9 b) s.heap H locs) (hr : va_Run p l e R s m args below meth c H locs cells slots mc ms (F0 m pc ls g0) rest (QN D (b + L.length) L1 a) (fr9 (b + L.length)))
    (kk : ∀ (H1 : Heap) (locs1 : List Loc), Im D b (L ++ L1) H1 → va_S (fr9 b) s.heap H1 locs1 → W p l e R s m args below meth c H1 locs1 (cells + mc) (slots + ms) Q (F0 m (pc + 3) ls rest)) : W p l e R s m args below meth c H locs cells slots Q (F0 m pc ls g0) :=
  va_callv (post := fun (_ : Unit) => True) (B := fun _ t => Im D (b + L.length) L1 t.heap) (A1 := fr9 (b + L.length)) hr hS (fun _ _ h => Nat.le_trans (Nat.le_add_right _ _) h) (fun _ h => Nat.le_trans (Nat.le_add_right _ _) h) (fun u t H1 locs1 ht _ _ hB _ hk1 hS1 => kk H1 locs1 (hI.join (by have hB : Im D (b + L.length) L1 t.heap := hB; rw [ht] at hB; exact hB) (fun q hq => hk1 q (by rw [hI.1, List.length_append]; omega) (Nat.not_le.mpr hq))) hS1)
theorem zCallI (X : Cz D cI cP cB cA p s m c cc nL args own) {e0 : va_E} (hI : Im D b (L ++ [e0]) H) (hS : va_S (fr9 b) s.heap H locs) {y : MethodName} {cy : ByteArray} {nl k d mc ms ix : Nat} {L1 : List va_E} (As : List Value) {st : List Value} (M : CtN l D cI cP cB cA y cy nl d mc ms (.ref (b + L.length) :: As) (b + L.length) [e0] L1)
    (w : Cw y cy nl none k) (hl : Cond.methodLink own ix y ∈ tbs) (hi : Cond.instanceMethod y ∈ tbs) (hy : y.name = "<init>") (hR : d + 1 ≤ R.frames ∧ 8 + (nl + 11) + 44 * d ≤ R.locals) (hk : As.length = k) (hst : st = As.reverse ++ .ref (b + L.length) :: rest) (hls : ls.size = nL) (hrm : (rest.map fun v => v.category).sum ≤ 8) (hd : decode cc pc = .ok (.invokespecial ix, 3)) (hcs : cells + mc ≤ R.cells ∧ slots + ms ≤ R.slots)
    (kk : ∀ (H1 : Heap) (locs1 : List Loc), Im D b (L ++ L1) H1 → va_S (fr9 b) s.heap H1 locs1 → W p l e R s m args below meth c H1 locs1 (cells + mc) (slots + ms) Q (F0 m (pc + 3) ls rest)) : W p l e R s m args below meth c H locs cells slots Q (F0 m pc ls st) :=
  aftN hI hS (va_runI (As := As) (rest := rest) X.1 M ⟨callB_of k X.1.2.2.2.2 w.good rfl rfl rfl (X.1.2.2.2.2 _ w.2.1) (X.1.2.2.2.2 _ hl) w.2.2 hR, hy, X.1.2.2.2.2 _ hi⟩ (preN X hI _) rfl hk hls hst (lv_room hrm) hd hcs) kk
theorem zCallIN (X : Cz D cI cP cB cA p s m c cc nL args own) {e0 : va_E} (hI : Im D b (L ++ [e0]) H) (hS : va_S (fr9 b) s.heap H locs) {y : MethodName} {cy : ByteArray} {nl k d mc ms ix : Nat} {host : String} {L1 : List va_E} (As : List Value) {st : List Value} (M : CtN l D cI cP cB cA y cy nl d mc ms (.ref (b + L.length) :: As) (b + L.length) [e0] L1)
    (w : Cw y cy nl none k) (hl : Cond.methodLinkNest own ix y host ∈ tbs) (hi : Cond.instanceMethod y ∈ tbs) (hy : y.name = "<init>") (hR : d + 1 ≤ R.frames ∧ 8 + (nl + 11) + 44 * d ≤ R.locals) (hk : As.length = k) (hst : st = As.reverse ++ .ref (b + L.length) :: rest) (hls : ls.size = nL) (hrm : (rest.map fun v => v.category).sum ≤ 8) (hd : decode cc pc = .ok (.invokespecial ix, 3)) (hcs : cells + mc ≤ R.cells ∧ slots + ms ≤ R.slots)
    (kk : ∀ (H1 : Heap) (locs1 : List Loc), Im D b (L ++ L1) H1 → va_S (fr9 b) s.heap H1 locs1 → W p l e R s m args below meth c H1 locs1 (cells + mc) (slots + ms) Q (F0 m (pc + 3) ls rest)) : W p l e R s m args below meth c H locs cells slots Q (F0 m pc ls st) :=
  aftN hI hS (va_runIN (As := As) (rest := rest) X.1 M ⟨va_cnB k X.1.2.2.2.2 w.good rfl rfl rfl (va_Nw.of rfl (X.1.2.2.2.2 _ hl)) (X.1.2.2.2.2 _ w.2.1) w.2.2 hR, hy, X.1.2.2.2.2 _ hi⟩ (preN X hI _) rfl hk hls hst (lv_room hrm) hd hcs) kk
theorem zCallS (X : Cz D cI cP cB cA p s m c cc nL args own) {e0 : va_E} (hI : Im D b (L ++ [e0]) H) (hS : va_S (fr9 b) s.heap H locs) {y : MethodName} {cy : ByteArray} {nl k d mc ms ix : Nat} {L1 : List va_E} (As : List Value) {st : List Value} (M : CtN l D cI cP cB cA y cy nl d mc ms As (b + L.length) [e0] L1)
    (w : Cw y cy nl none k) (hl : Cond.methodLink own ix y ∈ tbs) (hi : Cond.static y ∈ tbs) (hR : d + 1 ≤ R.frames ∧ 8 + (nl + 11) + 44 * d ≤ R.locals) (hk : As.length = k) (hst : st = As.reverse ++ rest) (hls : ls.size = nL) (hrm : (rest.map fun v => v.category).sum ≤ 8) (hd : decode cc pc = .ok (.invokestatic ix, 3)) (hcs : cells + mc ≤ R.cells ∧ slots + ms ≤ R.slots)
    (kk : ∀ (H1 : Heap) (locs1 : List Loc), Im D b (L ++ L1) H1 → va_S (fr9 b) s.heap H1 locs1 → W p l e R s m args below meth c H1 locs1 (cells + mc) (slots + ms) Q (F0 m (pc + 3) ls rest)) : W p l e R s m args below meth c H locs cells slots Q (F0 m pc ls st) :=
  aftN hI hS (va_runS (As := As) (rest := rest) X.1 M ⟨callB_of k X.1.2.2.2.2 w.good rfl rfl rfl (X.1.2.2.2.2 _ w.2.1) (X.1.2.2.2.2 _ hl) w.2.2 hR, X.1.2.2.2.2 _ hi⟩ (preN X hI _) rfl hk hls hst (lv_room hrm) hd hcs) kk
/-- a maker's entry -/
theorem ctN {y : MethodName} {d mc ms : Nat} {av : List Value} {L0 L1 : List va_E} (hy : plainName y.cls = true) (hn : (lg_sl av).length ≤ nL)
    (body : ∀ (p : Program) (e : Env) (s : State) (m : MethodId) (args : Array Value) (below : List Frame) (meth : Method) (c : Code) (ls : Array Slot), Cz D cI cP cB cA p s m c cc nL args y.cls → meth.sig.returnType = none → meth.locks = false → meth.name = y.name → Im D b L0 s.heap → lv_has ls nL (lv_args 0 av) → W p l e (rmN d mc ms) s m args below meth c s.heap [] 0 0 (MQ below (QN D b L1) args s mc ms (fr9 b)) (F0 m 0 ls [])) : CtN l D cI cP cB cA y cc nL d mc ms av b L0 L1 := by
  refine Met.ofW (cc := cc) (maxL := nL) (ret := none) hy rfl ?_
  intro p e s m args below meth c s₁ B hml hv
  obtain ⟨rfl, hI, hK⟩ := hv
  have hl := lv_entry av (n := nL) hn
  rw [lg_entry_eq]
  generalize (lg_sl av ++ List.replicate (nL - (lg_sl av).length) Slot.unset).toArray = ls at hl ⊢
  exact body p e s m av.toArray below meth c ls ⟨⟨B.exec, B.bytes, hml, findClass_of_methodNamed B.named, hK.2.1.use _⟩, hK⟩ B.returns B.notSynchronized (name_of_methodNamed B.named B.method).1 hI hl
theorem ctNF {y : MethodName} {d mc ms : Nat} {av : List Value} {L0 L1 : List va_E} (hy : plainFor y = true) (hn : (lg_sl av).length ≤ nL)
    (body : ∀ (p : Program) (e : Env) (s : State) (m : MethodId) (args : Array Value) (below : List Frame) (meth : Method) (c : Code) (ls : Array Slot), Cz D cI cP cB cA p s m c cc nL args y.cls → meth.sig.returnType = none → meth.locks = false → Im D b L0 s.heap → lv_has ls nL (lv_args 0 av) → W p l e (rmN d mc ms) s m args below meth c s.heap [] 0 0 (MQ below (QN D b L1) args s mc ms (fr9 b)) (F0 m 0 ls [])) : CtN l D cI cP cB cA y cc nL d mc ms av b L0 L1 := by
  refine va_MetF (cc := cc) (maxL := nL) (ret := none) hy rfl ?_
  intro p e s m args below meth c s₁ B hml hv
  obtain ⟨rfl, hI, hK⟩ := hv
  have hl := lv_entry av (n := nL) hn
  rw [lg_entry_eq]
  generalize (lg_sl av ++ List.replicate (nL - (lg_sl av).length) Slot.unset).toArray = ls at hl ⊢
  exact body p e s m av.toArray below meth c ls ⟨⟨B.exec, B.bytes, hml, findClass_of_methodNamed B.named, hK.2.1.use _⟩, hK⟩ B.returns B.notSynchronized hI hl
/-- new int[n][k] -/
theorem zMul (X : Cz D cI cP cB cA p s m c cc nL args own) (hI : Im D b L H) (hS : va_S (fr9 b) s.heap H locs) {ix : Nat} (w1 : Cond.classLink own ix "[[I" ∈ tbs) {n k : Int32} {N K : Nat} (hn : ¬ n < 0) (hk : ¬ k < 0) (hN : n.toNatClampNeg = N) (hM : k.toNatClampNeg = K) (hb1 : N * 4 ≤ 536870912) (hb2 : K * 4 ≤ 536870912) (hcs : cells + (1 + N) ≤ R.cells) (hss : slots + (N + N * K) ≤ R.slots) (hd : decode cc pc = .ok (.multianewarray ix 2, 4))
    (kk : ∀ H1 : Heap, Im D b (L ++ (.inl (cA, N, .inr (.inr (.inr (.inr (fun i => if i < N then some (b + L.length + 1 + i) else none))))) :: List.replicate N (.inl (cI, K, .inl (fun _ => 0))))) H1 → va_S (fr9 b) s.heap H1 locs → W p l e R s m args below meth c H1 locs (cells + 1 + N) (slots + N + N * K) Q (F0 m (pc + 4) ls (.ref (b + L.length) :: rest))) : W p l e R s m args below meth c H locs cells slots Q (F0 m pc ls (.int k :: .int n :: rest)) := by
  subst hN
  subst hM
  intro T hT Xs
  obtain ⟨vm₁, cA', comp, -, fA, fC, hO, -, X', step⟩ := Xs.multianewarray2F (ty := .int) X.1.1 X.1.2.2.2.1 (X.1.2.2.2.2 _ w1) (va_AOA.use X.2.2.2.2.2) (X.1.2.2.2.2 _ tz_aI) (g := F0 m pc ls (.int k :: .int n :: rest)) rfl (by rw [X.1.2.1]; exact hd) rfl hn hk hb1 hb2 (by omega) rfl rfl hcs hss
  have ea : cA' = cA := Option.some.inj (fA.symm.trans (X.2.1.2 3 (cA, .array .int) rfl).2)
  have ec : comp = cI := Option.some.inj (fC.symm.trans (X.2.1.2 0 (cI, .int) rfl).2)
  subst ea
  subst ec
  generalize hF : Jvm.Free.Multi.fill (T.setVm vm₁) cA' comp n.toNatClampNeg k.toNatClampNeg (defaultValue .int) n.toNatClampNeg = F at X' step
  have hTh : (T.setVm vm₁).heap = H := hT
  obtain ⟨f1, f2, -, -⟩ := Jvm.Free.Multi.fill_facts (T.setVm vm₁) cA' comp n.toNatClampNeg k.toNatClampNeg (defaultValue .int) n.toNatClampNeg
  rw [hF, hTh, hI.1] at f1 f2
  have hold : ∀ x : Nat, x < b + L.length → F.heap[x]? = H[x]? := fun x hx => by
    have := Jvm.Free.Multi.fill_old (T.setVm vm₁) cA' comp n.toNatClampNeg k.toNatClampNeg (defaultValue .int) (a := x) (by rw [hTh, hI.1]; exact hx) n.toNatClampNeg
    rw [hF, hTh] at this
    exact this
  have hrow : ∀ j : Nat, j < n.toNatClampNeg → F.heap[b + L.length + 1 + j]? = some (vp_cell comp (k.toNatClampNeg, .inl (fun _ => 0))) := fun j hj => by
    have := Jvm.Free.Multi.fill_inner (T.setVm vm₁) cA' comp n.toNatClampNeg k.toNatClampNeg (defaultValue .int) n.toNatClampNeg j hj
    rw [hF, hTh, hI.1] at this
    rw [this, vp_cell_i, ← arrV_new]
    rfl
  rw [vr_outer] at f2
  have hIm : Im D b (L ++ (.inl (cA', n.toNatClampNeg, .inr (.inr (.inr (.inr (fun i => if i < n.toNatClampNeg then some (b + L.length + 1 + i) else none))))) :: List.replicate n.toNatClampNeg (.inl (comp, k.toNatClampNeg, .inl (fun _ => 0))))) F.heap := by
    refine ⟨by rw [f1, List.length_append, List.length_cons, List.length_replicate]; omega, fun o e ho => ?_⟩
    by_cases c1 : o < L.length
    · rw [List.getElem?_append_left c1] at ho
      exact (hI.2 o e ho).kept (hold _ (by omega))
    · rw [List.getElem?_append_right (by omega)] at ho
      by_cases c2 : o = L.length
      · subst c2
        rw [Nat.sub_self] at ho
        cases ho
        exact f2
      · obtain ⟨j, hj⟩ : ∃ j, o - L.length = j + 1 := ⟨o - L.length - 1, by omega⟩
        rw [hj, List.getElem?_cons_succ, List.getElem?_replicate] at ho
        by_cases c3 : j < n.toNatClampNeg
        · rw [if_pos c3] at ho
          cases ho
          show F.heap[b + o]? = _
          rw [show b + o = b + L.length + 1 + j by omega]
          exact hrow j c3
        · rw [if_neg c3] at ho
          cases ho
  obtain ⟨t, a1, b1⟩ := kk F.heap hIm ⟨by rw [f1]; have := hS.1; have := hI.1; omega, fun x h1 h2 => (hold x (by have := hS.1; have := hI.1; omega)).trans (hS.2.1 x h1 h2), hS.2.2⟩ F rfl X'
  refine ⟨t, step t ?_, b1⟩
  have e : T.heap.size = b + L.length := by rw [hT, hI.1]
  rw [e]
  exact a1
end MADE2
