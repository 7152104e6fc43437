/-! words of the tables that stay true while the machine goes on -/
def isNest : Cond → Bool
  | .fieldLinkNest .. => true
  | .methodLinkNest .. => true
  | _ => false
def stw (w : Cond) : Bool := goodWord w || isNest w
def tbs : List Cond := lw_tbl.filter stw
theorem tbs_of {w : Cond} (h : w ∈ lw_tbl) (h2 : stw w = true) : w ∈ tbs := List.mem_filter.mpr ⟨h, h2⟩
theorem stw_warm {w : Cond} {a a' : Array Value} {s U : State} (h : stw w = true) (hW : s.WarmedH U.vm) (hb : w.before a s = true) : w.before a' U = true := by
  unfold stw at h
  rw [Bool.or_eq_true] at h
  rcases h with h | h
  · exact word_at hW (good_of_word h) hb
  · cases w <;> first | exact absurd h Bool.false_ne_true | exact va_Nw.use rfl (va_Nw.warmF hW (va_Nw.of rfl hb)) | exact va_Nw.use rfl (va_Nw.warmM hW (va_Nw.of rfl hb))
def TB (U : State) : Prop := ∀ w ∈ tbs, w.before #[] U = true
theorem TB.use {U : State} (h : TB U) (args : Array Value) : ∀ w ∈ tbs, w.before args U = true := fun w hw => stw_warm (List.mem_filter.mp hw).2 (State.WarmedH.refl U) (h w hw)
theorem TB.warm {s U : State} (h : TB s) (hW : s.WarmedH U.vm) : TB U := fun w hw => stw_warm (List.mem_filter.mp hw).2 hW (h w hw)
theorem TB.of {args : Array Value} {s : State} (h : ∀ w ∈ lw_tbl, w.before args s = true) : TB s := fun w hw => stw_warm (List.mem_filter.mp hw).2 (State.WarmedH.refl s) (h w (List.mem_filter.mp hw).1)
/-! worlds whose cells stand at ad 0 .. ad (n - 1) -/
def wl (n : Nat) (ad : Nat → Nat) (cf : Nat → va_E) : va_W := (List.range n).map (fun o => (ad o, cf o))
theorem wl_get {n : Nat} {ad : Nat → Nat} {cf : Nat → va_E} {o : Nat} (h : o < n) : (wl n ad cf)[o]? = some (ad o, cf o) := by
  unfold wl
  rw [List.getElem?_map, List.getElem?_range h]
  rfl
theorem wl_at {n : Nat} {ad : Nat → Nat} {cf : Nat → va_E} {o : Nat} {e : va_E} (h : o < n) (he : cf o = e) : (wl n ad cf)[o]? = some (ad o, e) := by
  rw [wl_get h, he]
theorem wl_some {n : Nat} {ad : Nat → Nat} {cf : Nat → va_E} {o : Nat} {q : Nat × va_E} (h : (wl n ad cf)[o]? = some q) : o < n ∧ q = (ad o, cf o) := by
  have hl := (List.getElem?_eq_some_iff.mp h).1
  have hl2 : o < n := by simpa [wl] using hl
  rw [wl_get hl2] at h
  exact ⟨hl2, (Option.some.inj h).symm⟩
theorem wl_set {n : Nat} {ad : Nat → Nat} {cf cf' : Nat → va_E} {o : Nat} {e : va_E} (he : cf' o = e) (hj : ∀ j, j < n → j ≠ o → cf' j = cf j) : (wl n ad cf).set o (ad o, e) = wl n ad cf' := by
  apply List.ext_getElem?
  intro j
  by_cases hn : j < n
  · rw [wl_get hn]
    by_cases h : j = o
    · subst h
      rw [List.getElem?_set_self (by simpa [wl] using hn), he]
    · rw [List.getElem?_set_ne (Ne.symm h), wl_get hn, hj j hn h]
  · rw [List.getElem?_eq_none (by simp [wl]; omega), List.getElem?_eq_none (by simp [wl]; omega)]
def Ar (n : Nat) (ad : Nat → Nat) : Nat → Prop := fun q => ∃ o, o < n ∧ q = ad o
def Inj (n : Nat) (ad : Nat → Nat) : Prop := ∀ i j, i < n → j < n → ad i = ad j → i = j
theorem wl_D {n : Nat} {ad : Nat → Nat} {cf : Nat → va_E} (h : Inj n ad) : va_D (Ar n ad) (wl n ad cf) := by
  refine ⟨fun i j x y hi hj hxy => ?_, fun k q hk => ?_⟩
  · obtain ⟨h1, rfl⟩ := wl_some hi
    obtain ⟨h2, rfl⟩ := wl_some hj
    exact h i j h1 h2 hxy
  · obtain ⟨h1, rfl⟩ := wl_some hk
    exact ⟨k, h1, rfl⟩
/-! the two tables of the class -/
def litL : Nat → Int32
  | 0 => 112
  | 1 => 101
  | 2 => 111
  | 3 => 100
  | 4 => 115
  | _ => 105
def litC : Nat → Int32
  | 0 => -1431655766
  | 1 => -858993460
  | 2 => -252645136
  | 3 => -16711936
  | _ => -65536
def Sta (tL tC : Nat) (A : Nat → Prop) (U : State) (H : Heap) : Prop := va_Z "LastPage" "LETTERS" "[I" (.ref tL) A U H ∧ va_T .int tL 6 (fun j => .int (litL j)) A U H ∧ va_Z "LastPage" "CASES_WITH" "[I" (.ref tC) A U H ∧ va_T .int tC 5 (fun j => .int (litC j)) A U H
theorem Sta.kept {tL tC : Nat} {A : Nat → Prop} {U : State} {H H1 : Heap} (h : Sta tL tC A U H) (hq : ∀ a : Nat, a < H.size → ¬ A a → H1[a]? = H[a]?) : Sta tL tC A U H1 := ⟨h.1.kept hq, h.2.1.kept hq, h.2.2.1.kept hq, h.2.2.2.kept hq⟩
theorem Sta.moved {tL tC : Nat} {A : Nat → Prop} {u U : State} {H : Heap} (h : Sta tL tC A u H) (hv : u.vm.Alike U.vm) : Sta tL tC A U H := ⟨h.1.moved hv, h.2.1.moved hv, h.2.2.1.moved hv, h.2.2.2.moved hv⟩
abbrev tysW (cI cP cB cA : ClassId) : List (ClassId × FieldType) := [(cI, .int), (cP, .object "LastPage$Page"), (cB, .object "LastPage$Book"), (cA, .array .int)]
def Kx (D : va_G) (cI cP cB cA : ClassId) (n : Nat) (ad : Nat → Nat) (tL tC : Nat) (U : State) : Prop := va_K D vwCl (tysW cI cP cB cA) U ∧ TB U ∧ Sta tL tC (Ar n ad) U U.heap ∧ Inj n ad
theorem Kx.next {D : va_G} {cI cP cB cA : ClassId} {n : Nat} {ad : Nat → Nat} {tL tC : Nat} {s U : State} {H : Heap} {locs : List Loc} (h : Kx D cI cP cB cA n ad tL tC s) (hS : va_S (Ar n ad) s.heap H locs) (hU : U.heap = H) (hW : s.WarmedH U.vm) : Kx D cI cP cB cA n ad tL tC U := by
  refine ⟨va_K.moved hW.alike h.1, h.2.1.warm hW, ?_, h.2.2.2⟩
  rw [hU]
  exact (h.2.2.1.kept (fun a h1 h2 => hS.2.1 a h1 h2)).moved hW.alike
theorem Kx.call {D : va_G} {cI cP cB cA : ClassId} {n : Nat} {ad : Nat → Nat} {tL tC : Nat} {U : State} {g : JFrame} {mk : MethodId} {a : Array Value} (h : Kx D cI cP cB cA n ad tL tC U) : Kx D cI cP cB cA n ad tL tC (U.calling g mk a) :=
  ⟨va_K.moved (u := U) (U := U.calling g mk a) (Vm.Alike.refl U.vm) h.1, h.2.1.warm (U := U.calling g mk a) (State.WarmedH.refl U), (h.2.2.1.moved (U := U.calling g mk a) (Vm.Alike.refl U.vm)), h.2.2.2⟩
def Cx (D : va_G) (cI cP cB cA : ClassId) (n : Nat) (ad : Nat → Nat) (tL tC : Nat) (p : Program) (s : State) (m : MethodId) (c : Code) (cc : ByteArray) (nL : Nat) (args : Array Value) (own : String) : Prop :=
  CallFix p m c cc nL s args tbs own ∧ Kx D cI cP cB cA n ad tL tC s
def Pw (D : va_G) (cI cP cB cA : ClassId) (n : Nat) (ad : Nat → Nat) (tL tC : Nat) (cf : Nat → va_E) (U : State) : Prop := va_P D vwCl (wl n ad cf) U.heap ∧ Kx D cI cP cB cA n ad tL tC U
def rmD (d : Nat) : Room := { frames := d, cells := 0, slots := 0, locals := 44 * d }
def QI (D : va_G) (n : Nat) (ad : Nat → Nat) (r : Int32) (cf : Nat → va_E) : Array Value → State → Outcome → State → Prop := va_Qi (fun r' (_ : Unit) => r' = r) (fun _ t => va_P D vwCl (wl n ad cf) t.heap) (Ar n ad)
def QL (D : va_G) (n : Nat) (ad : Nat → Nat) (r : Int64) (cf : Nat → va_E) : Array Value → State → Outcome → State → Prop := va_Ql (fun r' (_ : Unit) => r' = r) (fun _ t => va_P D vwCl (wl n ad cf) t.heap) (Ar n ad)
def QV (D : va_G) (n : Nat) (ad : Nat → Nat) (cf : Nat → va_E) : Array Value → State → Outcome → State → Prop := va_Qv (fun (_ : Unit) => True) (fun _ t => va_P D vwCl (wl n ad cf) t.heap) (Ar n ad)
def Ct (l : Launch) (D : va_G) (cI cP cB cA : ClassId) (n : Nat) (ad : Nat → Nat) (tL tC : Nat) (y : MethodName) (cc : ByteArray) (nL : Nat) (ret : Option FieldType) (d : Nat) (av : List Value) (cf : Nat → va_E) (Qc : Array Value → State → Outcome → State → Prop) : Prop :=
  Met l y [Cond.code y cc nL ret] (rmD d) (va_Pc av (Pw D cI cP cB cA n ad tL tC cf)) Qc 0 0 (Ar n ad)
section BASE
variable {p : Program} {l : Launch} {e : Env} {R : Room} {s : State} {m : MethodId} {args : Array Value} {below : List Frame} {meth : Method} {c : Code} {H : Heap} {locs : List Loc} {cells slots : Nat} {Q : State → Prop}
variable {D : va_G} {cI cP cB cA : ClassId} {n : Nat} {ad : Nat → Nat} {tL tC : Nat} {cc : ByteArray} {nL : Nat} {own : String} {cf cf' : Nat → va_E} {pc : Nat} {ls : Array Slot} {rest : List Value}
/-- reads of a field -/
theorem gW (X : Cx D cI cP cB cA n ad tL tC p s m c cc nL args own) (hP : va_P D vwCl (wl n ad cf) H) {o ci k N ix : Nat} {fs : List Value} {C : String} {T : u_T} (ho : o < n) (hc : cf o = .inr (ci, fs)) (hcl : vwCl[ci]? = some (C, T, N)) (hin : ∀ w ∈ u_ws C T N, w ∈ tbs) (hk : k < N) {v : Value} (hv : fs[k]? = some v)
    (hl : Cond.fieldLink own ix (T k).1 (T k).2.1 (T k).2.2.1 ∈ tbs) (hd : decode cc pc = .ok (.getfield ix, 3)) (kk : W p l e R s m args below meth c H locs cells slots Q (F0 m (pc + 3) ls (v :: rest))) : W p l e R s m args below meth c H locs cells slots Q (F0 m pc ls (.ref (ad o) :: rest)) :=
  va_get (D := D) X.1.1 X.1.2.1 X.1.2.2.2.2 hin X.1.2.2.2.1 X.2.1 hP o (wl_at ho hc) hcl k hk (X.1.2.2.2.2 _ hl) (fun _ h => h) hv hd kk
theorem gWN (X : Cx D cI cP cB cA n ad tL tC p s m c cc nL args own) (hP : va_P D vwCl (wl n ad cf) H) {o ci k N ix : Nat} {fs : List Value} {C host : String} {T : u_T} (ho : o < n) (hc : cf o = .inr (ci, fs)) (hcl : vwCl[ci]? = some (C, T, N)) (hin : ∀ w ∈ u_ws C T N, w ∈ tbs) (hk : k < N) {v : Value} (hv : fs[k]? = some v)
    (hl : Cond.fieldLinkNest own ix (T k).1 (T k).2.1 (T k).2.2.1 host ∈ tbs) (hd : decode cc pc = .ok (.getfield ix, 3)) (kk : W p l e R s m args below meth c H locs cells slots Q (F0 m (pc + 3) ls (v :: rest))) : W p l e R s m args below meth c H locs cells slots Q (F0 m pc ls (.ref (ad o) :: rest)) :=
  va_getN (D := D) X.1.1 X.1.2.1 X.1.2.2.2.2 hin X.1.2.2.2.1 X.2.1 hP o (wl_at ho hc) hcl k hk (X.1.2.2.2.2 _ hl) (fun _ h => h) hv hd kk
/-- writes of a field -/
theorem pW (X : Cx D cI cP cB cA n ad tL tC p s m c cc nL args own) (hP : va_P D vwCl (wl n ad cf) H) (hS : va_S (Ar n ad) s.heap H locs) {o ci k N ix : Nat} {fs : List Value} {C : String} {T : u_T} (ho : o < n) (hc : cf o = .inr (ci, fs)) (hcl : vwCl[ci]? = some (C, T, N)) (hin : ∀ w ∈ u_ws C T N, w ∈ tbs) (ty0 : Nat → FieldType) (hty : ∀ k, k < N → parseFieldDescriptor (T k).2.2.1 = some (ty0 k)) (hnm : ∀ a, a < N → ∀ b, b < N → a ≠ b → (T a).2.1 ≠ (T b).2.1) (hk : k < N) (hfin : (T k).2.2.2 = false) {v : Value} (hn : narrow (ty0 k) v = v) (hfit : fits (ty0 k) v = true) (hlen : k < fs.length)
    (he : cf' o = .inr (ci, fs.set k v)) (hj : ∀ j, j < n → j ≠ o → cf' j = cf j)
    (hl : Cond.fieldLink own ix (T k).1 (T k).2.1 (T k).2.2.1 ∈ tbs) (hd : decode cc pc = .ok (.putfield ix, 3)) (kk : ∀ (H1 : Heap) (locs1 : List Loc), va_P D vwCl (wl n ad cf') H1 → va_S (Ar n ad) s.heap H1 locs1 → W p l e R s m args below meth c H1 locs1 cells slots Q (F0 m (pc + 3) ls rest)) : W p l e R s m args below meth c H locs cells slots Q (F0 m pc ls (v :: .ref (ad o) :: rest)) :=
  va_put (D := D) X.1.1 X.1.2.1 X.1.2.2.2.2 hin ty0 hty hnm X.1.2.2.2.1 X.2.1 hP (wl_D X.2.2.2.2) hS o (wl_at ho hc) hcl k hk (X.1.2.2.2.2 _ hl) (fun _ h => h) hfin (hty k hk) hn hfit hlen hd (fun H1 locs1 h1 _ h3 => kk H1 locs1 (by rw [wl_set he hj] at h1; exact h1) h3)
theorem pWN (X : Cx D cI cP cB cA n ad tL tC p s m c cc nL args own) (hP : va_P D vwCl (wl n ad cf) H) (hS : va_S (Ar n ad) s.heap H locs) {o ci k N ix : Nat} {fs : List Value} {C host : String} {T : u_T} (ho : o < n) (hc : cf o = .inr (ci, fs)) (hcl : vwCl[ci]? = some (C, T, N)) (hin : ∀ w ∈ u_ws C T N, w ∈ tbs) (ty0 : Nat → FieldType) (hty : ∀ k, k < N → parseFieldDescriptor (T k).2.2.1 = some (ty0 k)) (hnm : ∀ a, a < N → ∀ b, b < N → a ≠ b → (T a).2.1 ≠ (T b).2.1) (hk : k < N) (hfin : (T k).2.2.2 = false) {v : Value} (hn : narrow (ty0 k) v = v) (hfit : fits (ty0 k) v = true) (hlen : k < fs.length)
    (he : cf' o = .inr (ci, fs.set k v)) (hj : ∀ j, j < n → j ≠ o → cf' j = cf j)
    (hl : Cond.fieldLinkNest own ix (T k).1 (T k).2.1 (T k).2.2.1 host ∈ tbs) (hd : decode cc pc = .ok (.putfield ix, 3)) (kk : ∀ (H1 : Heap) (locs1 : List Loc), va_P D vwCl (wl n ad cf') H1 → va_S (Ar n ad) s.heap H1 locs1 → W p l e R s m args below meth c H1 locs1 cells slots Q (F0 m (pc + 3) ls rest)) : W p l e R s m args below meth c H locs cells slots Q (F0 m pc ls (v :: .ref (ad o) :: rest)) :=
  va_putN (D := D) X.1.1 X.1.2.1 X.1.2.2.2.2 hin ty0 hty hnm X.1.2.2.2.1 X.2.1 hP (wl_D X.2.2.2.2) hS o (wl_at ho hc) hcl k hk (X.1.2.2.2.2 _ hl) (fun _ h => h) hfin (hty k hk) hn hfit hlen hd (fun H1 locs1 h1 _ h3 => kk H1 locs1 (by rw [wl_set he hj] at h1; exact h1) h3)
/-- arrays of ints -/
theorem aR (X : Cx D cI cP cB cA n ad tL tC p s m c cc nL args own) (hP : va_P D vwCl (wl n ad cf) H) {o N : Nat} {f : Nat → Int32} (ho : o < n) (hc : cf o = .inl (cI, N, .inl f)) {i : Int32} (hin : vp_in i N) (hd : decode cc pc = .ok (.iaload, 1))
    (kk : W p l e R s m args below meth c H locs cells slots Q (F0 m (pc + 1) ls (.int (f i.toNatClampNeg) :: rest))) : W p l e R s m args below meth c H locs cells slots Q (F0 m pc ls (.int i :: .ref (ad o) :: rest)) :=
  va_iald (D := D) X.1.1 X.1.2.1 X.2.1 hP o 0 (wl_at ho hc) rfl hin hd kk
theorem aWr (X : Cx D cI cP cB cA n ad tL tC p s m c cc nL args own) (hP : va_P D vwCl (wl n ad cf) H) (hS : va_S (Ar n ad) s.heap H locs) {o N : Nat} {f : Nat → Int32} (ho : o < n) (hc : cf o = .inl (cI, N, .inl f)) {i x : Int32} (hin : vp_in i N)
    (he : cf' o = .inl (cI, N, .inl (upd f i.toNatClampNeg x))) (hj : ∀ j, j < n → j ≠ o → cf' j = cf j) (hd : decode cc pc = .ok (.iastore, 1))
    (kk : ∀ (H1 : Heap) (locs1 : List Loc), va_P D vwCl (wl n ad cf') H1 → va_S (Ar n ad) s.heap H1 locs1 → W p l e R s m args below meth c H1 locs1 cells slots Q (F0 m (pc + 1) ls rest)) : W p l e R s m args below meth c H locs cells slots Q (F0 m pc ls (.int x :: .int i :: .ref (ad o) :: rest)) :=
  va_iast (D := D) X.1.1 X.1.2.1 X.2.1 hP (wl_D X.2.2.2.2) hS o 0 (wl_at ho hc) rfl hin hd (fun H1 locs1 h1 _ h3 => kk H1 locs1 (by rw [wl_set he hj] at h1; exact h1) h3)
theorem aLen (X : Cx D cI cP cB cA n ad tL tC p s m c cc nL args own) (hP : va_P D vwCl (wl n ad cf) H) {o N : Nat} {f : Nat → Int32} (ho : o < n) (hc : cf o = .inl (cI, N, .inl f)) (hd : decode cc pc = .ok (.arraylength, 1))
    (kk : W p l e R s m args below meth c H locs cells slots Q (F0 m (pc + 1) ls (.int (Int32.ofNat N) :: rest))) : W p l e R s m args below meth c H locs cells slots Q (F0 m pc ls (.ref (ad o) :: rest)) :=
  va_alen (D := D) X.1.1 X.1.2.1 X.2.1 hP o 0 (wl_at ho hc) (ty := .int) rfl rfl hd kk
theorem aRq (X : Cx D cI cP cB cA n ad tL tC p s m c cc nL args own) (hP : va_P D vwCl (wl n ad cf) H) {o N t0 : Nat} {c9 : ClassId} {C : String} {f : Nat → Option Nat} (ho : o < n) (hc : cf o = .inl (c9, N, .inr (.inr (.inr (.inr f))))) (ht : (tysW cI cP cB cA)[t0]? = some (c9, .object C)) {i : Int32} (hin : vp_in i N) {a : Nat} (ha : f i.toNatClampNeg = some a) (hd : decode cc pc = .ok (.aaload, 1))
    (kk : W p l e R s m args below meth c H locs cells slots Q (F0 m (pc + 1) ls (.ref a :: rest))) : W p l e R s m args below meth c H locs cells slots Q (F0 m pc ls (.int i :: .ref (ad o) :: rest)) :=
  va_aldq (D := D) (C := C) X.1.1 X.1.2.1 X.2.1 hP o t0 (wl_at ho hc) ht hin hd (by rw [ha]; exact kk)
theorem aRg (X : Cx D cI cP cB cA n ad tL tC p s m c cc nL args own) (hP : va_P D vwCl (wl n ad cf) H) {o N : Nat} {f : Nat → Option Nat} (ho : o < n) (hc : cf o = .inl (cA, N, .inr (.inr (.inr (.inr f))))) {i : Int32} (hin : vp_in i N) {a : Nat} (ha : f i.toNatClampNeg = some a) (hd : decode cc pc = .ok (.aaload, 1))
    (kk : W p l e R s m args below meth c H locs cells slots Q (F0 m (pc + 1) ls (.ref a :: rest))) : W p l e R s m args below meth c H locs cells slots Q (F0 m pc ls (.int i :: .ref (ad o) :: rest)) := by
  have hlt : i.toNatClampNeg < N := Nat.not_le.mp fun q => hin (Or.inr q)
  have h0 := hP o _ (wl_at ho hc)
  exact W.aald (v := .ref a) (ty := .array .int) X.1.1 X.1.2.1 h0 ((X.2.1.2 3 (cA, .array .int) rfl).1 N (fun j => va_rf (f j))) rfl (fun q => by cases q) (by show ¬ (i < 0 ∨ (arrV _ _ _).slots.size ≤ _); rw [arrV_size]; exact hin) (by show (arrV _ _ _).slots[_]? = _; rw [arrV_read _ _ hlt, ha]; rfl) rfl rfl hd kk
/-- the tables -/
theorem gsL (X : Cx D cI cP cB cA n ad tL tC p s m c cc nL args own) (hS : va_S (Ar n ad) s.heap H locs) {ix : Nat} (hl : Cond.fieldLink own ix "LastPage" "LETTERS" "[I" ∈ tbs) (hd : decode cc pc = .ok (.getstatic ix, 3)) (kk : W p l e R s m args below meth c H locs cells slots Q (F0 m (pc + 3) ls (.ref tL :: rest))) : W p l e R s m args below meth c H locs cells slots Q (F0 m pc ls rest) :=
  va_gets X.1.1 X.1.2.1 X.2.2.2.1.1 hS X.1.2.2.2.1 (X.1.2.2.2.2 _ hl) (fun _ h => h) hd kk
theorem gsLN (X : Cx D cI cP cB cA n ad tL tC p s m c cc nL args own) (hS : va_S (Ar n ad) s.heap H locs) {ix : Nat} {host : String} (hl : Cond.fieldLinkNest own ix "LastPage" "LETTERS" "[I" host ∈ tbs) (hd : decode cc pc = .ok (.getstatic ix, 3)) (kk : W p l e R s m args below meth c H locs cells slots Q (F0 m (pc + 3) ls (.ref tL :: rest))) : W p l e R s m args below meth c H locs cells slots Q (F0 m pc ls rest) :=
  va_getsN X.1.1 X.1.2.1 X.2.2.2.1.1 hS X.1.2.2.2.1 (X.1.2.2.2.2 _ hl) (fun _ h => h) hd kk
theorem gsCN (X : Cx D cI cP cB cA n ad tL tC p s m c cc nL args own) (hS : va_S (Ar n ad) s.heap H locs) {ix : Nat} {host : String} (hl : Cond.fieldLinkNest own ix "LastPage" "CASES_WITH" "[I" host ∈ tbs) (hd : decode cc pc = .ok (.getstatic ix, 3)) (kk : W p l e R s m args below meth c H locs cells slots Q (F0 m (pc + 3) ls (.ref tC :: rest))) : W p l e R s m args below meth c H locs cells slots Q (F0 m pc ls rest) :=
  va_getsN X.1.1 X.1.2.1 X.2.2.2.1.2.2.1 hS X.1.2.2.2.1 (X.1.2.2.2.2 _ hl) (fun _ h => h) hd kk
theorem sR_L (X : Cx D cI cP cB cA n ad tL tC p s m c cc nL args own) (hS : va_S (Ar n ad) s.heap H locs) {i : Int32} (hin : vp_in i 6) (hd : decode cc pc = .ok (.iaload, 1)) (kk : W p l e R s m args below meth c H locs cells slots Q (F0 m (pc + 1) ls (.int (litL i.toNatClampNeg) :: rest))) : W p l e R s m args below meth c H locs cells slots Q (F0 m pc ls (.int i :: .ref tL :: rest)) :=
  va_ti X.1.1 X.1.2.1 X.2.2.2.1.2.1 hS hin rfl hd kk
theorem sR_C (X : Cx D cI cP cB cA n ad tL tC p s m c cc nL args own) (hS : va_S (Ar n ad) s.heap H locs) {i : Int32} (hin : vp_in i 5) (hd : decode cc pc = .ok (.iaload, 1)) (kk : W p l e R s m args below meth c H locs cells slots Q (F0 m (pc + 1) ls (.int (litC i.toNatClampNeg) :: rest))) : W p l e R s m args below meth c H locs cells slots Q (F0 m pc ls (.int i :: .ref tC :: rest)) :=
  va_ti X.1.1 X.1.2.1 X.2.2.2.1.2.2.2 hS hin rfl hd kk
theorem sLen_L (X : Cx D cI cP cB cA n ad tL tC p s m c cc nL args own) (hS : va_S (Ar n ad) s.heap H locs) (hd : decode cc pc = .ok (.arraylength, 1)) (kk : W p l e R s m args below meth c H locs cells slots Q (F0 m (pc + 1) ls (.int 6 :: rest))) : W p l e R s m args below meth c H locs cells slots Q (F0 m pc ls (.ref tL :: rest)) :=
  va_tlen X.1.1 X.1.2.1 X.2.2.2.1.2.1 hS rfl hd kk
/-- ends -/
theorem rtI (X : Cx D cI cP cB cA n ad tL tC p s m c cc nL args own) (hr : meth.sig.returnType = some .int) (hlk : meth.locks = false) (hP : va_P D vwCl (wl n ad cf) H) (hS : va_S (Ar n ad) s.heap H locs) {v : Int32} (hd : decode cc pc = .ok (.ireturn, 1)) : W p l e R s m args below meth c H locs 0 0 (MQ below (QI D n ad v cf) args s 0 0 (Ar n ad)) (F0 m pc ls [.int v]) :=
  W.iret (v := v) X.1.1 X.1.2.1 hr (fun t ht hW => ⟨⟨v, (), rfl, rfl, by show va_P D vwCl (wl n ad cf) t.heap; rw [ht]; exact hP⟩, hS.F ht⟩) hS.2.2 hd hlk
theorem rtZ (X : Cx D cI cP cB cA n ad tL tC p s m c cc nL args own) (hr : meth.sig.returnType = some .boolean) (hlk : meth.locks = false) (hP : va_P D vwCl (wl n ad cf) H) (hS : va_S (Ar n ad) s.heap H locs) {v : Int32} (hv : v = 0 ∨ v = 1) (hd : decode cc pc = .ok (.ireturn, 1)) : W p l e R s m args below meth c H locs 0 0 (MQ below (QI D n ad v cf) args s 0 0 (Ar n ad)) (F0 m pc ls [.int v]) :=
  W.zret (v := v) X.1.1 X.1.2.1 hr (by rcases hv with rfl | rfl <;> rfl) (fun t ht hW => ⟨⟨v, (), rfl, rfl, by show va_P D vwCl (wl n ad cf) t.heap; rw [ht]; exact hP⟩, hS.F ht⟩) hS.2.2 hd hlk
theorem rtL (X : Cx D cI cP cB cA n ad tL tC p s m c cc nL args own) (hr : meth.sig.returnType = some .long) (hlk : meth.locks = false) (hP : va_P D vwCl (wl n ad cf) H) (hS : va_S (Ar n ad) s.heap H locs) {v : Int64} (hd : decode cc pc = .ok (.lreturn, 1)) : W p l e R s m args below meth c H locs 0 0 (MQ below (QL D n ad v cf) args s 0 0 (Ar n ad)) (F0 m pc ls [.long v]) :=
  W.lret (v := v) X.1.1 X.1.2.1 hr (fun t ht hW => ⟨⟨v, (), rfl, rfl, by show va_P D vwCl (wl n ad cf) t.heap; rw [ht]; exact hP⟩, hS.F ht⟩) hS.2.2 hd hlk
theorem rtV (X : Cx D cI cP cB cA n ad tL tC p s m c cc nL args own) (hr : meth.sig.returnType = none) (hlk : meth.locks = false) (hP : va_P D vwCl (wl n ad cf) H) (hS : va_S (Ar n ad) s.heap H locs) (hd : decode cc pc = .ok (.return_, 1)) : W p l e R s m args below meth c H locs 0 0 (MQ below (QV D n ad cf) args s 0 0 (Ar n ad)) (F0 m pc ls []) :=
  W.vret X.1.1 X.1.2.1 hr (fun t ht hW => ⟨⟨(), rfl, trivial, by show va_P D vwCl (wl n ad cf) t.heap; rw [ht]; exact hP⟩, hS.F ht⟩) hS.2.2 hd hlk
/-- calls: what a callee needs of the tables -/
def Cw (y : MethodName) (cy : ByteArray) (nl : Nat) (ret : Option FieldType) (k : Nat) : Prop := Cond.code y cy nl ret ∈ tbs ∧ Cond.initialized y.cls ∈ tbs ∧ y.cls ≠ "java/lang/invoke/MethodHandle" ∧ y.cls ≠ "java/lang/invoke/VarHandle" ∧ (parseMethodDescriptor y.desc).map (fun d => d.parameters.length) = some k
theorem Cw.good {y : MethodName} {cy : ByteArray} {nl : Nat} {ret : Option FieldType} {k : Nat} (h : Cw y cy nl ret k) : GoodIn tbs [Cond.code y cy nl ret] := by
  intro w hw
  rw [List.mem_singleton.mp hw]
  exact ⟨h.1, Or.inl rfl⟩
theorem Cw.b (X : Cx D cI cP cB cA n ad tL tC p s m c cc nL args own) {y : MethodName} {cy : ByteArray} {nl k d ix : Nat} {ret : Option FieldType} (h : Cw y cy nl ret k) (hl : Cond.methodLink own ix y ∈ tbs) (hR : d + 1 ≤ R.frames ∧ 8 + (nl + 11) + 44 * d ≤ R.locals) : CallB R s args own ix y cy nl ret [Cond.code y cy nl ret] (rmD d) 0 0 k :=
  callB_of k X.1.2.2.2.2 h.good rfl rfl rfl (X.1.2.2.2.2 _ h.2.1) (X.1.2.2.2.2 _ hl) h.2.2 hR
theorem Cw.nst (X : Cx D cI cP cB cA n ad tL tC p s m c cc nL args own) {y : MethodName} {cy : ByteArray} {nl k d ix : Nat} {host : String} {ret : Option FieldType} (h : Cw y cy nl ret k) (hl : Cond.methodLinkNest own ix y host ∈ tbs) (hR : d + 1 ≤ R.frames ∧ 8 + (nl + 11) + 44 * d ≤ R.locals) : va_CN R s args own ix y host cy nl ret [Cond.code y cy nl ret] (rmD d) 0 0 k :=
  va_cnB k X.1.2.2.2.2 h.good rfl rfl rfl (va_Nw.of rfl (X.1.2.2.2.2 _ hl)) (X.1.2.2.2.2 _ h.2.1) h.2.2 hR
def Fits9 (R : Room) (nl d : Nat) : Prop := d + 1 ≤ R.frames ∧ 8 + (nl + 11) + 44 * d ≤ R.locals
theorem fits9 {nl d d' : Nat} (h : d + 1 ≤ d') (h2 : nl ≤ 25) : Fits9 (rmD d') nl d := ⟨h, by show _ ≤ 44 * d'; omega⟩
theorem preS9 (X : Cx D cI cP cB cA n ad tL tC p s m c cc nL args own) (hP : va_P D vwCl (wl n ad cf) H) (hS : va_S (Ar n ad) s.heap H locs) (av : List Value) : PreS s H (va_Pc av (Pw D cI cP cB cA n ad tL tC cf)) av :=
  ⟨fun a U g mk q => ⟨q.1, q.2.1, Kx.call q.2.2⟩, fun U hU hW => ⟨rfl, by rw [hU]; exact hP, X.2.next hS hU hW⟩⟩
theorem preV9 (X : Cx D cI cP cB cA n ad tL tC p s m c cc nL args own) (hP : va_P D vwCl (wl n ad cf) H) (hS : va_S (Ar n ad) s.heap H locs) {o ci : Nat} {fs : List Value} {q : vw_C} (ho : o < n) (hc : cf o = .inr (ci, fs)) (hq : vwCl[ci]? = some q) (av : List Value) : PreV s H q.1 (ad o) (va_Pc (.ref (ad o) :: av) (Pw D cI cP cB cA n ad tL tC cf)) av :=
  ⟨fun a U g mk q => ⟨q.1, q.2.1, Kx.call q.2.2⟩, va_recv X.2.1 hP hq (wl_at ho hc), fun U hU hW => ⟨rfl, by rw [hU]; exact hP, X.2.next hS hU hW⟩⟩
theorem aftI {cf2 : Nat → va_E} {r : Int32} {g0 : List Value} {a : Array Value} (hS : va_S (Ar n ad) s.heap H locs) (hr : va_Run p l e R s m args below meth c H locs cells slots 0 0 (F0 m pc ls g0) rest (QI D n ad r cf2 a) (Ar n ad))
    (kk : ∀ (H1 : Heap) (locs1 : List Loc), va_P D vwCl (wl n ad cf2) H1 → va_S (Ar n ad) s.heap H1 locs1 → W p l e R s m args below meth c H1 locs1 cells slots Q (F0 m (pc + 3) ls (.int r :: rest))) : W p l e R s m args below meth c H locs cells slots Q (F0 m pc ls g0) :=
  va_calli (post := fun r' (_ : Unit) => r' = r) (B := fun _ t => va_P D vwCl (wl n ad cf2) t.heap) (A1 := Ar n ad) hr hS (fun _ _ h => h) (fun _ h => h) (fun r' u t H1 locs1 ht _ hp hB _ _ hS1 => by subst hp; exact kk H1 locs1 (by have hB : va_P D vwCl (wl n ad cf2) t.heap := hB; rw [ht] at hB; exact hB) hS1)
theorem aftL {cf2 : Nat → va_E} {r : Int64} {g0 : List Value} {a : Array Value} (hS : va_S (Ar n ad) s.heap H locs) (hr : va_Run p l e R s m args below meth c H locs cells slots 0 0 (F0 m pc ls g0) rest (QL D n ad r cf2 a) (Ar n ad))
    (kk : ∀ (H1 : Heap) (locs1 : List Loc), va_P D vwCl (wl n ad cf2) H1 → va_S (Ar n ad) s.heap H1 locs1 → W p l e R s m args below meth c H1 locs1 cells slots Q (F0 m (pc + 3) ls (.long r :: rest))) : W p l e R s m args below meth c H locs cells slots Q (F0 m pc ls g0) :=
  va_calll (post := fun r' (_ : Unit) => r' = r) (B := fun _ t => va_P D vwCl (wl n ad cf2) t.heap) (A1 := Ar n ad) hr hS (fun _ _ h => h) (fun _ h => h) (fun r' u t H1 locs1 ht _ hp hB _ _ hS1 => by subst hp; exact kk H1 locs1 (by have hB : va_P D vwCl (wl n ad cf2) t.heap := hB; rw [ht] at hB; exact hB) hS1)
theorem aftV {cf2 : Nat → va_E} {g0 : List Value} {a : Array Value} (hS : va_S (Ar n ad) s.heap H locs) (hr : va_Run p l e R s m args below meth c H locs cells slots 0 0 (F0 m pc ls g0) rest (QV D n ad cf2 a) (Ar n ad))
    (kk : ∀ (H1 : Heap) (locs1 : List Loc), va_P D vwCl (wl n ad cf2) H1 → va_S (Ar n ad) s.heap H1 locs1 → W p l e R s m args below meth c H1 locs1 cells slots Q (F0 m (pc + 3) ls rest)) : W p l e R s m args below meth c H locs cells slots Q (F0 m pc ls g0) :=
  va_callv (post := fun (_ : Unit) => True) (B := fun _ t => va_P D vwCl (wl n ad cf2) t.heap) (A1 := Ar n ad) hr hS (fun _ _ h => h) (fun _ h => h) (fun u t H1 locs1 ht _ hp hB _ _ hS1 => kk H1 locs1 (by have hB : va_P D vwCl (wl n ad cf2) t.heap := hB; rw [ht] at hB; exact hB) hS1)
/-- a virtual call runs -/
theorem cV (X : Cx D cI cP cB cA n ad tL tC p s m c cc nL args own) (hP : va_P D vwCl (wl n ad cf) H) (hS : va_S (Ar n ad) s.heap H locs) {y : MethodName} {cy : ByteArray} {nl k d ix : Nat} {ret : Option FieldType} {Qc : Array Value → State → Outcome → State → Prop} {o ci : Nat} {fs : List Value} {q : vw_C} (av : List Value) {st : List Value} (M : Ct l D cI cP cB cA n ad tL tC y cy nl ret d (.ref (ad o) :: av) cf Qc)
    (w : Cw y cy nl ret k) (hl : Cond.methodLink own ix y ∈ tbs) (hi : Cond.instanceMethod y ∈ tbs) (hs : Cond.selects q.1 y y ∈ tbs) (ho : o < n) (hc : cf o = .inr (ci, fs)) (hq : vwCl[ci]? = some q) (hR : Fits9 R nl d) (hk : av.length = k) (hst : st = av.reverse ++ .ref (ad o) :: rest) (hls : ls.size = nL) (hrm : (rest.map fun v => v.category).sum ≤ 8) (hd : decode cc pc = .ok (.invokevirtual ix, 3)) (hcs : cells ≤ R.cells ∧ slots ≤ R.slots) :
    va_Run p l e R s m args below meth c H locs cells slots 0 0 (F0 m pc ls st) rest (Qc (Value.ref (ad o) :: av).toArray) (Ar n ad) :=
  va_runV (As := av) (rest := rest) X.1 M ⟨w.b X hl hR, X.1.2.2.2.2 _ hi, X.1.2.2.2.2 _ hs⟩ (preV9 X hP hS ho hc hq av) rfl hk hls hst (lv_room hrm) hd hcs
theorem cVN (X : Cx D cI cP cB cA n ad tL tC p s m c cc nL args own) (hP : va_P D vwCl (wl n ad cf) H) (hS : va_S (Ar n ad) s.heap H locs) {y : MethodName} {cy : ByteArray} {nl k d ix : Nat} {host : String} {ret : Option FieldType} {Qc : Array Value → State → Outcome → State → Prop} {o ci : Nat} {fs : List Value} {q : vw_C} (av : List Value) {st : List Value} (M : Ct l D cI cP cB cA n ad tL tC y cy nl ret d (.ref (ad o) :: av) cf Qc)
    (w : Cw y cy nl ret k) (hl : Cond.methodLinkNest own ix y host ∈ tbs) (hi : Cond.instanceMethod y ∈ tbs) (hs : Cond.selects q.1 y y ∈ tbs) (ho : o < n) (hc : cf o = .inr (ci, fs)) (hq : vwCl[ci]? = some q) (hR : Fits9 R nl d) (hk : av.length = k) (hst : st = av.reverse ++ .ref (ad o) :: rest) (hls : ls.size = nL) (hrm : (rest.map fun v => v.category).sum ≤ 8) (hd : decode cc pc = .ok (.invokevirtual ix, 3)) (hcs : cells ≤ R.cells ∧ slots ≤ R.slots) :
    va_Run p l e R s m args below meth c H locs cells slots 0 0 (F0 m pc ls st) rest (Qc (Value.ref (ad o) :: av).toArray) (Ar n ad) :=
  va_runVN (As := av) (rest := rest) X.1 M ⟨w.nst X hl hR, X.1.2.2.2.2 _ hi, X.1.2.2.2.2 _ hs⟩ (preV9 X hP hS ho hc hq av) rfl hk hls hst (lv_room hrm) hd hcs
theorem cS (X : Cx D cI cP cB cA n ad tL tC p s m c cc nL args own) (hP : va_P D vwCl (wl n ad cf) H) (hS : va_S (Ar n ad) s.heap H locs) {y : MethodName} {cy : ByteArray} {nl k d ix : Nat} {ret : Option FieldType} {Qc : Array Value → State → Outcome → State → Prop} (av : List Value) {st : List Value} (M : Ct l D cI cP cB cA n ad tL tC y cy nl ret d av cf Qc)
    (w : Cw y cy nl ret k) (hl : Cond.methodLink own ix y ∈ tbs) (hi : Cond.static y ∈ tbs) (hR : Fits9 R nl d) (hk : av.length = k) (hst : st = av.reverse ++ rest) (hls : ls.size = nL) (hrm : (rest.map fun v => v.category).sum ≤ 8) (hd : decode cc pc = .ok (.invokestatic ix, 3)) (hcs : cells ≤ R.cells ∧ slots ≤ R.slots) :
    va_Run p l e R s m args below meth c H locs cells slots 0 0 (F0 m pc ls st) rest (Qc av.toArray) (Ar n ad) :=
  va_runS (As := av) (rest := rest) X.1 M ⟨w.b X hl hR, X.1.2.2.2.2 _ hi⟩ (preS9 X hP hS av) rfl hk hls hst (lv_room hrm) hd hcs
theorem cSN (X : Cx D cI cP cB cA n ad tL tC p s m c cc nL args own) (hP : va_P D vwCl (wl n ad cf) H) (hS : va_S (Ar n ad) s.heap H locs) {y : MethodName} {cy : ByteArray} {nl k d ix : Nat} {host : String} {ret : Option FieldType} {Qc : Array Value → State → Outcome → State → Prop} (av : List Value) {st : List Value} (M : Ct l D cI cP cB cA n ad tL tC y cy nl ret d av cf Qc)
    (w : Cw y cy nl ret k) (hl : Cond.methodLinkNest own ix y host ∈ tbs) (hi : Cond.static y ∈ tbs) (hR : Fits9 R nl d) (hk : av.length = k) (hst : st = av.reverse ++ rest) (hls : ls.size = nL) (hrm : (rest.map fun v => v.category).sum ≤ 8) (hd : decode cc pc = .ok (.invokestatic ix, 3)) (hcs : cells ≤ R.cells ∧ slots ≤ R.slots) :
    va_Run p l e R s m args below meth c H locs cells slots 0 0 (F0 m pc ls st) rest (Qc av.toArray) (Ar n ad) :=
  va_runSN (As := av) (rest := rest) X.1 M ⟨w.nst X hl hR, X.1.2.2.2.2 _ hi, trivial⟩ (preS9 X hP hS av) rfl hk hls hst (lv_room hrm) hd hcs
/-- a method's entry -/
theorem ctOf {y : MethodName} {ret : Option FieldType} {d : Nat} {av : List Value} {Qc : Array Value → State → Outcome → State → Prop} (hy : plainName y.cls = true) (hn : (lg_sl av).length ≤ nL)
    (body : ∀ (p : Program) (e : Env) (s : State) (m : MethodId) (args : Array Value) (below : List Frame) (meth : Method) (c : Code) (ls : Array Slot), Cx D cI cP cB cA n ad tL tC p s m c cc nL args y.cls → meth.sig.returnType = ret → meth.locks = false → va_P D vwCl (wl n ad cf) s.heap → lv_has ls nL (lv_args 0 av) → W p l e (rmD d) s m args below meth c s.heap [] 0 0 (MQ below Qc args s 0 0 (Ar n ad)) (F0 m 0 ls [])) : Ct l D cI cP cB cA n ad tL tC y cc nL ret d av cf Qc := by
  refine Met.ofW (cc := cc) (maxL := nL) (ret := ret) hy rfl ?_
  intro p e s m args below meth c s₁ B hml hv
  obtain ⟨rfl, hP, hK⟩ := hv
  have hl := lv_entry av (n := nL) hn
  rw [lg_entry_eq]
  generalize (lg_sl av ++ List.replicate (nL - (lg_sl av).length) Slot.unset).toArray = ls at hl ⊢
  exact body p e s m av.toArray below meth c ls ⟨⟨B.exec, B.bytes, hml, findClass_of_methodNamed B.named, hK.2.1.use _⟩, hK⟩ B.returns B.notSynchronized hP hl
theorem ctOfF {y : MethodName} {ret : Option FieldType} {d : Nat} {av : List Value} {Qc : Array Value → State → Outcome → State → Prop} (hy : plainFor y = true) (hn : (lg_sl av).length ≤ nL)
    (body : ∀ (p : Program) (e : Env) (s : State) (m : MethodId) (args : Array Value) (below : List Frame) (meth : Method) (c : Code) (ls : Array Slot), Cx D cI cP cB cA n ad tL tC p s m c cc nL args y.cls → meth.sig.returnType = ret → meth.locks = false → va_P D vwCl (wl n ad cf) s.heap → lv_has ls nL (lv_args 0 av) → W p l e (rmD d) s m args below meth c s.heap [] 0 0 (MQ below Qc args s 0 0 (Ar n ad)) (F0 m 0 ls [])) : Ct l D cI cP cB cA n ad tL tC y cc nL ret d av cf Qc := by
  refine va_MetF (cc := cc) (maxL := nL) (ret := ret) hy rfl ?_
  intro p e s m args below meth c s₁ B hml hv
  obtain ⟨rfl, hP, hK⟩ := hv
  have hl := lv_entry av (n := nL) hn
  rw [lg_entry_eq]
  generalize (lg_sl av ++ List.replicate (nL - (lg_sl av).length) Slot.unset).toArray = ls at hl ⊢
  exact body p e s m av.toArray below meth c ls ⟨⟨B.exec, B.bytes, hml, findClass_of_methodNamed B.named, hK.2.1.use _⟩, hK⟩ B.returns B.notSynchronized hP hl
end BASE
/-! pure words of the programs -/
abbrev Stt : Type := (Nat → Nat → Nat → Int32) × (Nat → Int64)
def put (S : Stt) (F a i : Nat) (x : Int32) : Stt := (fun F' => if F' = F then (fun a' => if a' = a then upd (S.1 F a) i x else S.1 F a') else S.1 F', S.2)
def putA (S : Stt) (F a : Nat) (f : Nat → Int32) : Stt := (fun F' => if F' = F then (fun a' => if a' = a then f else S.1 F a') else S.1 F', S.2)
def putL (S : Stt) (k : Nat) (x : Int64) : Stt := (S.1, vp_updL S.2 k x)
def ixb (i : Int32) (n : Nat) : Bool := decide (¬ i < 0) && decide (i.toNatClampNeg < n)
theorem ixb_in {i : Int32} {n : Nat} (h : ixb i n = true) : vp_in i n := by
  unfold ixb at h
  simp only [Bool.and_eq_true, decide_eq_true_eq] at h
  rintro (q | q)
  · exact h.1 q
  · exact absurd q (Nat.not_le.mpr h.2)
theorem ixb_lt {i : Int32} {n : Nat} (h : ixb i n = true) : i.toNatClampNeg < n := by
  unfold ixb at h
  simp only [Bool.and_eq_true, decide_eq_true_eq] at h
  exact h.2
def grd {α : Type} (b : Bool) (x : Option α) : Option α := if b = true then x else none
theorem grd_some {α : Type} {b : Bool} {x : Option α} {r : α} (h : grd b x = some r) : b = true ∧ x = some r := by
  unfold grd at h
  by_cases hb : b = true
  · rw [if_pos hb] at h
    exact ⟨hb, h⟩
  · rw [if_neg hb] at h
    cases h
theorem bind_some {α β : Type} {x : Option α} {f : α → Option β} {r : β} (h : x.bind f = some r) : ∃ q, x = some q ∧ f q = some r := Option.bind_eq_some_iff.mp h
theorem put_get (S : Stt) (F a i : Nat) (x : Int32) : (put S F a i x).1 F a = upd (S.1 F a) i x := by simp [put]
theorem put_ne {S : Stt} {F a i F' a' i' : Nat} {x : Int32} (h : ¬ (F' = F ∧ a' = a ∧ i' = i)) : (put S F a i x).1 F' a' i' = S.1 F' a' i' := by
  unfold put
  by_cases h1 : F' = F
  · subst h1
    by_cases h2 : a' = a
    · subst h2
      have h3 : i' ≠ i := fun q => h ⟨rfl, rfl, q⟩
      simp [upd, h3]
    · simp [h2]
  · simp [h1]
theorem putA_ne {S : Stt} {F a F' a' i' : Nat} {f : Nat → Int32} (h : ¬ (F' = F ∧ a' = a)) : (putA S F a f).1 F' a' i' = S.1 F' a' i' := by
  unfold putA
  by_cases h1 : F' = F
  · subst h1
    have h2 : a' ≠ a := fun q => h ⟨rfl, q⟩
    simp [h2]
  · simp [h1]
