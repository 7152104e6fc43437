/-! the law's calls: the class and the reference, each in its own cells -/
theorem Sta.mono {tL tC : Nat} {A A' : Nat → Prop} {U : State} {H : Heap} (h : Sta tL tC A U H) (hA : ∀ q, A' q → A q) : Sta tL tC A' U H := by
  obtain ⟨⟨a1, a2, a3, a4, a5, a6, a7, a8, a9, a10, a11, a12, a13, a14⟩, ⟨b1, b2, b3, b4, b5, b6, b7, b8⟩, ⟨d1, d2, d3, d4, d5, d6, d7, d8, d9, d10, d11, d12, d13, d14⟩, ⟨e1, e2, e3, e4, e5, e6, e7, e8⟩⟩ := h
  exact ⟨⟨a1, a2, a3, a4, a5, a6, a7, a8, a9, a10, a11, a12, a13, fun z => a14 (hA _ z)⟩, ⟨b1, b2, b3, b4, b5, b6, b7, fun z => b8 (hA _ z)⟩, ⟨d1, d2, d3, d4, d5, d6, d7, d8, d9, d10, d11, d12, d13, fun z => d14 (hA _ z)⟩, ⟨e1, e2, e3, e4, e5, e6, e7, fun z => e8 (hA _ z)⟩⟩
theorem ArC {b q : Nat} (h : Ar 79 (aC b) q) : b ≤ q ∧ q < b + 79 := by
  obtain ⟨o, h1, rfl⟩ := h
  have := offC_lt o h1
  unfold aC
  omega
theorem ArM {b q : Nat} (h : Ar 19 (aM b) q) : b + 79 ≤ q ∧ q < b + 98 := by
  obtain ⟨o, h1, rfl⟩ := h
  unfold aM
  omega
def Lw (D : va_G) (cI cP cB cA : ClassId) (tL tC : Nat) (p : Program) (s : State) (m : MethodId) (meth : Method) (c : Code) (b L : Nat) (xs : Nat → Int32) : Prop :=
  Cz D cI cP cB cA p s m c code 4 #[Value.ref b] RL ∧ Sta tL tC (fr9 s.heap.size) s s.heap ∧ va_X b L xs s s.heap ∧ b < s.heap.size ∧ meth.sig.returnType = ret ∧ meth.locks = false
def Wd (D : va_G) (cI cP cB cA : ClassId) (s : State) (S M : Stt) (H : Heap) (locs : List Loc) : Prop :=
  va_P D vwCl (wl 79 (aC s.heap.size) (cfC (aC s.heap.size) cI cP cB cA S)) H ∧ va_P D vwCl (wl 19 (aM s.heap.size) (cfM (aM s.heap.size) cI M)) H ∧ va_S (fr9 s.heap.size) s.heap H locs
section LAWR
variable {p : Program} {l : Launch} {e : Env} {s : State} {m : MethodId} {below : List Frame} {meth : Method} {c : Code} {H : Heap} {locs : List Loc} {cells slots : Nat} {Q : State → Prop}
variable {D : va_G} {cI cP cB cA : ClassId} {tL tC b L : Nat} {xs : Nat → Int32} {pc : Nat} {ls : Array Slot} {rest : List Value} {S M S' M' : Stt}
theorem LKx (X : Lw D cI cP cB cA tL tC p s m meth c b L xs) (hS : va_S (fr9 s.heap.size) s.heap H locs) {n : Nat} {ad : Nat → Nat} (hi : Inj n ad) (ha : ∀ q, Ar n ad q → s.heap.size ≤ q) {U : State} (hU : U.heap = H) (hW : s.WarmedH U.vm) : Kx D cI cP cB cA n ad tL tC U := by
  refine ⟨va_K.moved hW.alike X.1.2.1, X.1.2.2.1.warm hW, ?_, hi⟩
  rw [hU]
  exact ((X.2.1.kept (fun a h1 h2 => hS.2.1 a h1 h2)).moved hW.alike).mono ha
theorem preL (X : Lw D cI cP cB cA tL tC p s m meth c b L xs) (hS : va_S (fr9 s.heap.size) s.heap H locs) {n : Nat} {ad : Nat → Nat} {cf : Nat → va_E} (hi : Inj n ad) (ha : ∀ q, Ar n ad q → s.heap.size ≤ q) (hP : va_P D vwCl (wl n ad cf) H) {o ci : Nat} {fs : List Value} {q : vw_C} (ho : o < n) (hc : cf o = .inr (ci, fs)) (hq : vwCl[ci]? = some q) (av : List Value) : PreV s H q.1 (ad o) (va_Pc (.ref (ad o) :: av) (Pw D cI cP cB cA n ad tL tC cf)) av :=
  ⟨fun a U g mk q => ⟨q.1, q.2.1, Kx.call q.2.2⟩, va_recv X.1.2.1 hP hq (wl_at ho hc), fun U hU hW => ⟨rfl, by rw [hU]; exact hP, LKx X hS hi ha hU hW⟩⟩
def FitL (nl d : Nat) : Prop := d + 1 ≤ 2048 ∧ 8 + (nl + 11) + 44 * d ≤ 84000
theorem runL (X : Lw D cI cP cB cA tL tC p s m meth c b L xs) (hS : va_S (fr9 s.heap.size) s.heap H locs) {n : Nat} {ad : Nat → Nat} {cf : Nat → va_E} (hi : Inj n ad) (ha : ∀ q, Ar n ad q → s.heap.size ≤ q) (hP : va_P D vwCl (wl n ad cf) H) {ci : Nat} {fs : List Value} {q : vw_C} (hn : 0 < n) (hc : cf 0 = .inr (ci, fs)) (hq : vwCl[ci]? = some q) (av : List Value) {st : List Value} {y : MethodName} {cy : ByteArray} {nl k d ix : Nat} {ret : Option FieldType} {Qc : Array Value → State → Outcome → State → Prop} (Mt : Ct l D cI cP cB cA n ad tL tC y cy nl ret d (.ref (ad 0) :: av) cf Qc)
    (w : Cw y cy nl ret k) (hl : Cond.methodLink RL ix y ∈ tbs) (him : Cond.instanceMethod y ∈ tbs) (hs : Cond.selects q.1 y y ∈ tbs) (hR : FitL nl d) (hk : av.length = k) (hst : st = av.reverse ++ .ref (ad 0) :: rest) (hls : ls.size = 4) (hrm : (rest.map fun v => v.category).sum ≤ 8) (hd : decode code pc = .ok (.invokevirtual ix, 3)) (hcs : cells ≤ 600000 ∧ slots ≤ 7302250) :
    va_Run p l e room_1 s m #[Value.ref b] below meth c H locs cells slots 0 0 (F0 m pc ls st) rest (Qc (Value.ref (ad 0) :: av).toArray) (Ar n ad) :=
  va_runV (As := av) (rest := rest) X.1.1 Mt ⟨callB_of k X.1.1.2.2.2.2 w.good rfl rfl rfl (X.1.1.2.2.2.2 _ w.2.1) (X.1.1.2.2.2.2 _ hl) w.2.2 hR, X.1.1.2.2.2.2 _ him, X.1.1.2.2.2.2 _ hs⟩ (preL X hS hi ha hP hn hc hq av) rfl hk hls hst (lv_room hrm) hd hcs
theorem keepM (hM : va_P D vwCl (wl 19 (aM s.heap.size) (cfM (aM s.heap.size) cI M)) H) {H1 : Heap} (hk : ∀ q : Nat, q < H.size → ¬ Ar 79 (aC s.heap.size) q → H1[q]? = H[q]?) : va_P D vwCl (wl 19 (aM s.heap.size) (cfM (aM s.heap.size) cI M)) H1 := by
  refine hM.kept (fun k x hx => hk x.1 ((hM k x hx).lt) (fun z => ?_))
  obtain ⟨h1, rfl⟩ := wl_some hx
  have z1 := ArC z
  have z2 := ArM (b := s.heap.size) ⟨k, h1, rfl⟩
  omega
theorem keepC (hC : va_P D vwCl (wl 79 (aC s.heap.size) (cfC (aC s.heap.size) cI cP cB cA S)) H) {H1 : Heap} (hk : ∀ q : Nat, q < H.size → ¬ Ar 19 (aM s.heap.size) q → H1[q]? = H[q]?) : va_P D vwCl (wl 79 (aC s.heap.size) (cfC (aC s.heap.size) cI cP cB cA S)) H1 := by
  refine hC.kept (fun k x hx => hk x.1 ((hC k x hx).lt) (fun z => ?_))
  obtain ⟨h1, rfl⟩ := wl_some hx
  have z1 := ArM z
  have z2 := ArC (b := s.heap.size) ⟨k, h1, rfl⟩
  omega
theorem lawC (X : Lw D cI cP cB cA tL tC p s m meth c b L xs) (hW : Wd D cI cP cB cA s S M H locs) (av : List Value) {st : List Value} {y : MethodName} {cy : ByteArray} {nl k d ix : Nat} {ret : Option FieldType} {r : Int32} (Mt : Ct l D cI cP cB cA 79 (aC s.heap.size) tL tC y cy nl ret d (.ref (aC s.heap.size 0) :: av) (cfC (aC s.heap.size) cI cP cB cA S) (QI D 79 (aC s.heap.size) r (cfC (aC s.heap.size) cI cP cB cA S')))
    (w : Cw y cy nl ret k) (hl : Cond.methodLink RL ix y ∈ tbs) (him : Cond.instanceMethod y ∈ tbs) (hs : Cond.selects RX7 y y ∈ tbs) (hR : FitL nl d) (hk : av.length = k) (hst : st = av.reverse ++ .ref (aC s.heap.size 0) :: rest) (hls : ls.size = 4) (hrm : (rest.map fun v => v.category).sum ≤ 8) (hd : decode code pc = .ok (.invokevirtual ix, 3)) (hcs : cells ≤ 600000 ∧ slots ≤ 7302250)
    (kk : ∀ (H1 : Heap) (locs1 : List Loc), Wd D cI cP cB cA s S' M H1 locs1 → W p l e room_1 s m #[Value.ref b] below meth c H1 locs1 cells slots Q (F0 m (pc + 3) ls (.int r :: rest))) : W p l e room_1 s m #[Value.ref b] below meth c H locs cells slots Q (F0 m pc ls st) :=
  va_calli (post := fun r' (_ : Unit) => r' = r) (B := fun _ t => va_P D vwCl (wl 79 (aC s.heap.size) (cfC (aC s.heap.size) cI cP cB cA S')) t.heap) (A1 := Ar 79 (aC s.heap.size)) (runL X hW.2.2 (aC_inj _) (fun q h => (ArC h).1) hW.1 (by decide) (ci := 7) rfl rfl av Mt w hl him hs hR hk hst hls hrm hd hcs) hW.2.2 (fun q _ h => (ArC h).1) (fun q h => (ArC h).1) (fun r' u t H1 locs1 ht _ hp hB _ hk1 hS1 => by
    subst hp
    exact kk H1 locs1 ⟨by have hB : va_P D vwCl (wl 79 (aC s.heap.size) (cfC (aC s.heap.size) cI cP cB cA S')) t.heap := hB; rw [ht] at hB; exact hB, keepM hW.2.1 hk1, hS1⟩)
theorem lawM (X : Lw D cI cP cB cA tL tC p s m meth c b L xs) (hW : Wd D cI cP cB cA s S M H locs) (av : List Value) {st : List Value} {y : MethodName} {cy : ByteArray} {nl k d ix : Nat} {ret : Option FieldType} {r : Int32} (Mt : Ct l D cI cP cB cA 19 (aM s.heap.size) tL tC y cy nl ret d (.ref (aM s.heap.size 0) :: av) (cfM (aM s.heap.size) cI M) (QI D 19 (aM s.heap.size) r (cfM (aM s.heap.size) cI M')))
    (w : Cw y cy nl ret k) (hl : Cond.methodLink RL ix y ∈ tbs) (him : Cond.instanceMethod y ∈ tbs) (hs : Cond.selects RX8 y y ∈ tbs) (hR : FitL nl d) (hk : av.length = k) (hst : st = av.reverse ++ .ref (aM s.heap.size 0) :: rest) (hls : ls.size = 4) (hrm : (rest.map fun v => v.category).sum ≤ 8) (hd : decode code pc = .ok (.invokevirtual ix, 3)) (hcs : cells ≤ 600000 ∧ slots ≤ 7302250)
    (kk : ∀ (H1 : Heap) (locs1 : List Loc), Wd D cI cP cB cA s S M' H1 locs1 → W p l e room_1 s m #[Value.ref b] below meth c H1 locs1 cells slots Q (F0 m (pc + 3) ls (.int r :: rest))) : W p l e room_1 s m #[Value.ref b] below meth c H locs cells slots Q (F0 m pc ls st) :=
  va_calli (post := fun r' (_ : Unit) => r' = r) (B := fun _ t => va_P D vwCl (wl 19 (aM s.heap.size) (cfM (aM s.heap.size) cI M')) t.heap) (A1 := Ar 19 (aM s.heap.size)) (runL X hW.2.2 (aM_inj _) (fun q h => by have := (ArM h).1; omega) hW.2.1 (by decide) (ci := 8) rfl rfl av Mt w hl him hs hR hk hst hls hrm hd hcs) hW.2.2 (fun q _ h => by have := (ArM h).1; show s.heap.size ≤ q; omega) (fun q h => by have := (ArM h).1; show s.heap.size ≤ q; omega) (fun r' u t H1 locs1 ht _ hp hB _ hk1 hS1 => by
    subst hp
    exact kk H1 locs1 ⟨keepC hW.1 hk1, by have hB : va_P D vwCl (wl 19 (aM s.heap.size) (cfM (aM s.heap.size) cI M')) t.heap := hB; rw [ht] at hB; exact hB, hS1⟩)
theorem lawCL (X : Lw D cI cP cB cA tL tC p s m meth c b L xs) (hW : Wd D cI cP cB cA s S M H locs) (av : List Value) {st : List Value} {y : MethodName} {cy : ByteArray} {nl k d ix : Nat} {ret : Option FieldType} {r : Int64} (Mt : Ct l D cI cP cB cA 79 (aC s.heap.size) tL tC y cy nl ret d (.ref (aC s.heap.size 0) :: av) (cfC (aC s.heap.size) cI cP cB cA S) (QL D 79 (aC s.heap.size) r (cfC (aC s.heap.size) cI cP cB cA S')))
    (w : Cw y cy nl ret k) (hl : Cond.methodLink RL ix y ∈ tbs) (him : Cond.instanceMethod y ∈ tbs) (hs : Cond.selects RX7 y y ∈ tbs) (hR : FitL nl d) (hk : av.length = k) (hst : st = av.reverse ++ .ref (aC s.heap.size 0) :: rest) (hls : ls.size = 4) (hrm : (rest.map fun v => v.category).sum ≤ 8) (hd : decode code pc = .ok (.invokevirtual ix, 3)) (hcs : cells ≤ 600000 ∧ slots ≤ 7302250)
    (kk : ∀ (H1 : Heap) (locs1 : List Loc), Wd D cI cP cB cA s S' M H1 locs1 → W p l e room_1 s m #[Value.ref b] below meth c H1 locs1 cells slots Q (F0 m (pc + 3) ls (.long r :: rest))) : W p l e room_1 s m #[Value.ref b] below meth c H locs cells slots Q (F0 m pc ls st) :=
  va_calll (post := fun r' (_ : Unit) => r' = r) (B := fun _ t => va_P D vwCl (wl 79 (aC s.heap.size) (cfC (aC s.heap.size) cI cP cB cA S')) t.heap) (A1 := Ar 79 (aC s.heap.size)) (runL X hW.2.2 (aC_inj _) (fun q h => (ArC h).1) hW.1 (by decide) (ci := 7) rfl rfl av Mt w hl him hs hR hk hst hls hrm hd hcs) hW.2.2 (fun q _ h => (ArC h).1) (fun q h => (ArC h).1) (fun r' u t H1 locs1 ht _ hp hB _ hk1 hS1 => by
    subst hp
    exact kk H1 locs1 ⟨by have hB : va_P D vwCl (wl 79 (aC s.heap.size) (cfC (aC s.heap.size) cI cP cB cA S')) t.heap := hB; rw [ht] at hB; exact hB, keepM hW.2.1 hk1, hS1⟩)
theorem lawML (X : Lw D cI cP cB cA tL tC p s m meth c b L xs) (hW : Wd D cI cP cB cA s S M H locs) (av : List Value) {st : List Value} {y : MethodName} {cy : ByteArray} {nl k d ix : Nat} {ret : Option FieldType} {r : Int64} (Mt : Ct l D cI cP cB cA 19 (aM s.heap.size) tL tC y cy nl ret d (.ref (aM s.heap.size 0) :: av) (cfM (aM s.heap.size) cI M) (QL D 19 (aM s.heap.size) r (cfM (aM s.heap.size) cI M')))
    (w : Cw y cy nl ret k) (hl : Cond.methodLink RL ix y ∈ tbs) (him : Cond.instanceMethod y ∈ tbs) (hs : Cond.selects RX8 y y ∈ tbs) (hR : FitL nl d) (hk : av.length = k) (hst : st = av.reverse ++ .ref (aM s.heap.size 0) :: rest) (hls : ls.size = 4) (hrm : (rest.map fun v => v.category).sum ≤ 8) (hd : decode code pc = .ok (.invokevirtual ix, 3)) (hcs : cells ≤ 600000 ∧ slots ≤ 7302250)
    (kk : ∀ (H1 : Heap) (locs1 : List Loc), Wd D cI cP cB cA s S M' H1 locs1 → W p l e room_1 s m #[Value.ref b] below meth c H1 locs1 cells slots Q (F0 m (pc + 3) ls (.long r :: rest))) : W p l e room_1 s m #[Value.ref b] below meth c H locs cells slots Q (F0 m pc ls st) :=
  va_calll (post := fun r' (_ : Unit) => r' = r) (B := fun _ t => va_P D vwCl (wl 19 (aM s.heap.size) (cfM (aM s.heap.size) cI M')) t.heap) (A1 := Ar 19 (aM s.heap.size)) (runL X hW.2.2 (aM_inj _) (fun q h => by have := (ArM h).1; omega) hW.2.1 (by decide) (ci := 8) rfl rfl av Mt w hl him hs hR hk hst hls hrm hd hcs) hW.2.2 (fun q _ h => by have := (ArM h).1; show s.heap.size ≤ q; omega) (fun q h => by have := (ArM h).1; show s.heap.size ≤ q; omega) (fun r' u t H1 locs1 ht _ hp hB _ hk1 hS1 => by
    subst hp
    exact kk H1 locs1 ⟨keepC hW.1 hk1, by have hB : va_P D vwCl (wl 19 (aM s.heap.size) (cfM (aM s.heap.size) cI M')) t.heap := hB; rw [ht] at hB; exact hB, hS1⟩)
/-- a number of the script -/
theorem arg_in {i j : Nat} (h : i + j < L) (hL : L ≤ 384) : vp_in (nI i + nI j) L := by
  rw [nI_add]
  exact vp_in_nI h (by omega)
theorem lawS (X : Lw D cI cP cB cA tL tC p s m meth c b L xs) (hW : Wd D cI cP cB cA s S M H locs) {i : Int32} (hin : vp_in i L) (hd : decode code pc = .ok (.iaload, 1))
    (kk : W p l e room_1 s m #[Value.ref b] below meth c H locs cells slots Q (F0 m (pc + 1) ls (.int (xs i.toNatClampNeg) :: rest))) : W p l e room_1 s m #[Value.ref b] below meth c H locs cells slots Q (F0 m pc ls (.int i :: .ref b :: rest)) :=
  va_sld X.1.1.1 X.1.1.2.1 X.2.2.1 X.2.2.2.1 (Nat.not_le.mpr X.2.2.2.1) hW.2.2 hin hd kk
theorem lawN (X : Lw D cI cP cB cA tL tC p s m meth c b L xs) (hW : Wd D cI cP cB cA s S M H locs) (hd : decode code pc = .ok (.arraylength, 1))
    (kk : W p l e room_1 s m #[Value.ref b] below meth c H locs cells slots Q (F0 m (pc + 1) ls (.int (nI L) :: rest))) : W p l e room_1 s m #[Value.ref b] below meth c H locs cells slots Q (F0 m pc ls (.ref b :: rest)) :=
  va_slen X.1.1.1 X.1.1.2.1 X.2.2.1 X.2.2.2.1 (Nat.not_le.mpr X.2.2.2.1) hW.2.2 hd kk
end LAWR
