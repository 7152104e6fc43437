def va_AOA (t : FieldType) (U : State) : Prop := (Cond.arrayOver (.array t)).before #[] U = true
theorem va_AOA.use {t : FieldType} {A : Array Value} {U : State} (h : va_AOA t U) : (Cond.arrayOver (.array t)).before A U = true := h
/-! ===== BEGIN new T[n][m]: the outer array a place, the inner ones among the pooled ===== -/
/-- f, but v at every address of l -/
def vr_up {α : Type} (f : Nat → α) (l : List Nat) (v : α) : Nat → α := fun a => if a ∈ l then v else f a
theorem vr_up_in {α : Type} {f : Nat → α} {l : List Nat} {v : α} {a : Nat} (h : a ∈ l) : vr_up f l v a = v := if_pos h
theorem vr_up_ne {α : Type} {f : Nat → α} {l : List Nat} {v : α} {a : Nat} (h : a ∉ l) : vr_up f l v a = f a := if_neg h
theorem vr_rows {L l : List Nat} {f : Nat → va_E} {e : va_E} (h : ∀ a, a ∈ l → a ∉ L) : va_pl L f ++ l.map (fun a => (a, e)) = va_pl (L ++ l) (vr_up f l e) := by
  unfold va_pl
  rw [List.map_append]
  congr 1
  · apply List.map_congr_left
    intro a ha
    rw [vr_up_ne (fun q => h a q ha)]
  · apply List.map_congr_left
    intro a ha
    rw [vr_up_in ha]
theorem vr_lay {X rows : va_W} {x : Nat × va_E} {pl : va_W} {D : va_G} {cl : List vw_C} {H : Heap} (hP : va_P D cl (((X ++ pl) ++ [x]) ++ rows) H) : va_P D cl ((X ++ [x]) ++ (pl ++ rows)) H := by
  rw [List.append_assoc (X ++ pl)] at hP
  have h := va_P.swap hP
  rw [← List.append_assoc X] at h
  have h2 := va_P.swap h
  rw [List.append_assoc (X ++ [x])] at h2
  exact h2
theorem vr_layD {X rows : va_W} {x : Nat × va_E} {pl : va_W} {A : Nat → Prop} (hD : va_D A (((X ++ pl) ++ [x]) ++ rows)) : va_D A ((X ++ [x]) ++ (pl ++ rows)) := by
  rw [List.append_assoc (X ++ pl)] at hD
  have h := va_D.swap hD
  rw [← List.append_assoc X] at h
  have h2 := va_D.swap h
  rw [List.append_assoc (X ++ [x])] at h2
  exact h2
theorem vr_outer (c : ClassId) (N h0 : Nat) : ∀ i : Nat, Jvm.Free.Multi.outerC c N h0 i = arrV c N (fun j => va_rf (if j < i then some (h0 + 1 + j) else none))
  | 0 => by
    show ({ cls := c, slots := Array.replicate N .null, vm := .none } : Cell) = _
    rw [arrV_new]
    refine congrArg (arrV c N) (funext fun j => ?_)
    simp [va_rf]
  | i + 1 => by
    show (Jvm.Free.Multi.outerC c N h0 i).setSlot i (.ref (h0 + 1 + i)) = _
    rw [vr_outer c N h0 i, arrV_store]
    refine congrArg (arrV c N) (funext fun j => ?_)
    by_cases e : j = i
    · subst e
      simp [updV, va_rf]
    · by_cases h : j < i
      · simp [updV, e, h, Nat.lt_succ_of_lt h]
      · simp [updV, e, h, show ¬ j < i + 1 by omega]
section VGM
variable {p : Program} {l : Launch} {e : Env} {R : Room} {s : State} {m : MethodId} {args : Array Value} {below : List Frame} {meth : Method} {c : Code} {H : Heap} {locs : List Loc} {cells slots : Nat} {Q : State → Prop}
variable {cc : ByteArray} {pc : Nat} {ls : Array Slot} {rest : List Value} {D : va_G} {cl : List vw_C} {A : Nat → Prop} {a : Nat} {tys : List (ClassId × FieldType)} {ws : va_W} {H0 : Heap}
theorem va_mna {X : va_W} {L : List Nat} {f : Nat → va_E} {cc : ByteArray} (hexec : p.tables.exec = Jvm.exec) (hb : c.code = cc) {own : String} {index : Nat} {ty : FieldType} {cy : ClassId} (hown : s.vm.findClass own = some m.cls) (hclink : (Cond.classLink own index ("[" ++ (FieldType.array ty).toString)).before args s = true) (hover : va_AOA ty s) (harr : (Cond.arrayClass ty).before args s = true) (hcy : s.vm.findClass (FieldType.array ty).toString = some cy)
    (hK : va_K D cl tys s) (hP : va_P D cl (X ++ va_pl L f) H) (hD : va_D A (X ++ va_pl L f)) (hS : va_S A H0 H locs) (hA : ∀ q, H0.size ≤ q → A q) {n k : Int32} {N' K' : Nat} {z : vp_A} (hn : ¬ n < 0) (hk : ¬ k < 0) (hN : n.toNatClampNeg = N') (hM : k.toNatClampNeg = K')
    (hb1 : N' * 4 ≤ 536870912) (hb2 : K' * componentBytes ty ≤ 536870912) (hb3 : K' ≤ 536870912) (hdf : fits ty (defaultValue ty) = true) (hdd : (defaultValue ty).isDefault = true) (hcells : cells + (1 + N') ≤ R.cells) (hslots : slots + (N' + N' * K') ≤ R.slots) (hz : ∀ c : ClassId, Jvm.Free.Multi.innerC c K' (defaultValue ty) = vp_cell c z) (hdg : decode cc pc = .ok (.multianewarray index 2, 4))
    (kk : ∀ (q : Nat) (r : Nat → Nat) (cA : ClassId) (H1 : Heap), (∀ i j : Nat, i < N' → j < N' → r i = r j → i = j) → (∀ i : Nat, i < N' → r i ∉ L) → va_K D cl (tys ++ [(cA, .array ty)]) s →
      va_P D cl ((X ++ [(q, .inl (cA, N', .inr (.inr (.inr (.inr (fun i => if i < N' then some (r i) else none))))))]) ++ va_pl (L ++ (List.range N').map r) (vr_up f ((List.range N').map r) (.inl (cy, z)))) H1 → va_D A ((X ++ [(q, .inl (cA, N', .inr (.inr (.inr (.inr (fun i => if i < N' then some (r i) else none))))))]) ++ va_pl (L ++ (List.range N').map r) (vr_up f ((List.range N').map r) (.inl (cy, z)))) → va_S A H0 H1 locs →
      W p l e R s m args below meth c H1 locs (cells + 1 + N') (slots + N' + N' * K') Q (F0 m (pc + 4) ls (.ref q :: rest))) : W p l e R s m args below meth c H locs cells slots Q (F0 m pc ls (.int k :: .int n :: rest)) := by
  subst hN
  subst hM
  intro T hT Xs
  obtain ⟨vm₁, cA, comp, -, fA, fC, hO, -, X', step⟩ := Xs.multianewarray2F hexec hown hclink (va_AOA.use hover) harr (g := F0 m pc ls (.int k :: .int n :: rest)) rfl (by rw [hb]; exact hdg) rfl hn hk hb1 hb2 hb3 hdf hdd hcells hslots
  have ec : some cy = some comp := hcy.symm.trans fC
  cases ec
  generalize hF : Jvm.Free.Multi.fill (T.setVm vm₁) cA cy n.toNatClampNeg k.toNatClampNeg (defaultValue ty) n.toNatClampNeg = F at X' step
  have hTh : (T.setVm vm₁).heap = H := hT
  obtain ⟨f1, f2, -, -⟩ := Jvm.Free.Multi.fill_facts (T.setVm vm₁) cA cy n.toNatClampNeg k.toNatClampNeg (defaultValue ty) n.toNatClampNeg
  rw [hF, hTh] at f1 f2
  have hold : ∀ x : Nat, x < H.size → F.heap[x]? = H[x]? := fun x hx => by
    have := Jvm.Free.Multi.fill_old (T.setVm vm₁) cA cy n.toNatClampNeg k.toNatClampNeg (defaultValue ty) (a := x) (by rw [hTh]; exact hx) n.toNatClampNeg
    rw [hF, hTh] at this
    exact this
  have hrow : ∀ j : Nat, j < n.toNatClampNeg → F.heap[H.size + 1 + j]? = some (vp_cell cy z) := fun j hj => by
    have := Jvm.Free.Multi.fill_inner (T.setVm vm₁) cA cy n.toNatClampNeg k.toNatClampNeg (defaultValue ty) n.toNatClampNeg j hj
    rw [hF, hTh, hz] at this
    exact this
  have hout : Jvm.Free.Multi.outerC cA n.toNatClampNeg H.size n.toNatClampNeg = vp_cell cA (n.toNatClampNeg, .inr (.inr (.inr (.inr (fun i => if i < n.toNatClampNeg then some (H.size + 1 + i) else none))))) := by
    rw [vp_cell_q]
    exact vr_outer cA n.toNatClampNeg H.size n.toNatClampNeg
  rw [hout] at f2
  have hlt : ∀ a, a ∈ L → a < H.size := fun a ha => by
    obtain ⟨k9, hk9⟩ := va_pl_get (X := X) (f := f) ha
    exact (hP k9 _ hk9).lt
  have hnl : ∀ i : Nat, i < n.toNatClampNeg → H.size + 1 + i ∉ L := fun i _ h => by
    have := hlt _ h
    omega
  have hnm : ∀ a, a ∈ (List.range n.toNatClampNeg).map (fun i => H.size + 1 + i) → a ∉ L := fun a ha h => by
    obtain ⟨i, -, rfl⟩ := List.mem_map.mp ha
    have := hlt _ h
    omega
  have hP0 : va_P D cl (X ++ va_pl L f) F.heap := hP.kept (fun k9 x hx => hold x.1 ((hP k9 x hx).lt))
  have hP1 : va_P D cl ((X ++ va_pl L f) ++ [(H.size, .inl (cA, n.toNatClampNeg, .inr (.inr (.inr (.inr (fun i => if i < n.toNatClampNeg then some (H.size + 1 + i) else none))))))]) F.heap := hP0.app (fun k9 x hx => by
    have h0 : k9 < 1 := (List.getElem?_eq_some_iff.mp hx).1
    rw [show k9 = 0 by omega] at hx
    cases hx
    exact f2)
  have hP2 : va_P D cl (((X ++ va_pl L f) ++ [(H.size, .inl (cA, n.toNatClampNeg, .inr (.inr (.inr (.inr (fun i => if i < n.toNatClampNeg then some (H.size + 1 + i) else none))))))]) ++ ((List.range n.toNatClampNeg).map (fun i => H.size + 1 + i)).map (fun a => (a, .inl (cy, z)))) F.heap := hP1.app (fun k9 x hx => by
    obtain ⟨a, ha, rfl⟩ := List.mem_map.mp (List.mem_of_getElem? hx)
    obtain ⟨i, hi, rfl⟩ := List.mem_map.mp ha
    exact hrow i (List.mem_range.mp hi))
  have hD2 : va_D A (((X ++ va_pl L f) ++ [(H.size, .inl (cA, n.toNatClampNeg, .inr (.inr (.inr (.inr (fun i => if i < n.toNatClampNeg then some (H.size + 1 + i) else none))))))]) ++ ((List.range n.toNatClampNeg).map (fun i => H.size + 1 + i)).map (fun a => (a, .inl (cy, z)))) := by
    have hD1 := hD.push (e := .inl (cA, n.toNatClampNeg, .inr (.inr (.inr (.inr (fun i => if i < n.toNatClampNeg then some (H.size + 1 + i) else none)))))) hP rfl (hA _ hS.1)
    generalize hW1 : (X ++ va_pl L f) ++ [(H.size, .inl (cA, n.toNatClampNeg, .inr (.inr (.inr (.inr (fun i => if i < n.toNatClampNeg then some (H.size + 1 + i) else none))))))] = W1 at hD1 hP1 ⊢
    have hle : ∀ (k9 : Nat) (x : Nat × va_E), W1[k9]? = some x → x.1 ≤ H.size := fun k9 x hx => by
      rw [← hW1] at hx
      by_cases hl : k9 < (X ++ va_pl L f).length
      · rw [List.getElem?_append_left hl] at hx
        exact Nat.le_of_lt ((hP k9 x hx).lt)
      · rw [List.getElem?_append_right (by omega)] at hx
        have h0 : k9 - (X ++ va_pl L f).length < 1 := (List.getElem?_eq_some_iff.mp hx).1
        rw [show k9 - (X ++ va_pl L f).length = 0 by omega] at hx
        cases hx
        exact Nat.le_refl _
    have hr : ∀ (k9 : Nat) (x : Nat × va_E), (((List.range n.toNatClampNeg).map (fun i => H.size + 1 + i)).map (fun a => ((a, .inl (cy, z)) : Nat × va_E)))[k9]? = some x → x.1 = H.size + 1 + k9 := fun k9 x hx => by
      rw [List.getElem?_map, List.getElem?_map] at hx
      by_cases h9 : k9 < n.toNatClampNeg
      · rw [List.getElem?_range h9] at hx
        cases hx
        rfl
      · have hn0 : (List.range n.toNatClampNeg)[k9]? = none := List.getElem?_eq_none (by rw [List.length_range]; omega)
        rw [hn0] at hx
        cases hx
    refine ⟨fun i j x y hi hj hxy => ?_, fun k9 x hx => ?_⟩
    · by_cases h1 : i < W1.length <;> by_cases h2 : j < W1.length
      · rw [List.getElem?_append_left h1] at hi
        rw [List.getElem?_append_left h2] at hj
        exact hD1.1 i j x y hi hj hxy
      · rw [List.getElem?_append_left h1] at hi
        rw [List.getElem?_append_right (by omega)] at hj
        have := hle _ _ hi
        have := hr _ _ hj
        omega
      · rw [List.getElem?_append_right (by omega)] at hi
        rw [List.getElem?_append_left h2] at hj
        have := hle _ _ hj
        have := hr _ _ hi
        omega
      · rw [List.getElem?_append_right (by omega)] at hi hj
        have := hr _ _ hi
        have := hr _ _ hj
        omega
    · by_cases h1 : k9 < W1.length
      · rw [List.getElem?_append_left h1] at hx
        exact hD1.2 k9 x hx
      · rw [List.getElem?_append_right (by omega)] at hx
        have := hr _ _ hx
        exact hA _ (by have := hS.1; omega)
  have hAr : ArrOfT s cA (.array ty) := fun N9 z9 => by
    obtain ⟨-, k9, hk9, cm9, hkk9⟩ := (hO 0 0 0).1
    exact ⟨(fun q hq => by cases hq), k9, hk9, cm9, hkk9⟩
  have hK2 : va_K D cl (tys ++ [(cA, .array ty)]) s := ⟨hK.1, fun k9 x hx => by
    by_cases hl : k9 < tys.length
    · rw [List.getElem?_append_left hl] at hx
      exact hK.2 k9 x hx
    · rw [List.getElem?_append_right (by omega)] at hx
      have h0 : k9 - tys.length < 1 := (List.getElem?_eq_some_iff.mp hx).1
      rw [show k9 - tys.length = 0 by omega] at hx
      cases hx
      exact ⟨hAr, fA⟩⟩
  obtain ⟨t, a1, b1⟩ := kk H.size (fun i => H.size + 1 + i) cA F.heap (fun i j _ _ h => by have h9 : H.size + 1 + i = H.size + 1 + j := h; omega) hnl hK2 (by rw [← vr_rows hnm]; exact vr_lay hP2) (by rw [← vr_rows hnm]; exact vr_layD hD2) ⟨by rw [f1]; have := hS.1; omega, fun x h1 h2 => (hold x (Nat.lt_of_lt_of_le h1 hS.1)).trans (hS.2.1 x h1 h2), hS.2.2⟩ F rfl X'
  refine ⟨t, step t ?_, b1⟩
  have e : T.heap.size = H.size := by rw [hT]
  rw [e]
  exact a1
end VGM
/-! ===== END ===== -/
def RX0 : String := "LastPage$Book"
def TX0 : u_T := fun k => match k with
  | 0 => ("LastPage$Book", "pages", "[LLastPage$Page;", true)
  | 1 => ("LastPage$Book", "ranked", "[I", true)
  | _ => ("LastPage$Book", "count", "I", false)
def tyX0 : Nat → FieldType := fun k => match k with
  | 0 => .array (.object "LastPage$Page")
  | 1 => .array .int
  | _ => .int
abbrev wsX00 : List Cond := u_ws RX0 TX0 3
theorem nmX0 : ∀ a, a < 3 → ∀ b, b < 3 → a ≠ b → (TX0 a).2.1 ≠ (TX0 b).2.1 := by decide +kernel
theorem tyX0_ok : ∀ k, k < 3 → parseFieldDescriptor (TX0 k).2.2.1 = some (tyX0 k) := by decide +kernel
abbrev cX0_init : ByteArray := prog_2_method_1_code
def yX0_init : MethodName := ⟨RX0, "<init>", "()V"⟩
abbrev cX0_isOne : ByteArray := prog_2_method_2_code
def yX0_isOne : MethodName := ⟨RX0, "isOne", "(I)Z"⟩
abbrev cX0_empty : ByteArray := prog_2_method_3_code
def yX0_empty : MethodName := ⟨RX0, "empty", "()V"⟩
abbrev cX0_become : ByteArray := prog_2_method_4_code
def yX0_become : MethodName := ⟨RX0, "become", "(LLastPage$Book;)V"⟩
abbrev cX0_append : ByteArray := prog_2_method_5_code
def yX0_append : MethodName := ⟨RX0, "append", "(IIIII)V"⟩
abbrev cX0_dropLast : ByteArray := prog_2_method_6_code
def yX0_dropLast : MethodName := ⟨RX0, "dropLast", "()V"⟩
abbrev cX0_changeKind : ByteArray := prog_2_method_7_code
def yX0_changeKind : MethodName := ⟨RX0, "changeKind", "(II)V"⟩
abbrev cX0_leaveOut : ByteArray := prog_2_method_8_code
def yX0_leaveOut : MethodName := ⟨RX0, "leaveOut", "(I)V"⟩
abbrev cX0_turnFromEnd : ByteArray := prog_2_method_9_code
def yX0_turnFromEnd : MethodName := ⟨RX0, "turnFromEnd", "()V"⟩
abbrev cX0_turnFromFront : ByteArray := prog_2_method_10_code
def yX0_turnFromFront : MethodName := ⟨RX0, "turnFromFront", "()V"⟩
abbrev cX0_rank : ByteArray := prog_2_method_11_code
def yX0_rank : MethodName := ⟨RX0, "rank", "()V"⟩
abbrev cX0_tell : ByteArray := prog_2_method_12_code
def yX0_tell : MethodName := ⟨RX0, "tell", "(II)I"⟩
abbrev cX0_countOf : ByteArray := prog_2_method_13_code
def yX0_countOf : MethodName := ⟨RX0, "countOf", "(I)I"⟩
abbrev cX0_havingWords : ByteArray := prog_2_method_14_code
def yX0_havingWords : MethodName := ⟨RX0, "havingWords", "(I)I"⟩
abbrev cX0_pageReadOn : ByteArray := prog_2_method_15_code
def yX0_pageReadOn : MethodName := ⟨RX0, "pageReadOn", "(I)I"⟩
abbrev cX0_holds : ByteArray := prog_2_method_16_code
def yX0_holds : MethodName := ⟨RX0, "holds", "(II)Z"⟩
abbrev cX0_firstDayOf : ByteArray := prog_2_method_17_code
def yX0_firstDayOf : MethodName := ⟨RX0, "firstDayOf", "(I)I"⟩
abbrev cX0_isInRing : ByteArray := prog_2_method_18_code
def yX0_isInRing : MethodName := ⟨RX0, "isInRing", "(I)Z"⟩
abbrev cX0_bound : ByteArray := prog_2_method_19_code
def yX0_bound : MethodName := ⟨RX0, "bound", "(I)I"⟩
abbrev cX0_factsFor : ByteArray := prog_2_method_20_code
def yX0_factsFor : MethodName := ⟨RX0, "factsFor", "(II)I"⟩
abbrev cX0_casesOne : ByteArray := prog_2_method_21_code
def yX0_casesOne : MethodName := ⟨RX0, "casesOne", "(III)I"⟩
abbrev cX0_judgeOf : ByteArray := prog_2_method_22_code
def yX0_judgeOf : MethodName := ⟨RX0, "judgeOf", "(IIII)I"⟩
def RX1 : String := "LastPage$Court"
def TX1 : u_T := fun k => match k with
  | 0 => ("LastPage$Court", "ones", "[I", true)
  | 1 => ("LastPage$Court", "heard", "I", false)
  | 2 => ("LastPage$Court", "always", "I", false)
  | 3 => ("LastPage$Court", "ever", "I", false)
  | 4 => ("LastPage$Court", "alwaysOn", "[I", true)
  | 5 => ("LastPage$Court", "everOn", "[I", true)
  | 6 => ("LastPage$Court", "daysRead", "I", false)
  | _ => ("LastPage$Court", "flipDays", "[I", true)
def tyX1 : Nat → FieldType := fun k => match k with
  | 0 => .array .int
  | 1 => .int
  | 2 => .int
  | 3 => .int
  | 4 => .array .int
  | 5 => .array .int
  | 6 => .int
  | _ => .array .int
abbrev wsX10 : List Cond := u_ws RX1 TX1 8
theorem nmX1 : ∀ a, a < 8 → ∀ b, b < 8 → a ≠ b → (TX1 a).2.1 ≠ (TX1 b).2.1 := by decide +kernel
theorem tyX1_ok : ∀ k, k < 8 → parseFieldDescriptor (TX1 k).2.2.1 = some (tyX1 k) := by decide +kernel
abbrev cX1_init : ByteArray := prog_3_method_1_code
def yX1_init : MethodName := ⟨RX1, "<init>", "()V"⟩
abbrev cX1_hear : ByteArray := prog_3_method_2_code
def yX1_hear : MethodName := ⟨RX1, "hear", "(LLastPage$Book;I)V"⟩
abbrev cX1_note : ByteArray := prog_3_method_3_code
def yX1_note : MethodName := ⟨RX1, "note", "(I)V"⟩
abbrev cX1_waiting : ByteArray := prog_3_method_4_code
def yX1_waiting : MethodName := ⟨RX1, "waiting", "()I"⟩
abbrev cX1_timesOne : ByteArray := prog_3_method_5_code
def yX1_timesOne : MethodName := ⟨RX1, "timesOne", "(I)I"⟩
abbrev cX1_stateOf : ByteArray := prog_3_method_6_code
def yX1_stateOf : MethodName := ⟨RX1, "stateOf", "(I)I"⟩
abbrev cX1_waitingInAll : ByteArray := prog_3_method_7_code
def yX1_waitingInAll : MethodName := ⟨RX1, "waitingInAll", "(LLastPage$Book;)I"⟩
abbrev cX1_hearReading : ByteArray := prog_3_method_8_code
def yX1_hearReading : MethodName := ⟨RX1, "hearReading", "(LLastPage$Book;)V"⟩
abbrev cX1_trace : ByteArray := prog_3_method_9_code
def yX1_trace : MethodName := ⟨RX1, "trace", "(I)I"⟩
def RX2 : String := "LastPage$Orders"
def TX2 : u_T := fun k => match k with
  | 0 => ("LastPage$Orders", "tried", "[I", true)
  | 1 => ("LastPage$Orders", "best", "[I", true)
  | _ => ("LastPage$Orders", "least", "I", false)
def tyX2 : Nat → FieldType := fun k => match k with
  | 0 => .array .int
  | 1 => .array .int
  | _ => .int
abbrev wsX20 : List Cond := u_ws RX2 TX2 3
theorem nmX2 : ∀ a, a < 3 → ∀ b, b < 3 → a ≠ b → (TX2 a).2.1 ≠ (TX2 b).2.1 := by decide +kernel
theorem tyX2_ok : ∀ k, k < 3 → parseFieldDescriptor (TX2 k).2.2.1 = some (tyX2 k) := by decide +kernel
abbrev cX2_init : ByteArray := prog_4_method_1_code
def yX2_init : MethodName := ⟨RX2, "<init>", "()V"⟩
abbrev cX2_findBest : ByteArray := prog_4_method_2_code
def yX2_findBest : MethodName := ⟨RX2, "findBest", "(LLastPage$Book;LLastPage$Court;)V"⟩
abbrev cX2_tryDay : ByteArray := prog_4_method_3_code
def yX2_tryDay : MethodName := ⟨RX2, "tryDay", "(LLastPage$Book;LLastPage$Court;II)V"⟩
abbrev cX2_goOn : ByteArray := prog_4_method_4_code
def yX2_goOn : MethodName := ⟨RX2, "goOn", "(LLastPage$Book;LLastPage$Court;II)V"⟩
def RX3 : String := "LastPage$Page"
def TX3 : u_T := fun k => match k with
  | 0 => ("LastPage$Page", "kind", "I", false)
  | 1 => ("LastPage$Page", "points", "I", false)
  | 2 => ("LastPage$Page", "verdict", "I", false)
  | 3 => ("LastPage$Page", "words", "I", false)
  | 4 => ("LastPage$Page", "fact", "I", false)
  | 5 => ("LastPage$Page", "day", "I", false)
  | _ => ("LastPage$Page", "plainly", "I", false)
def tyX3 : Nat → FieldType := fun k => match k with
  | 0 => .int
  | 1 => .int
  | 2 => .int
  | 3 => .int
  | 4 => .int
  | 5 => .int
  | _ => .int
abbrev wsX30 : List Cond := u_ws RX3 TX3 7
theorem nmX3 : ∀ a, a < 7 → ∀ b, b < 7 → a ≠ b → (TX3 a).2.1 ≠ (TX3 b).2.1 := by decide +kernel
theorem tyX3_ok : ∀ k, k < 7 → parseFieldDescriptor (TX3 k).2.2.1 = some (tyX3 k) := by decide +kernel
abbrev cX3_init : ByteArray := prog_5_method_1_code
def yX3_init : MethodName := ⟨RX3, "<init>", "()V"⟩
abbrev cX3_become : ByteArray := prog_5_method_2_code
def yX3_become : MethodName := ⟨RX3, "become", "(LLastPage$Page;)V"⟩
abbrev cX3_putWords : ByteArray := prog_5_method_3_code
def yX3_putWords : MethodName := ⟨RX3, "putWords", "(I)V"⟩
abbrev cX3_isOf : ByteArray := prog_5_method_4_code
def yX3_isOf : MethodName := ⟨RX3, "isOf", "(I)Z"⟩
abbrev cX3_weight : ByteArray := prog_5_method_5_code
def yX3_weight : MethodName := ⟨RX3, "weight", "()I"⟩
abbrev cX3_casesThatFit : ByteArray := prog_5_method_6_code
def yX3_casesThatFit : MethodName := ⟨RX3, "casesThatFit", "(II)I"⟩
def RX4 : String := "LastPage$Planner"
def TX4 : u_T := fun k => match k with
  | 0 => ("LastPage$Planner", "clearOn", "[I", true)
  | 1 => ("LastPage$Planner", "deeds", "[I", true)
  | 2 => ("LastPage$Planner", "size", "I", false)
  | 3 => ("LastPage$Planner", "days", "[I", true)
  | 4 => ("LastPage$Planner", "tried", "[I", true)
  | 5 => ("LastPage$Planner", "places", "[I", true)
  | _ => ("LastPage$Planner", "soonest", "I", false)
def tyX4 : Nat → FieldType := fun k => match k with
  | 0 => .array .int
  | 1 => .array .int
  | 2 => .int
  | 3 => .array .int
  | 4 => .array .int
  | 5 => .array .int
  | _ => .int
abbrev wsX40 : List Cond := u_ws RX4 TX4 7
theorem nmX4 : ∀ a, a < 7 → ∀ b, b < 7 → a ≠ b → (TX4 a).2.1 ≠ (TX4 b).2.1 := by decide +kernel
theorem tyX4_ok : ∀ k, k < 7 → parseFieldDescriptor (TX4 k).2.2.1 = some (tyX4 k) := by decide +kernel
abbrev cX4_init : ByteArray := prog_6_method_1_code
def yX4_init : MethodName := ⟨RX4, "<init>", "()V"⟩
abbrev cX4_take : ByteArray := prog_6_method_2_code
def yX4_take : MethodName := ⟨RX4, "take", "(LLastPage$Shelf;ILLastPage$Court;LLastPage$Book;)V"⟩
abbrev cX4_firstClear : ByteArray := prog_6_method_3_code
def yX4_firstClear : MethodName := ⟨RX4, "firstClear", "(II)I"⟩
abbrev cX4_planAsTheyCome : ByteArray := prog_6_method_4_code
def yX4_planAsTheyCome : MethodName := ⟨RX4, "planAsTheyCome", "()Z"⟩
abbrev cX4_planSoonest : ByteArray := prog_6_method_5_code
def yX4_planSoonest : MethodName := ⟨RX4, "planSoonest", "()Z"⟩
abbrev cX4_tryFrom : ByteArray := prog_6_method_6_code
def yX4_tryFrom : MethodName := ⟨RX4, "tryFrom", "(III)V"⟩
abbrev cX4_tellDays : ByteArray := prog_6_method_7_code
def yX4_tellDays : MethodName := ⟨RX4, "tellDays", "(LLastPage$Shelf;I)V"⟩
abbrev cX4_tellPlaces : ByteArray := prog_6_method_8_code
def yX4_tellPlaces : MethodName := ⟨RX4, "tellPlaces", "(LLastPage$Shelf;I)V"⟩
def RX5 : String := "LastPage$Scribe"
def TX5 : u_T := fun k => match k with
  | 0 => ("LastPage$Scribe", "texts", "LLastPage$Shelf;", false)
  | 1 => ("LastPage$Scribe", "t", "I", false)
  | 2 => ("LastPage$Scribe", "size", "I", false)
  | 3 => ("LastPage$Scribe", "place", "I", false)
  | _ => ("LastPage$Scribe", "stuck", "Z", false)
def tyX5 : Nat → FieldType := fun k => match k with
  | 0 => .object "LastPage$Shelf"
  | 1 => .int
  | 2 => .int
  | 3 => .int
  | _ => .boolean
abbrev wsX50 : List Cond := u_ws RX5 TX5 5
theorem nmX5 : ∀ a, a < 5 → ∀ b, b < 5 → a ≠ b → (TX5 a).2.1 ≠ (TX5 b).2.1 := by decide +kernel
theorem tyX5_ok : ∀ k, k < 5 → parseFieldDescriptor (TX5 k).2.2.1 = some (tyX5 k) := by decide +kernel
abbrev cX5_init : ByteArray := prog_7_method_1_code
def yX5_init : MethodName := ⟨RX5, "<init>", "()V"⟩
abbrev cX5_faultOf : ByteArray := prog_7_method_2_code
def yX5_faultOf : MethodName := ⟨RX5, "faultOf", "(LLastPage$Shelf;ILLastPage$Book;)I"⟩
abbrev cX5_sign : ByteArray := prog_7_method_3_code
def yX5_sign : MethodName := ⟨RX5, "sign", "()I"⟩
abbrev cX5_takeItem : ByteArray := prog_7_method_4_code
def yX5_takeItem : MethodName := ⟨RX5, "takeItem", "(LLastPage$Book;)V"⟩
abbrev cX5_kindByLetter : ByteArray := prog_7_method_5_code
def yX5_kindByLetter : MethodName := ⟨RX5, "kindByLetter", "(I)I"⟩
abbrev cX5_takeFigure : ByteArray := prog_7_method_6_code
def yX5_takeFigure : MethodName := ⟨RX5, "takeFigure", "(II)I"⟩
abbrev cX5_isAtFigure : ByteArray := prog_7_method_7_code
def yX5_isAtFigure : MethodName := ⟨RX5, "isAtFigure", "()Z"⟩
abbrev cX5_takeWords : ByteArray := prog_7_method_8_code
def yX5_takeWords : MethodName := ⟨RX5, "takeWords", "()I"⟩
def RX6 : String := "LastPage$Shelf"
def TX6 : u_T := fun k => match k with
  | 0 => ("LastPage$Shelf", "places", "[[I", true)
  | _ => ("LastPage$Shelf", "sizes", "[I", true)
def tyX6 : Nat → FieldType := fun k => match k with
  | 0 => .array (.array .int)
  | _ => .array .int
abbrev wsX60 : List Cond := u_ws RX6 TX6 2
theorem nmX6 : ∀ a, a < 2 → ∀ b, b < 2 → a ≠ b → (TX6 a).2.1 ≠ (TX6 b).2.1 := by decide +kernel
theorem tyX6_ok : ∀ k, k < 2 → parseFieldDescriptor (TX6 k).2.2.1 = some (tyX6 k) := by decide +kernel
abbrev cX6_init : ByteArray := prog_8_method_1_code
def yX6_init : MethodName := ⟨RX6, "<init>", "(II)V"⟩
abbrev cX6_isOne : ByteArray := prog_8_method_2_code
def yX6_isOne : MethodName := ⟨RX6, "isOne", "(I)Z"⟩
abbrev cX6_isThere : ByteArray := prog_8_method_3_code
def yX6_isThere : MethodName := ⟨RX6, "isThere", "(I)Z"⟩
abbrev cX6_isPlace : ByteArray := prog_8_method_4_code
def yX6_isPlace : MethodName := ⟨RX6, "isPlace", "(II)Z"⟩
abbrev cX6_arePlaces : ByteArray := prog_8_method_5_code
def yX6_arePlaces : MethodName := ⟨RX6, "arePlaces", "(III)Z"⟩
abbrev cX6_sizeOf : ByteArray := prog_8_method_6_code
def yX6_sizeOf : MethodName := ⟨RX6, "sizeOf", "(I)I"⟩
abbrev cX6_placeOf : ByteArray := prog_8_method_7_code
def yX6_placeOf : MethodName := ⟨RX6, "placeOf", "(II)I"⟩
abbrev cX6_write : ByteArray := prog_8_method_8_code
def yX6_write : MethodName := ⟨RX6, "write", "(III)V"⟩
abbrev cX6_make : ByteArray := prog_8_method_9_code
def yX6_make : MethodName := ⟨RX6, "make", "(III)V"⟩
abbrev cX6_drop : ByteArray := prog_8_method_10_code
def yX6_drop : MethodName := ⟨RX6, "drop", "(I)V"⟩
abbrev cX6_carry : ByteArray := prog_8_method_11_code
def yX6_carry : MethodName := ⟨RX6, "carry", "(IIIII)V"⟩
abbrev cX6_sumOf : ByteArray := prog_8_method_12_code
def yX6_sumOf : MethodName := ⟨RX6, "sumOf", "(I)J"⟩
abbrev cX6_countThere : ByteArray := prog_8_method_13_code
def yX6_countThere : MethodName := ⟨RX6, "countThere", "()I"⟩
abbrev cX6_digestOn : ByteArray := prog_8_method_14_code
def yX6_digestOn : MethodName := ⟨RX6, "digestOn", "(J)J"⟩
def RX7 : String := "LastPage"
def TX7 : u_T := fun k => match k with
  | 0 => ("LastPage", "rows", "LLastPage$Shelf;", true)
  | 1 => ("LastPage", "texts", "LLastPage$Shelf;", true)
  | 2 => ("LastPage", "book", "LLastPage$Book;", true)
  | 3 => ("LastPage", "trial", "LLastPage$Book;", true)
  | 4 => ("LastPage", "kept", "[LLastPage$Book;", true)
  | 5 => ("LastPage", "scribe", "LLastPage$Scribe;", true)
  | 6 => ("LastPage", "court", "LLastPage$Court;", true)
  | 7 => ("LastPage", "planner", "LLastPage$Planner;", true)
  | 8 => ("LastPage", "orders", "LLastPage$Orders;", true)
  | 9 => ("LastPage", "found", "[I", true)
  | 10 => ("LastPage", "latestFinding", "I", false)
  | 11 => ("LastPage", "lastAsked", "I", false)
  | 12 => ("LastPage", "upperNumber", "J", false)
  | _ => ("LastPage", "lowerNumber", "J", false)
def tyX7 : Nat → FieldType := fun k => match k with
  | 0 => .object "LastPage$Shelf"
  | 1 => .object "LastPage$Shelf"
  | 2 => .object "LastPage$Book"
  | 3 => .object "LastPage$Book"
  | 4 => .array (.object "LastPage$Book")
  | 5 => .object "LastPage$Scribe"
  | 6 => .object "LastPage$Court"
  | 7 => .object "LastPage$Planner"
  | 8 => .object "LastPage$Orders"
  | 9 => .array .int
  | 10 => .int
  | 11 => .int
  | 12 => .long
  | _ => .long
abbrev wsX70 : List Cond := u_ws RX7 TX7 14
theorem nmX7 : ∀ a, a < 14 → ∀ b, b < 14 → a ≠ b → (TX7 a).2.1 ≠ (TX7 b).2.1 := by decide +kernel
theorem tyX7_ok : ∀ k, k < 14 → parseFieldDescriptor (TX7 k).2.2.1 = some (tyX7 k) := by decide +kernel
abbrev cX7_init : ByteArray := prog_1_method_1_code
def yX7_init : MethodName := ⟨RX7, "<init>", "()V"⟩
abbrev cX7_row : ByteArray := prog_1_method_2_code
def yX7_row : MethodName := ⟨RX7, "row", "(II)I"⟩
abbrev cX7_lay : ByteArray := prog_1_method_3_code
def yX7_lay : MethodName := ⟨RX7, "lay", "(III)I"⟩
abbrev cX7_at : ByteArray := prog_1_method_4_code
def yX7_at : MethodName := ⟨RX7, "at", "(II)I"⟩
abbrev cX7_tear : ByteArray := prog_1_method_5_code
def yX7_tear : MethodName := ⟨RX7, "tear", "(I)I"⟩
abbrev cX7_copy : ByteArray := prog_1_method_6_code
def yX7_copy : MethodName := ⟨RX7, "copy", "(IIIII)I"⟩
abbrev cX7_mean : ByteArray := prog_1_method_7_code
def yX7_mean : MethodName := ⟨RX7, "mean", "(I)I"⟩
abbrev cX7_text : ByteArray := prog_1_method_8_code
def yX7_text : MethodName := ⟨RX7, "text", "(II)I"⟩
abbrev cX7_put : ByteArray := prog_1_method_9_code
def yX7_put : MethodName := ⟨RX7, "put", "(III)I"⟩
abbrev cX7_fault : ByteArray := prog_1_method_10_code
def yX7_fault : MethodName := ⟨RX7, "fault", "(I)I"⟩
abbrev cX7_book : ByteArray := prog_1_method_11_code
def yX7_book : MethodName := ⟨RX7, "book", "(I)I"⟩
abbrev cX7_page : ByteArray := prog_1_method_12_code
def yX7_page : MethodName := ⟨RX7, "page", "(II)I"⟩
abbrev cX7_mark : ByteArray := prog_1_method_13_code
def yX7_mark : MethodName := ⟨RX7, "mark", "(II)I"⟩
abbrev cX7_reverse : ByteArray := prog_1_method_14_code
def yX7_reverse : MethodName := ⟨RX7, "reverse", "(II)I"⟩
abbrev cX7_swap : ByteArray := prog_1_method_15_code
def yX7_swap : MethodName := ⟨RX7, "swap", "(II)I"⟩
abbrev cX7_read : ByteArray := prog_1_method_16_code
def yX7_read : MethodName := ⟨RX7, "read", "(I)I"⟩
abbrev cX7_add : ByteArray := prog_1_method_17_code
def yX7_add : MethodName := ⟨RX7, "add", "(II)I"⟩
abbrev cX7_rip : ByteArray := prog_1_method_18_code
def yX7_rip : MethodName := ⟨RX7, "rip", "()I"⟩
abbrev cX7_keep : ByteArray := prog_1_method_19_code
def yX7_keep : MethodName := ⟨RX7, "keep", "(I)I"⟩
abbrev cX7_on : ByteArray := prog_1_method_20_code
def yX7_on : MethodName := ⟨RX7, "on", "(I)I"⟩
abbrev cX7_binds : ByteArray := prog_1_method_21_code
def yX7_binds : MethodName := ⟨RX7, "binds", "(I)I"⟩
abbrev cX7_means : ByteArray := prog_1_method_22_code
def yX7_means : MethodName := ⟨RX7, "means", "(II)I"⟩
abbrev cX7_meanings : ByteArray := prog_1_method_23_code
def yX7_meanings : MethodName := ⟨RX7, "meanings", "(I)I"⟩
abbrev cX7_never : ByteArray := prog_1_method_24_code
def yX7_never : MethodName := ⟨RX7, "never", "()I"⟩
abbrev cX7_verdict : ByteArray := prog_1_method_25_code
def yX7_verdict : MethodName := ⟨RX7, "verdict", "(II)I"⟩
abbrev cX7_judge : ByteArray := prog_1_method_26_code
def yX7_judge : MethodName := ⟨RX7, "judge", "(III)I"⟩
abbrev cX7_odds : ByteArray := prog_1_method_27_code
def yX7_odds : MethodName := ⟨RX7, "odds", "(II)I"⟩
abbrev cX7_waits : ByteArray := prog_1_method_28_code
def yX7_waits : MethodName := ⟨RX7, "waits", "(I)I"⟩
abbrev cX7_all : ByteArray := prog_1_method_29_code
def yX7_all : MethodName := ⟨RX7, "all", "()I"⟩
abbrev cX7_free : ByteArray := prog_1_method_30_code
def yX7_free : MethodName := ⟨RX7, "free", "(II)I"⟩
abbrev cX7_deeds : ByteArray := prog_1_method_31_code
def yX7_deeds : MethodName := ⟨RX7, "deeds", "(II)I"⟩
abbrev cX7_order : ByteArray := prog_1_method_32_code
def yX7_order : MethodName := ⟨RX7, "order", "(II)I"⟩
abbrev cX7_flips : ByteArray := prog_1_method_33_code
def yX7_flips : MethodName := ⟨RX7, "flips", "(I)I"⟩
abbrev cX7_flip : ByteArray := prog_1_method_34_code
def yX7_flip : MethodName := ⟨RX7, "flip", "(II)I"⟩
abbrev cX7_most : ByteArray := prog_1_method_35_code
def yX7_most : MethodName := ⟨RX7, "most", "()I"⟩
abbrev cX7_matter : ByteArray := prog_1_method_36_code
def yX7_matter : MethodName := ⟨RX7, "matter", "(II)I"⟩
abbrev cX7_best : ByteArray := prog_1_method_37_code
def yX7_best : MethodName := ⟨RX7, "best", "(I)I"⟩
abbrev cX7_front : ByteArray := prog_1_method_38_code
def yX7_front : MethodName := ⟨RX7, "front", "()I"⟩
abbrev cX7_meant : ByteArray := prog_1_method_39_code
def yX7_meant : MethodName := ⟨RX7, "meant", "(I)I"⟩
abbrev cX7_kinds : ByteArray := prog_1_method_40_code
def yX7_kinds : MethodName := ⟨RX7, "kinds", "(IIII)I"⟩
abbrev cX7_lots : ByteArray := prog_1_method_41_code
def yX7_lots : MethodName := ⟨RX7, "lots", "(II)I"⟩
abbrev cX7_asked : ByteArray := prog_1_method_42_code
def yX7_asked : MethodName := ⟨RX7, "asked", "()I"⟩
abbrev cX7_upper : ByteArray := prog_1_method_43_code
def yX7_upper : MethodName := ⟨RX7, "upper", "()J"⟩
abbrev cX7_lower : ByteArray := prog_1_method_44_code
def yX7_lower : MethodName := ⟨RX7, "lower", "()J"⟩
abbrev cX7_count : ByteArray := prog_1_method_45_code
def yX7_count : MethodName := ⟨RX7, "count", "(I)I"⟩
abbrev cX7_finding : ByteArray := prog_1_method_46_code
def yX7_finding : MethodName := ⟨RX7, "finding", "()I"⟩
abbrev cX7_findings : ByteArray := prog_1_method_47_code
def yX7_findings : MethodName := ⟨RX7, "findings", "(I)I"⟩
abbrev cX7_digest : ByteArray := prog_1_method_48_code
def yX7_digest : MethodName := ⟨RX7, "digest", "()J"⟩
abbrev cX7_hasBit : ByteArray := prog_1_method_49_code
def yX7_hasBit : MethodName := ⟨RX7, "hasBit", "(II)Z"⟩
abbrev cX7_isDay : ByteArray := prog_1_method_50_code
def yX7_isDay : MethodName := ⟨RX7, "isDay", "(I)Z"⟩
abbrev cX7_isCase : ByteArray := prog_1_method_51_code
def yX7_isCase : MethodName := ⟨RX7, "isCase", "(I)Z"⟩
abbrev cX7_isVerdict : ByteArray := prog_1_method_52_code
def yX7_isVerdict : MethodName := ⟨RX7, "isVerdict", "(I)Z"⟩
abbrev cX7_isShelf : ByteArray := prog_1_method_53_code
def yX7_isShelf : MethodName := ⟨RX7, "isShelf", "(I)Z"⟩
abbrev cX7_refuse : ByteArray := prog_1_method_54_code
def yX7_refuse : MethodName := ⟨RX7, "refuse", "(I)I"⟩
abbrev cX7_keptBooks : ByteArray := prog_1_method_55_code
def yX7_keptBooks : MethodName := ⟨RX7, "keptBooks", "()I"⟩
abbrev cX7_namesEachPageOnce : ByteArray := prog_1_method_56_code
def yX7_namesEachPageOnce : MethodName := ⟨RX7, "namesEachPageOnce", "(I)Z"⟩
abbrev cX7_tellFraction : ByteArray := prog_1_method_57_code
def yX7_tellFraction : MethodName := ⟨RX7, "tellFraction", "(II)V"⟩
abbrev cX7_refusalOfDeeds : ByteArray := prog_1_method_58_code
def yX7_refusalOfDeeds : MethodName := ⟨RX7, "refusalOfDeeds", "(III)I"⟩
abbrev cX7_tellsJudgements : ByteArray := prog_1_method_59_code
def yX7_tellsJudgements : MethodName := ⟨RX7, "tellsJudgements", "(I)Z"⟩
abbrev cX7_couldMean : ByteArray := prog_1_method_60_code
def yX7_couldMean : MethodName := ⟨RX7, "couldMean", "(III)Z"⟩
abbrev cX7_bitIfKind : ByteArray := prog_1_method_61_code
def yX7_bitIfKind : MethodName := ⟨RX7, "bitIfKind", "(IIIII)I"⟩
def RX8 : String := "LastPageModel"
def TX8 : u_T := fun k => match k with
  | 0 => ("LastPageModel", "finding", "I", false)
  | 1 => ("LastPageModel", "findings", "[I", true)
  | 2 => ("LastPageModel", "asked", "I", false)
  | 3 => ("LastPageModel", "upper", "J", false)
  | 4 => ("LastPageModel", "lower", "J", false)
  | 5 => ("LastPageModel", "sizes", "[I", true)
  | 6 => ("LastPageModel", "rows", "[I", true)
  | 7 => ("LastPageModel", "moving", "[I", true)
  | 8 => ("LastPageModel", "lengths", "[I", true)
  | 9 => ("LastPageModel", "texts", "[I", true)
  | 10 => ("LastPageModel", "many", "I", false)
  | 11 => ("LastPageModel", "kinds", "[I", true)
  | 12 => ("LastPageModel", "verdicts", "[I", true)
  | 13 => ("LastPageModel", "words", "[I", true)
  | 14 => ("LastPageModel", "points", "[I", true)
  | 15 => ("LastPageModel", "facts", "[I", true)
  | 16 => ("LastPageModel", "days", "[I", true)
  | 17 => ("LastPageModel", "readAt", "I", false)
  | 18 => ("LastPageModel", "readMany", "I", false)
  | 19 => ("LastPageModel", "readPages", "[I", true)
  | 20 => ("LastPageModel", "leftOut", "I", false)
  | 21 => ("LastPageModel", "kept", "[I", true)
  | 22 => ("LastPageModel", "ways", "I", false)
  | 23 => ("LastPageModel", "told", "[I", true)
  | 24 => ("LastPageModel", "bestLast", "I", false)
  | 25 => ("LastPageModel", "laid", "[I", true)
  | 26 => ("LastPageModel", "flipDay", "I", false)
  | 27 => ("LastPageModel", "daysAside", "[I", true)
  | 28 => ("LastPageModel", "bestWaits", "I", false)
  | 29 => ("LastPageModel", "bestLaid", "[I", true)
  | _ => ("LastPageModel", "h0", "J", false)
def tyX8 : Nat → FieldType := fun k => match k with
  | 0 => .int
  | 1 => .array .int
  | 2 => .int
  | 3 => .long
  | 4 => .long
  | 5 => .array .int
  | 6 => .array .int
  | 7 => .array .int
  | 8 => .array .int
  | 9 => .array .int
  | 10 => .int
  | 11 => .array .int
  | 12 => .array .int
  | 13 => .array .int
  | 14 => .array .int
  | 15 => .array .int
  | 16 => .array .int
  | 17 => .int
  | 18 => .int
  | 19 => .array .int
  | 20 => .int
  | 21 => .array .int
  | 22 => .int
  | 23 => .array .int
  | 24 => .int
  | 25 => .array .int
  | 26 => .int
  | 27 => .array .int
  | 28 => .int
  | 29 => .array .int
  | _ => .long
abbrev wsX80 : List Cond := u_ws RX8 TX8 31
theorem nmX8 : ∀ a, a < 31 → ∀ b, b < 31 → a ≠ b → (TX8 a).2.1 ≠ (TX8 b).2.1 := by decide +kernel
theorem tyX8_ok : ∀ k, k < 31 → parseFieldDescriptor (TX8 k).2.2.1 = some (tyX8 k) := by decide +kernel
abbrev cX8_init : ByteArray := prog_10_method_1_code
def yX8_init : MethodName := ⟨RX8, "<init>", "()V"⟩
abbrev cX8_in : ByteArray := prog_10_method_3_code
def yX8_in : MethodName := ⟨RX8, "in", "(III)Z"⟩
abbrev cX8_meet : ByteArray := prog_10_method_4_code
def yX8_meet : MethodName := ⟨RX8, "meet", "(I)I"⟩
abbrev cX8_ask : ByteArray := prog_10_method_5_code
def yX8_ask : MethodName := ⟨RX8, "ask", "(II)I"⟩
abbrev cX8_has : ByteArray := prog_10_method_6_code
def yX8_has : MethodName := ⟨RX8, "has", "(II)Z"⟩
abbrev cX8_sizeOf : ByteArray := prog_10_method_7_code
def yX8_sizeOf : MethodName := ⟨RX8, "sizeOf", "(I)I"⟩
abbrev cX8_isRow : ByteArray := prog_10_method_8_code
def yX8_isRow : MethodName := ⟨RX8, "isRow", "(I)Z"⟩
abbrev cX8_isText : ByteArray := prog_10_method_9_code
def yX8_isText : MethodName := ⟨RX8, "isText", "(I)Z"⟩
abbrev cX8_askedRow : ByteArray := prog_10_method_10_code
def yX8_askedRow : MethodName := ⟨RX8, "askedRow", "(I)I"⟩
abbrev cX8_askedText : ByteArray := prog_10_method_11_code
def yX8_askedText : MethodName := ⟨RX8, "askedText", "(I)I"⟩
abbrev cX8_rowAt : ByteArray := prog_10_method_12_code
def yX8_rowAt : MethodName := ⟨RX8, "rowAt", "(II)I"⟩
abbrev cX8_setRow : ByteArray := prog_10_method_13_code
def yX8_setRow : MethodName := ⟨RX8, "setRow", "(III)V"⟩
abbrev cX8_row : ByteArray := prog_10_method_14_code
def yX8_row : MethodName := ⟨RX8, "row", "(II)I"⟩
abbrev cX8_at : ByteArray := prog_10_method_15_code
def yX8_at : MethodName := ⟨RX8, "at", "(II)I"⟩
abbrev cX8_lay : ByteArray := prog_10_method_16_code
def yX8_lay : MethodName := ⟨RX8, "lay", "(III)I"⟩
abbrev cX8_tear : ByteArray := prog_10_method_17_code
def yX8_tear : MethodName := ⟨RX8, "tear", "(I)I"⟩
abbrev cX8_copy : ByteArray := prog_10_method_18_code
def yX8_copy : MethodName := ⟨RX8, "copy", "(IIIII)I"⟩
abbrev cX8_mean : ByteArray := prog_10_method_19_code
def yX8_mean : MethodName := ⟨RX8, "mean", "(I)I"⟩
abbrev cX8_text : ByteArray := prog_10_method_20_code
def yX8_text : MethodName := ⟨RX8, "text", "(II)I"⟩
abbrev cX8_put : ByteArray := prog_10_method_21_code
def yX8_put : MethodName := ⟨RX8, "put", "(III)I"⟩
abbrev cX8_here : ByteArray := prog_10_method_22_code
def yX8_here : MethodName := ⟨RX8, "here", "(I)I"⟩
abbrev cX8_kindOf : ByteArray := prog_10_method_23_code
def yX8_kindOf : MethodName := ⟨RX8, "kindOf", "(I)I"⟩
abbrev cX8_figure : ByteArray := prog_10_method_24_code
def yX8_figure : MethodName := ⟨RX8, "figure", "(III)I"⟩
abbrev cX8_doesPoint : ByteArray := prog_10_method_25_code
def yX8_doesPoint : MethodName := ⟨RX8, "doesPoint", "(I)Z"⟩
abbrev cX8_readsWords : ByteArray := prog_10_method_26_code
def yX8_readsWords : MethodName := ⟨RX8, "readsWords", "(I)I"⟩
abbrev cX8_readsPage : ByteArray := prog_10_method_27_code
def yX8_readsPage : MethodName := ⟨RX8, "readsPage", "(I)Z"⟩
abbrev cX8_goesOn : ByteArray := prog_10_method_28_code
def yX8_goesOn : MethodName := ⟨RX8, "goesOn", "(I)I"⟩
abbrev cX8_fault : ByteArray := prog_10_method_29_code
def yX8_fault : MethodName := ⟨RX8, "fault", "(I)I"⟩
abbrev cX8_book : ByteArray := prog_10_method_30_code
def yX8_book : MethodName := ⟨RX8, "book", "(I)I"⟩
abbrev cX8_isPage : ByteArray := prog_10_method_31_code
def yX8_isPage : MethodName := ⟨RX8, "isPage", "(I)Z"⟩
abbrev cX8_isDay : ByteArray := prog_10_method_32_code
def yX8_isDay : MethodName := ⟨RX8, "isDay", "(I)Z"⟩
abbrev cX8_isCase : ByteArray := prog_10_method_33_code
def yX8_isCase : MethodName := ⟨RX8, "isCase", "(I)Z"⟩
abbrev cX8_isA : ByteArray := prog_10_method_34_code
def yX8_isA : MethodName := ⟨RX8, "isA", "(II)Z"⟩
abbrev cX8_pageOf : ByteArray := prog_10_method_35_code
def yX8_pageOf : MethodName := ⟨RX8, "pageOf", "(II)I"⟩
abbrev cX8_page : ByteArray := prog_10_method_36_code
def yX8_page : MethodName := ⟨RX8, "page", "(II)I"⟩
abbrev cX8_doesBind : ByteArray := prog_10_method_37_code
def yX8_doesBind : MethodName := ⟨RX8, "doesBind", "(II)Z"⟩
abbrev cX8_bindSet : ByteArray := prog_10_method_38_code
def yX8_bindSet : MethodName := ⟨RX8, "bindSet", "(I)I"⟩
abbrev cX8_binds : ByteArray := prog_10_method_39_code
def yX8_binds : MethodName := ⟨RX8, "binds", "(I)I"⟩
abbrev cX8_weightOf : ByteArray := prog_10_method_40_code
def yX8_weightOf : MethodName := ⟨RX8, "weightOf", "(I)I"⟩
abbrev cX8_mark : ByteArray := prog_10_method_41_code
def yX8_mark : MethodName := ⟨RX8, "mark", "(II)I"⟩
abbrev cX8_reverse : ByteArray := prog_10_method_42_code
def yX8_reverse : MethodName := ⟨RX8, "reverse", "(II)I"⟩
abbrev cX8_swap : ByteArray := prog_10_method_43_code
def yX8_swap : MethodName := ⟨RX8, "swap", "(II)I"⟩
abbrev cX8_read : ByteArray := prog_10_method_44_code
def yX8_read : MethodName := ⟨RX8, "read", "(I)I"⟩
abbrev cX8_add : ByteArray := prog_10_method_45_code
def yX8_add : MethodName := ⟨RX8, "add", "(II)I"⟩
abbrev cX8_rip : ByteArray := prog_10_method_46_code
def yX8_rip : MethodName := ⟨RX8, "rip", "()I"⟩
abbrev cX8_keep : ByteArray := prog_10_method_47_code
def yX8_keep : MethodName := ⟨RX8, "keep", "(I)I"⟩
abbrev cX8_on : ByteArray := prog_10_method_48_code
def yX8_on : MethodName := ⟨RX8, "on", "(I)I"⟩
abbrev cX8_meanOf : ByteArray := prog_10_method_49_code
def yX8_meanOf : MethodName := ⟨RX8, "meanOf", "(II)I"⟩
abbrev cX8_means : ByteArray := prog_10_method_50_code
def yX8_means : MethodName := ⟨RX8, "means", "(II)I"⟩
abbrev cX8_meanings : ByteArray := prog_10_method_51_code
def yX8_meanings : MethodName := ⟨RX8, "meanings", "(I)I"⟩
abbrev cX8_isInRing : ByteArray := prog_10_method_52_code
def yX8_isInRing : MethodName := ⟨RX8, "isInRing", "(I)Z"⟩
abbrev cX8_never : ByteArray := prog_10_method_53_code
def yX8_never : MethodName := ⟨RX8, "never", "()I"⟩
abbrev cX8_judgeBy : ByteArray := prog_10_method_54_code
def yX8_judgeBy : MethodName := ⟨RX8, "judgeBy", "(II)I"⟩
abbrev cX8_soOf : ByteArray := prog_10_method_55_code
def yX8_soOf : MethodName := ⟨RX8, "soOf", "(III)I"⟩
abbrev cX8_givenBy : ByteArray := prog_10_method_56_code
def yX8_givenBy : MethodName := ⟨RX8, "givenBy", "(IIII)I"⟩
abbrev cX8_onesOf : ByteArray := prog_10_method_57_code
def yX8_onesOf : MethodName := ⟨RX8, "onesOf", "(IIII)I"⟩
abbrev cX8_isOn : ByteArray := prog_10_method_58_code
def yX8_isOn : MethodName := ⟨RX8, "isOn", "(II)I"⟩
abbrev cX8_verdict : ByteArray := prog_10_method_59_code
def yX8_verdict : MethodName := ⟨RX8, "verdict", "(II)I"⟩
abbrev cX8_judge : ByteArray := prog_10_method_60_code
def yX8_judge : MethodName := ⟨RX8, "judge", "(III)I"⟩
abbrev cX8_odds : ByteArray := prog_10_method_61_code
def yX8_odds : MethodName := ⟨RX8, "odds", "(II)I"⟩
abbrev cX8_waitsOn : ByteArray := prog_10_method_62_code
def yX8_waitsOn : MethodName := ⟨RX8, "waitsOn", "(II)I"⟩
abbrev cX8_waits : ByteArray := prog_10_method_63_code
def yX8_waits : MethodName := ⟨RX8, "waits", "(I)I"⟩
abbrev cX8_allWaits : ByteArray := prog_10_method_64_code
def yX8_allWaits : MethodName := ⟨RX8, "allWaits", "()I"⟩
abbrev cX8_all : ByteArray := prog_10_method_65_code
def yX8_all : MethodName := ⟨RX8, "all", "()I"⟩
abbrev cX8_freeFrom : ByteArray := prog_10_method_66_code
def yX8_freeFrom : MethodName := ⟨RX8, "freeFrom", "(II)I"⟩
abbrev cX8_free : ByteArray := prog_10_method_67_code
def yX8_free : MethodName := ⟨RX8, "free", "(II)I"⟩
abbrev cX8_askedDeeds : ByteArray := prog_10_method_68_code
def yX8_askedDeeds : MethodName := ⟨RX8, "askedDeeds", "(II)I"⟩
abbrev cX8_layTold : ByteArray := prog_10_method_69_code
def yX8_layTold : MethodName := ⟨RX8, "layTold", "(II)V"⟩
abbrev cX8_deeds : ByteArray := prog_10_method_70_code
def yX8_deeds : MethodName := ⟨RX8, "deeds", "(II)I"⟩
abbrev cX8_orderOn : ByteArray := prog_10_method_71_code
def yX8_orderOn : MethodName := ⟨RX8, "orderOn", "(IIII)V"⟩
abbrev cX8_order : ByteArray := prog_10_method_72_code
def yX8_order : MethodName := ⟨RX8, "order", "(II)I"⟩
abbrev cX8_flipsOf : ByteArray := prog_10_method_73_code
def yX8_flipsOf : MethodName := ⟨RX8, "flipsOf", "(II)I"⟩
abbrev cX8_flips : ByteArray := prog_10_method_74_code
def yX8_flips : MethodName := ⟨RX8, "flips", "(I)I"⟩
abbrev cX8_flip : ByteArray := prog_10_method_75_code
def yX8_flip : MethodName := ⟨RX8, "flip", "(II)I"⟩
abbrev cX8_most : ByteArray := prog_10_method_76_code
def yX8_most : MethodName := ⟨RX8, "most", "()I"⟩
abbrev cX8_matter : ByteArray := prog_10_method_77_code
def yX8_matter : MethodName := ⟨RX8, "matter", "(II)I"⟩
abbrev cX8_putAside : ByteArray := prog_10_method_78_code
def yX8_putAside : MethodName := ⟨RX8, "putAside", "()V"⟩
abbrev cX8_comeBack : ByteArray := prog_10_method_79_code
def yX8_comeBack : MethodName := ⟨RX8, "comeBack", "()V"⟩
abbrev cX8_readOn : ByteArray := prog_10_method_80_code
def yX8_readOn : MethodName := ⟨RX8, "readOn", "(II)V"⟩
abbrev cX8_best : ByteArray := prog_10_method_81_code
def yX8_best : MethodName := ⟨RX8, "best", "(I)I"⟩
abbrev cX8_front : ByteArray := prog_10_method_82_code
def yX8_front : MethodName := ⟨RX8, "front", "()I"⟩
abbrev cX8_meant : ByteArray := prog_10_method_83_code
def yX8_meant : MethodName := ⟨RX8, "meant", "(I)I"⟩
abbrev cX8_kinds : ByteArray := prog_10_method_84_code
def yX8_kinds : MethodName := ⟨RX8, "kinds", "(IIII)I"⟩
abbrev cX8_lots : ByteArray := prog_10_method_85_code
def yX8_lots : MethodName := ⟨RX8, "lots", "(II)I"⟩
abbrev cX8_asked : ByteArray := prog_10_method_86_code
def yX8_asked : MethodName := ⟨RX8, "asked", "()I"⟩
abbrev cX8_upper : ByteArray := prog_10_method_87_code
def yX8_upper : MethodName := ⟨RX8, "upper", "()J"⟩
abbrev cX8_lower : ByteArray := prog_10_method_88_code
def yX8_lower : MethodName := ⟨RX8, "lower", "()J"⟩
abbrev cX8_tells : ByteArray := prog_10_method_89_code
def yX8_tells : MethodName := ⟨RX8, "tells", "(I)I"⟩
abbrev cX8_count : ByteArray := prog_10_method_90_code
def yX8_count : MethodName := ⟨RX8, "count", "(I)I"⟩
abbrev cX8_finding : ByteArray := prog_10_method_91_code
def yX8_finding : MethodName := ⟨RX8, "finding", "()I"⟩
abbrev cX8_findings : ByteArray := prog_10_method_92_code
def yX8_findings : MethodName := ⟨RX8, "findings", "(I)I"⟩
abbrev cX8_mix : ByteArray := prog_10_method_93_code
def yX8_mix : MethodName := ⟨RX8, "mix", "(I)V"⟩
abbrev cX8_digest : ByteArray := prog_10_method_94_code
def yX8_digest : MethodName := ⟨RX8, "digest", "()J"⟩
def RJ6 : String := "java/lang/Integer"
abbrev cJ6_bitCount_0f7a4 : ByteArray := prog_11_method_49_code
def yJ6_bitCount_0f7a4 : MethodName := ⟨RJ6, "bitCount", "(I)I"⟩
def RJ9 : String := "java/lang/Math"
abbrev cJ9_min_7cf53 : ByteArray := prog_12_method_69_code
def yJ9_min_7cf53 : MethodName := ⟨RJ9, "min", "(II)I"⟩
def RJ10 : String := "java/lang/System"
def RJ7 : String := "java/util/Arrays"
abbrev cJ7_fill_53178 : ByteArray := prog_14_method_103_code
def yJ7_fill_53178 : MethodName := ⟨RJ7, "fill", "([II)V"⟩
def RL : String := "LastPageLaw"
abbrev cL_law : ByteArray := code
def yL_law : MethodName := ⟨RL, "law", "([I)Z"⟩
abbrev vwCl : List vw_C := [(RX0, TX0, 3), (RX1, TX1, 8), (RX2, TX2, 3), (RX3, TX3, 7), (RX4, TX4, 7), (RX5, TX5, 5), (RX6, TX6, 2), (RX7, TX7, 14), (RX8, TX8, 31)]
