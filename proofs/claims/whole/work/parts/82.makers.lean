theorem tz_cl14 : Cond.classLink RL 7 RX7 ∈ tbs := tbs_of (List.mem_of_getElem? (i := 68) (by decide +kernel)) rfl
theorem tz_is15 : Cond.instantiable RX7 14 ∈ tbs := tbs_of (List.mem_of_getElem? (i := 69) (by decide +kernel)) rfl
theorem tz_cl22 : Cond.classLink RX7 7 RX6 ∈ tbs := tbs_of (List.mem_of_getElem? (i := 76) (by decide +kernel)) rfl
theorem tz_is23 : Cond.instantiable RX6 2 ∈ tbs := tbs_of (List.mem_of_getElem? (i := 77) (by decide +kernel)) rfl
theorem tz_cl28 : Cond.classLink RX6 9 "[[I" ∈ tbs := tbs_of (List.mem_of_getElem? (i := 82) (by decide +kernel)) rfl
theorem tz_cl41 : Cond.classLink RX7 21 RX0 ∈ tbs := tbs_of (List.mem_of_getElem? (i := 95) (by decide +kernel)) rfl
theorem tz_is42 : Cond.instantiable RX0 3 ∈ tbs := tbs_of (List.mem_of_getElem? (i := 96) (by decide +kernel)) rfl
theorem tz_cl47 : Cond.classLink RX0 9 RX3 ∈ tbs := tbs_of (List.mem_of_getElem? (i := 101) (by decide +kernel)) rfl
theorem tz_is49 : Cond.instantiable RX3 7 ∈ tbs := tbs_of (List.mem_of_getElem? (i := 103) (by decide +kernel)) rfl
theorem tz_cl104 : Cond.classLink RX7 35 RX5 ∈ tbs := tbs_of (List.mem_of_getElem? (i := 158) (by decide +kernel)) rfl
theorem tz_is105 : Cond.instantiable RX5 5 ∈ tbs := tbs_of (List.mem_of_getElem? (i := 159) (by decide +kernel)) rfl
theorem tz_cl126 : Cond.classLink RX7 42 RX1 ∈ tbs := tbs_of (List.mem_of_getElem? (i := 180) (by decide +kernel)) rfl
theorem tz_is127 : Cond.instantiable RX1 8 ∈ tbs := tbs_of (List.mem_of_getElem? (i := 181) (by decide +kernel)) rfl
theorem tz_cl162 : Cond.classLink RX7 49 RX4 ∈ tbs := tbs_of (List.mem_of_getElem? (i := 216) (by decide +kernel)) rfl
theorem tz_is163 : Cond.instantiable RX4 7 ∈ tbs := tbs_of (List.mem_of_getElem? (i := 217) (by decide +kernel)) rfl
theorem tz_cl191 : Cond.classLink RX7 56 RX2 ∈ tbs := tbs_of (List.mem_of_getElem? (i := 245) (by decide +kernel)) rfl
theorem tz_is192 : Cond.instantiable RX2 3 ∈ tbs := tbs_of (List.mem_of_getElem? (i := 246) (by decide +kernel)) rfl
theorem tz_cl799 : Cond.classLink RL 10 RX8 ∈ tbs := tbs_of (List.mem_of_getElem? (i := 853) (by decide +kernel)) rfl
theorem tz_is800 : Cond.instantiable RX8 31 ∈ tbs := tbs_of (List.mem_of_getElem? (i := 854) (by decide +kernel)) rfl
theorem dfX0 : ∀ j, j < 3 → defaultValue (tyX0 j) = vp_V [.null, .null, .int 0] j := by
  intro j hj
  rcases (show j = 0 ∨ j = 1 ∨ j = 2 by omega) with rfl | rfl | rfl <;> rfl
theorem dfX1 : ∀ j, j < 8 → defaultValue (tyX1 j) = vp_V [.null, .int 0, .int 0, .int 0, .null, .null, .int 0, .null] j := by
  intro j hj
  rcases (show j = 0 ∨ j = 1 ∨ j = 2 ∨ j = 3 ∨ j = 4 ∨ j = 5 ∨ j = 6 ∨ j = 7 by omega) with rfl | rfl | rfl | rfl | rfl | rfl | rfl | rfl <;> rfl
theorem dfX2 : ∀ j, j < 3 → defaultValue (tyX2 j) = vp_V [.null, .null, .int 0] j := by
  intro j hj
  rcases (show j = 0 ∨ j = 1 ∨ j = 2 by omega) with rfl | rfl | rfl <;> rfl
theorem dfX3 : ∀ j, j < 7 → defaultValue (tyX3 j) = vp_V [.int 0, .int 0, .int 0, .int 0, .int 0, .int 0, .int 0] j := by
  intro j hj
  rcases (show j = 0 ∨ j = 1 ∨ j = 2 ∨ j = 3 ∨ j = 4 ∨ j = 5 ∨ j = 6 by omega) with rfl | rfl | rfl | rfl | rfl | rfl | rfl <;> rfl
theorem dfX4 : ∀ j, j < 7 → defaultValue (tyX4 j) = vp_V [.null, .null, .int 0, .null, .null, .null, .int 0] j := by
  intro j hj
  rcases (show j = 0 ∨ j = 1 ∨ j = 2 ∨ j = 3 ∨ j = 4 ∨ j = 5 ∨ j = 6 by omega) with rfl | rfl | rfl | rfl | rfl | rfl | rfl <;> rfl
theorem dfX5 : ∀ j, j < 5 → defaultValue (tyX5 j) = vp_V [.null, .int 0, .int 0, .int 0, .int 0] j := by
  intro j hj
  rcases (show j = 0 ∨ j = 1 ∨ j = 2 ∨ j = 3 ∨ j = 4 by omega) with rfl | rfl | rfl | rfl | rfl <;> rfl
theorem dfX6 : ∀ j, j < 2 → defaultValue (tyX6 j) = vp_V [.null, .null] j := by
  intro j hj
  rcases (show j = 0 ∨ j = 1 by omega) with rfl | rfl <;> rfl
theorem dfX7 : ∀ j, j < 14 → defaultValue (tyX7 j) = vp_V [.null, .null, .null, .null, .null, .null, .null, .null, .null, .null, .int 0, .int 0, .long 0, .long 0] j := by
  intro j hj
  rcases (show j = 0 ∨ j = 1 ∨ j = 2 ∨ j = 3 ∨ j = 4 ∨ j = 5 ∨ j = 6 ∨ j = 7 ∨ j = 8 ∨ j = 9 ∨ j = 10 ∨ j = 11 ∨ j = 12 ∨ j = 13 by omega) with rfl | rfl | rfl | rfl | rfl | rfl | rfl | rfl | rfl | rfl | rfl | rfl | rfl | rfl <;> rfl
theorem dfX8 : ∀ j, j < 31 → defaultValue (tyX8 j) = vp_V [.int 0, .null, .int 0, .long 0, .long 0, .null, .null, .null, .null, .null, .int 0, .null, .null, .null, .null, .null, .null, .int 0, .int 0, .null, .int 0, .null, .int 0, .null, .int 0, .null, .int 0, .null, .int 0, .null, .long 0] j := by
  intro j hj
  rcases (show j = 0 ∨ j = 1 ∨ j = 2 ∨ j = 3 ∨ j = 4 ∨ j = 5 ∨ j = 6 ∨ j = 7 ∨ j = 8 ∨ j = 9 ∨ j = 10 ∨ j = 11 ∨ j = 12 ∨ j = 13 ∨ j = 14 ∨ j = 15 ∨ j = 16 ∨ j = 17 ∨ j = 18 ∨ j = 19 ∨ j = 20 ∨ j = 21 ∨ j = 22 ∨ j = 23 ∨ j = 24 ∨ j = 25 ∨ j = 26 ∨ j = 27 ∨ j = 28 ∨ j = 29 ∨ j = 30 by omega) with rfl | rfl | rfl | rfl | rfl | rfl | rfl | rfl | rfl | rfl | rfl | rfl | rfl | rfl | rfl | rfl | rfl | rfl | rfl | rfl | rfl | rfl | rfl | rfl | rfl | rfl | rfl | rfl | rfl | rfl | rfl <;> rfl
abbrev eI (cI : ClassId) (n : Nat) : va_E := .inl (cI, n, .inl (fun _ => 0))
abbrev eN (cI : ClassId) (n : Nat) : va_E := .inl (cI, n, .inl (fun _ => -1))
abbrev eQ (c : ClassId) (n h : Nat) : va_E := .inl (c, n, .inr (.inr (.inr (.inr (fun k => some (h + k))))))
abbrev eP : va_E := .inr (3, [.int 0, .int 0, .int 0, .int 0, .int 0, .int 0, .int 0])
theorem Im.one {D : va_G} {b : Nat} {e e' : va_E} {H : Heap} (h : Im D b [e] H) (h2 : va_at D vwCl (b, e') H) : Im D b [e'] H := by
  have := h.set (o := 0) (e' := e') h2 rfl (fun _ _ => rfl)
  exact this
section FILL
variable {p : Program} {l : Launch} {e : Env} {R : Room} {s : State} {m : MethodId} {args : Array Value} {below : List Frame} {meth : Method} {c : Code} {locs : List Loc} {cells slots : Nat} {Q : State → Prop}
variable {D : va_G} {cI cP cB cA : ClassId} {b : Nat} {L : List va_E} {cc : ByteArray} {nL : Nat} {own : String} {pc : Nat} {ls : Array Slot} {rest : List Value}
theorem zLen {H : Heap} (X : Cz D cI cP cB cA p s m c cc nL args own) (hI : Im D b L H) {o N : Nat} {f : Nat → Int32} (ho : L[o]? = some (.inl (cI, N, .inl f))) (hd : decode cc pc = .ok (.arraylength, 1))
    (kk : W p l e R s m args below meth c H locs cells slots Q (F0 m (pc + 1) ls (.int (Int32.ofNat N) :: rest))) : W p l e R s m args below meth c H locs cells slots Q (F0 m pc ls (.ref (b + o) :: rest)) :=
  va_alen (D := D) X.1.1 X.1.2.1 X.2.1 (one1 (hI.2 o _ ho)) 0 0 rfl (ty := .int) rfl rfl hd kk
set_option maxHeartbeats 4000000 in
theorem fill_loop {n : Nat} (hn : n ≤ 6) (X : Cz D cI cP cB cA p s m c cJ7_fill_53178 4 args RJ7) (hr : meth.sig.returnType = none) (hlk : meth.locks = false) : ∀ (k i : Nat) (H : Heap) (locs : List Loc) (ls : Array Slot), i + k = n → Im D b [.inl (cI, n, .inl (fun j => if j < i then -1 else 0))] H → va_S (fr9 b) s.heap H locs → lv_has ls 4 [(2, .int (nI i)), (3, .int (nI n)), (0, .ref b), (1, .int (-1))] → W p l e (rmN 1 0 0) s m args below meth c H locs 0 0 (MQ below (QN D b [eN cI n]) args s 0 0 (fr9 b)) (F0 m 5 ls []) := by
  have hx := X.1.1
  have hb := X.1.2.1
  intro k
  induction k with
  | zero =>
    intro i H locs ls hi hI hS hl
    refine lv_iload_n hx hb dJ7_fill_53178_5 rfl (lv_at hl 0 rfl) ?_
    refine lv_iload_n hx hb dJ7_fill_53178_6 rfl (lv_at hl 1 rfl) ?_
    refine lv_icmp_ge (tgt := 20) hx hb dJ7_fill_53178_7 (by decide) (fun _ => ?_) (fun c9 => absurd (nI_le (by omega) (by omega)) c9)
    have hI := hI.one (e' := eN cI n) (at_i (hI.2 0 _ rfl) (fun j hj => by rw [if_pos (by omega)]))
    exact zRet X hr hlk hI hS dJ7_fill_53178_20
  | succ k ih =>
    intro i H locs ls hi hI hS hl
    refine lv_iload_n hx hb dJ7_fill_53178_5 rfl (lv_at hl 0 rfl) ?_
    refine lv_iload_n hx hb dJ7_fill_53178_6 rfl (lv_at hl 1 rfl) ?_
    refine lv_icmp_ge (tgt := 20) hx hb dJ7_fill_53178_7 (by decide) (fun c9 => absurd c9 (nI_ge (by omega) (by omega))) (fun _ => ?_)
    refine lv_aload_n hx hb dJ7_fill_53178_10 rfl (lv_at hl 2 rfl) ?_
    refine lv_iload_n hx hb dJ7_fill_53178_11 rfl (lv_at hl 0 rfl) ?_
    refine lv_iload_n hx hb dJ7_fill_53178_12 rfl (lv_at hl 3 rfl) ?_
    refine zAst (o := 0) (L := [.inl (cI, n, .inl (fun j => if j < i then -1 else 0))]) X hI hS rfl (vp_in_nI (by omega) (by omega)) dJ7_fill_53178_13 (fun H locs hI hS => ?_)
    have hI : Im D b [.inl (cI, n, .inl (fun j => if j < i + 1 then -1 else 0))] H := by
      have e : upd (fun j => if j < i then (-1 : Int32) else 0) (nI i).toNatClampNeg (-1) = fun j => if j < i + 1 then -1 else 0 := by
        funext j
        rw [nI_clamp (by omega)]
        unfold upd
        by_cases c1 : j = i
        · rw [if_pos c1, if_pos (by omega)]
        · rw [if_neg c1]
          show (if j < i then (-1 : Int32) else 0) = _
          by_cases c2 : j < i
          · rw [if_pos c2, if_pos (by omega)]
          · rw [if_neg c2, if_neg (by omega)]
      rw [e] at hI
      exact hI
    refine lv_iinc (v := nI (i + 1)) (lv' := [(2, .int (nI (i + 1))), (3, .int (nI n)), (0, .ref b), (1, .int (-1))]) hx hb dJ7_fill_53178_14 hl (k := 0) rfl (nI_1 i) (by decide) rfl (fun ls hl => ?_)
    refine lv_goto (tgt := 5) hx hb dJ7_fill_53178_17 (by decide) ?_
    exact ih (i + 1) H locs ls (by omega) hI hS hl
end FILL
set_option maxHeartbeats 4000000 in
theorem n_fill {l : Launch} {D : va_G} {cI cP cB cA : ClassId} {b n : Nat} (hn : n ≤ 6) : CtN l D cI cP cB cA yJ7_fill_53178 cJ7_fill_53178 4 1 0 0 [.ref b, .int (-1 : Int32)] b [eI cI n] [eN cI n] := by
  refine ctNF (by decide) (Nat.le_of_ble_eq_true rfl) ?_
  intro p e s m args below meth c ls X hr hlk hI hl
  have hS : va_S (fr9 b) s.heap s.heap [] := va_S.rf
  have hx := X.1.1
  have hb := X.1.2.1
  have hl : lv_has ls 4 [(0, .ref b), (1, .int (-1))] := hl
  refine lv_iconst (v := 0) hx hb dJ7_fill_53178_0 (by decide) ?_
  refine lv_istore_n (lv' := [(2, .int 0), (0, .ref b), (1, .int (-1))]) hx hb dJ7_fill_53178_1 rfl hl (by decide) rfl (fun ls hl => ?_)
  refine lv_aload_n hx hb dJ7_fill_53178_2 rfl (lv_at hl 1 rfl) ?_
  refine zLen (o := 0) (L := [eI cI n]) X hI rfl dJ7_fill_53178_3 ?_
  refine lv_istore_n (lv' := [(3, .int (nI n)), (2, .int 0), (0, .ref b), (1, .int (-1))]) hx hb dJ7_fill_53178_4 rfl hl (by decide) rfl (fun ls hl => ?_)
  refine fill_loop hn X hr hlk n 0 _ _ ls (by omega) (hI.one (at_i (hI.2 0 _ rfl) (fun j hj => by rw [if_neg (by omega)]))) hS (lv_sub hl [1, 0, 2, 3] rfl)
set_option maxHeartbeats 4000000 in
set_option maxRecDepth 100000 in
theorem n_X3_init {l : Launch} {D : va_G} {cI cP cB cA : ClassId} {b : Nat} : CtN l D cI cP cB cA yX3_init cX3_init 1 1 0 0 [.ref b] b [eP] [eP] := by
  refine ctN (by decide) (Nat.le_of_ble_eq_true rfl) ?_
  intro p e s m args below meth c ls X hr hlk hin hI hl
  have hS : va_S (fr9 b) s.heap s.heap [] := va_S.rf
  have hx := X.1.1
  have hb := X.1.2.1
  have hl : lv_has ls 1 [(0, .ref b)] := hl
  refine lv_aload_n hx hb dX3_init_0 rfl (lv_at hl 0 rfl) ?_
  refine zObj X hl.1 tw_115 (Nat.le_of_ble_eq_true rfl) (Nat.le_of_ble_eq_true rfl) dX3_init_1 ?_
  refine W.widen (k := 0) (n := 0) (Nat.le_of_ble_eq_true rfl) (Nat.le_of_ble_eq_true rfl) ?_
  exact zRet X hr hlk hI hS dX3_init_4
set_option maxHeartbeats 4000000 in
set_option maxRecDepth 100000 in
theorem n_X5_init {l : Launch} {D : va_G} {cI cP cB cA : ClassId} {b : Nat} : CtN l D cI cP cB cA yX5_init cX5_init 1 1 0 0 [.ref b] b [.inr (5, [.null, .int 0, .int 0, .int 0, .int 0])] [.inr (5, [.null, .int 0, .int 0, .int 0, .int 0])] := by
  refine ctN (by decide) (Nat.le_of_ble_eq_true rfl) ?_
  intro p e s m args below meth c ls X hr hlk hin hI hl
  have hS : va_S (fr9 b) s.heap s.heap [] := va_S.rf
  have hx := X.1.1
  have hb := X.1.2.1
  have hl : lv_has ls 1 [(0, .ref b)] := hl
  refine lv_aload_n hx hb dX5_init_0 rfl (lv_at hl 0 rfl) ?_
  refine zObj X hl.1 tw_117 (Nat.le_of_ble_eq_true rfl) (Nat.le_of_ble_eq_true rfl) dX5_init_1 ?_
  refine W.widen (k := 0) (n := 0) (Nat.le_of_ble_eq_true rfl) (Nat.le_of_ble_eq_true rfl) ?_
  exact zRet X hr hlk hI hS dX5_init_4
set_option maxHeartbeats 4000000 in
set_option maxRecDepth 100000 in
theorem n_X1_init {l : Launch} {D : va_G} {cI cP cB cA : ClassId} {b : Nat} : CtN l D cI cP cB cA yX1_init cX1_init 1 1 4 43 [.ref b] b [.inr (1, [.null, .int 0, .int 0, .int 0, .null, .null, .int 0, .null])] [.inr (1, [.ref (b + 1), .int 0, .int 0, .int 0, .ref (b + 2), .ref (b + 3), .int 0, .ref (b + 4)]), eI cI 25, eI cI 6, eI cI 6, eI cI 6] := by
  refine ctN (by decide) (Nat.le_of_ble_eq_true rfl) ?_
  intro p e s m args below meth c ls X hr hlk hin hI hl
  have hS : va_S (fr9 b) s.heap s.heap [] := va_S.rf
  have hx := X.1.1
  have hb := X.1.2.1
  have hl : lv_has ls 1 [(0, .ref b)] := hl
  refine lv_aload_n hx hb dX1_init_0 rfl (lv_at hl 0 rfl) ?_
  refine zObj X hl.1 tw_119 (Nat.le_of_ble_eq_true rfl) (Nat.le_of_ble_eq_true rfl) dX1_init_1 ?_
  refine lv_aload_n hx hb dX1_init_4 rfl (lv_at hl 0 rfl) ?_
  refine lv_bipush (v := (25 : Int32)) hx hb dX1_init_5 (by decide) ?_
  refine zArr (N := 25) (L := [.inr (1, [.null, .int 0, .int 0, .int 0, .null, .null, .int 0, .null])]) X hI hS (by decide) (by decide) (Nat.le_of_ble_eq_true rfl) (Nat.le_of_ble_eq_true rfl) (Nat.le_of_ble_eq_true rfl) dX1_init_7 (fun H hI hS => ?_)
  have hI : Im D b [.inr (1, [.null, .int 0, .int 0, .int 0, .null, .null, .int 0, .null]), eI cI 25] H := hI
  refine zPutF (o := 0) (k := 0) (v := .ref (b + 1)) (L := [.inr (1, [.null, .int 0, .int 0, .int 0, .null, .null, .int 0, .null]), eI cI 25]) X hI hS hin rfl rfl inX1 tyX1 tyX1_ok nmX1 (by decide) rfl rfl rfl rfl (Nat.le_of_ble_eq_true rfl) tw_34 dX1_init_9 (fun H locs hI hS => ?_)
  have hI : Im D b [.inr (1, [.ref (b + 1), .int 0, .int 0, .int 0, .null, .null, .int 0, .null]), eI cI 25] H := hI
  refine lv_aload_n hx hb dX1_init_12 rfl (lv_at hl 0 rfl) ?_
  refine lv_bipush (v := (6 : Int32)) hx hb dX1_init_13 (by decide) ?_
  refine zArr (N := 6) (L := [.inr (1, [.ref (b + 1), .int 0, .int 0, .int 0, .null, .null, .int 0, .null]), eI cI 25]) X hI hS (by decide) (by decide) (Nat.le_of_ble_eq_true rfl) (Nat.le_of_ble_eq_true rfl) (Nat.le_of_ble_eq_true rfl) dX1_init_15 (fun H hI hS => ?_)
  have hI : Im D b [.inr (1, [.ref (b + 1), .int 0, .int 0, .int 0, .null, .null, .int 0, .null]), eI cI 25, eI cI 6] H := hI
  refine zPutF (o := 0) (k := 4) (v := .ref (b + 2)) (L := [.inr (1, [.ref (b + 1), .int 0, .int 0, .int 0, .null, .null, .int 0, .null]), eI cI 25, eI cI 6]) X hI hS hin rfl rfl inX1 tyX1 tyX1_ok nmX1 (by decide) rfl rfl rfl rfl (Nat.le_of_ble_eq_true rfl) tw_42 dX1_init_17 (fun H locs hI hS => ?_)
  have hI : Im D b [.inr (1, [.ref (b + 1), .int 0, .int 0, .int 0, .ref (b + 2), .null, .int 0, .null]), eI cI 25, eI cI 6] H := hI
  refine lv_aload_n hx hb dX1_init_20 rfl (lv_at hl 0 rfl) ?_
  refine lv_bipush (v := (6 : Int32)) hx hb dX1_init_21 (by decide) ?_
  refine zArr (N := 6) (L := [.inr (1, [.ref (b + 1), .int 0, .int 0, .int 0, .ref (b + 2), .null, .int 0, .null]), eI cI 25, eI cI 6]) X hI hS (by decide) (by decide) (Nat.le_of_ble_eq_true rfl) (Nat.le_of_ble_eq_true rfl) (Nat.le_of_ble_eq_true rfl) dX1_init_23 (fun H hI hS => ?_)
  have hI : Im D b [.inr (1, [.ref (b + 1), .int 0, .int 0, .int 0, .ref (b + 2), .null, .int 0, .null]), eI cI 25, eI cI 6, eI cI 6] H := hI
  refine zPutF (o := 0) (k := 5) (v := .ref (b + 3)) (L := [.inr (1, [.ref (b + 1), .int 0, .int 0, .int 0, .ref (b + 2), .null, .int 0, .null]), eI cI 25, eI cI 6, eI cI 6]) X hI hS hin rfl rfl inX1 tyX1 tyX1_ok nmX1 (by decide) rfl rfl rfl rfl (Nat.le_of_ble_eq_true rfl) tw_43 dX1_init_25 (fun H locs hI hS => ?_)
  have hI : Im D b [.inr (1, [.ref (b + 1), .int 0, .int 0, .int 0, .ref (b + 2), .ref (b + 3), .int 0, .null]), eI cI 25, eI cI 6, eI cI 6] H := hI
  refine lv_aload_n hx hb dX1_init_28 rfl (lv_at hl 0 rfl) ?_
  refine lv_bipush (v := (6 : Int32)) hx hb dX1_init_29 (by decide) ?_
  refine zArr (N := 6) (L := [.inr (1, [.ref (b + 1), .int 0, .int 0, .int 0, .ref (b + 2), .ref (b + 3), .int 0, .null]), eI cI 25, eI cI 6, eI cI 6]) X hI hS (by decide) (by decide) (Nat.le_of_ble_eq_true rfl) (Nat.le_of_ble_eq_true rfl) (Nat.le_of_ble_eq_true rfl) dX1_init_31 (fun H hI hS => ?_)
  have hI : Im D b [.inr (1, [.ref (b + 1), .int 0, .int 0, .int 0, .ref (b + 2), .ref (b + 3), .int 0, .null]), eI cI 25, eI cI 6, eI cI 6, eI cI 6] H := hI
  refine zPutF (o := 0) (k := 7) (v := .ref (b + 4)) (L := [.inr (1, [.ref (b + 1), .int 0, .int 0, .int 0, .ref (b + 2), .ref (b + 3), .int 0, .null]), eI cI 25, eI cI 6, eI cI 6, eI cI 6]) X hI hS hin rfl rfl inX1 tyX1 tyX1_ok nmX1 (by decide) rfl rfl rfl rfl (Nat.le_of_ble_eq_true rfl) tw_45 dX1_init_33 (fun H locs hI hS => ?_)
  have hI : Im D b [.inr (1, [.ref (b + 1), .int 0, .int 0, .int 0, .ref (b + 2), .ref (b + 3), .int 0, .ref (b + 4)]), eI cI 25, eI cI 6, eI cI 6, eI cI 6] H := hI
  refine W.widen (k := 4) (n := 43) (Nat.le_of_ble_eq_true rfl) (Nat.le_of_ble_eq_true rfl) ?_
  exact zRet X hr hlk hI hS dX1_init_36
set_option maxHeartbeats 4000000 in
set_option maxRecDepth 100000 in
theorem n_X4_init {l : Launch} {D : va_G} {cI cP cB cA : ClassId} {b : Nat} : CtN l D cI cP cB cA yX4_init cX4_init 1 1 5 53 [.ref b] b [.inr (4, [.null, .null, .int 0, .null, .null, .null, .int 0])] [.inr (4, [.ref (b + 1), .ref (b + 2), .int 0, .ref (b + 3), .ref (b + 4), .ref (b + 5), .int 0]), eI cI 21, eI cI 8, eI cI 8, eI cI 8, eI cI 8] := by
  refine ctN (by decide) (Nat.le_of_ble_eq_true rfl) ?_
  intro p e s m args below meth c ls X hr hlk hin hI hl
  have hS : va_S (fr9 b) s.heap s.heap [] := va_S.rf
  have hx := X.1.1
  have hb := X.1.2.1
  have hl : lv_has ls 1 [(0, .ref b)] := hl
  refine lv_aload_n hx hb dX4_init_0 rfl (lv_at hl 0 rfl) ?_
  refine zObj X hl.1 tw_121 (Nat.le_of_ble_eq_true rfl) (Nat.le_of_ble_eq_true rfl) dX4_init_1 ?_
  refine lv_aload_n hx hb dX4_init_4 rfl (lv_at hl 0 rfl) ?_
  refine lv_bipush (v := (21 : Int32)) hx hb dX4_init_5 (by decide) ?_
  refine zArr (N := 21) (L := [.inr (4, [.null, .null, .int 0, .null, .null, .null, .int 0])]) X hI hS (by decide) (by decide) (Nat.le_of_ble_eq_true rfl) (Nat.le_of_ble_eq_true rfl) (Nat.le_of_ble_eq_true rfl) dX4_init_7 (fun H hI hS => ?_)
  have hI : Im D b [.inr (4, [.null, .null, .int 0, .null, .null, .null, .int 0]), eI cI 21] H := hI
  refine zPutF (o := 0) (k := 0) (v := .ref (b + 1)) (L := [.inr (4, [.null, .null, .int 0, .null, .null, .null, .int 0]), eI cI 21]) X hI hS hin rfl rfl inX4 tyX4 tyX4_ok nmX4 (by decide) rfl rfl rfl rfl (Nat.le_of_ble_eq_true rfl) tw_47 dX4_init_9 (fun H locs hI hS => ?_)
  have hI : Im D b [.inr (4, [.ref (b + 1), .null, .int 0, .null, .null, .null, .int 0]), eI cI 21] H := hI
  refine lv_aload_n hx hb dX4_init_12 rfl (lv_at hl 0 rfl) ?_
  refine lv_bipush (v := (8 : Int32)) hx hb dX4_init_13 (by decide) ?_
  refine zArr (N := 8) (L := [.inr (4, [.ref (b + 1), .null, .int 0, .null, .null, .null, .int 0]), eI cI 21]) X hI hS (by decide) (by decide) (Nat.le_of_ble_eq_true rfl) (Nat.le_of_ble_eq_true rfl) (Nat.le_of_ble_eq_true rfl) dX4_init_15 (fun H hI hS => ?_)
  have hI : Im D b [.inr (4, [.ref (b + 1), .null, .int 0, .null, .null, .null, .int 0]), eI cI 21, eI cI 8] H := hI
  refine zPutF (o := 0) (k := 1) (v := .ref (b + 2)) (L := [.inr (4, [.ref (b + 1), .null, .int 0, .null, .null, .null, .int 0]), eI cI 21, eI cI 8]) X hI hS hin rfl rfl inX4 tyX4 tyX4_ok nmX4 (by decide) rfl rfl rfl rfl (Nat.le_of_ble_eq_true rfl) tw_48 dX4_init_17 (fun H locs hI hS => ?_)
  have hI : Im D b [.inr (4, [.ref (b + 1), .ref (b + 2), .int 0, .null, .null, .null, .int 0]), eI cI 21, eI cI 8] H := hI
  refine lv_aload_n hx hb dX4_init_20 rfl (lv_at hl 0 rfl) ?_
  refine lv_bipush (v := (8 : Int32)) hx hb dX4_init_21 (by decide) ?_
  refine zArr (N := 8) (L := [.inr (4, [.ref (b + 1), .ref (b + 2), .int 0, .null, .null, .null, .int 0]), eI cI 21, eI cI 8]) X hI hS (by decide) (by decide) (Nat.le_of_ble_eq_true rfl) (Nat.le_of_ble_eq_true rfl) (Nat.le_of_ble_eq_true rfl) dX4_init_23 (fun H hI hS => ?_)
  have hI : Im D b [.inr (4, [.ref (b + 1), .ref (b + 2), .int 0, .null, .null, .null, .int 0]), eI cI 21, eI cI 8, eI cI 8] H := hI
  refine zPutF (o := 0) (k := 3) (v := .ref (b + 3)) (L := [.inr (4, [.ref (b + 1), .ref (b + 2), .int 0, .null, .null, .null, .int 0]), eI cI 21, eI cI 8, eI cI 8]) X hI hS hin rfl rfl inX4 tyX4 tyX4_ok nmX4 (by decide) rfl rfl rfl rfl (Nat.le_of_ble_eq_true rfl) tw_50 dX4_init_25 (fun H locs hI hS => ?_)
  have hI : Im D b [.inr (4, [.ref (b + 1), .ref (b + 2), .int 0, .ref (b + 3), .null, .null, .int 0]), eI cI 21, eI cI 8, eI cI 8] H := hI
  refine lv_aload_n hx hb dX4_init_28 rfl (lv_at hl 0 rfl) ?_
  refine lv_bipush (v := (8 : Int32)) hx hb dX4_init_29 (by decide) ?_
  refine zArr (N := 8) (L := [.inr (4, [.ref (b + 1), .ref (b + 2), .int 0, .ref (b + 3), .null, .null, .int 0]), eI cI 21, eI cI 8, eI cI 8]) X hI hS (by decide) (by decide) (Nat.le_of_ble_eq_true rfl) (Nat.le_of_ble_eq_true rfl) (Nat.le_of_ble_eq_true rfl) dX4_init_31 (fun H hI hS => ?_)
  have hI : Im D b [.inr (4, [.ref (b + 1), .ref (b + 2), .int 0, .ref (b + 3), .null, .null, .int 0]), eI cI 21, eI cI 8, eI cI 8, eI cI 8] H := hI
  refine zPutF (o := 0) (k := 4) (v := .ref (b + 4)) (L := [.inr (4, [.ref (b + 1), .ref (b + 2), .int 0, .ref (b + 3), .null, .null, .int 0]), eI cI 21, eI cI 8, eI cI 8, eI cI 8]) X hI hS hin rfl rfl inX4 tyX4 tyX4_ok nmX4 (by decide) rfl rfl rfl rfl (Nat.le_of_ble_eq_true rfl) tw_51 dX4_init_33 (fun H locs hI hS => ?_)
  have hI : Im D b [.inr (4, [.ref (b + 1), .ref (b + 2), .int 0, .ref (b + 3), .ref (b + 4), .null, .int 0]), eI cI 21, eI cI 8, eI cI 8, eI cI 8] H := hI
  refine lv_aload_n hx hb dX4_init_36 rfl (lv_at hl 0 rfl) ?_
  refine lv_bipush (v := (8 : Int32)) hx hb dX4_init_37 (by decide) ?_
  refine zArr (N := 8) (L := [.inr (4, [.ref (b + 1), .ref (b + 2), .int 0, .ref (b + 3), .ref (b + 4), .null, .int 0]), eI cI 21, eI cI 8, eI cI 8, eI cI 8]) X hI hS (by decide) (by decide) (Nat.le_of_ble_eq_true rfl) (Nat.le_of_ble_eq_true rfl) (Nat.le_of_ble_eq_true rfl) dX4_init_39 (fun H hI hS => ?_)
  have hI : Im D b [.inr (4, [.ref (b + 1), .ref (b + 2), .int 0, .ref (b + 3), .ref (b + 4), .null, .int 0]), eI cI 21, eI cI 8, eI cI 8, eI cI 8, eI cI 8] H := hI
  refine zPutF (o := 0) (k := 5) (v := .ref (b + 5)) (L := [.inr (4, [.ref (b + 1), .ref (b + 2), .int 0, .ref (b + 3), .ref (b + 4), .null, .int 0]), eI cI 21, eI cI 8, eI cI 8, eI cI 8, eI cI 8]) X hI hS hin rfl rfl inX4 tyX4 tyX4_ok nmX4 (by decide) rfl rfl rfl rfl (Nat.le_of_ble_eq_true rfl) tw_52 dX4_init_41 (fun H locs hI hS => ?_)
  have hI : Im D b [.inr (4, [.ref (b + 1), .ref (b + 2), .int 0, .ref (b + 3), .ref (b + 4), .ref (b + 5), .int 0]), eI cI 21, eI cI 8, eI cI 8, eI cI 8, eI cI 8] H := hI
  refine W.widen (k := 5) (n := 53) (Nat.le_of_ble_eq_true rfl) (Nat.le_of_ble_eq_true rfl) ?_
  exact zRet X hr hlk hI hS dX4_init_44
set_option maxHeartbeats 4000000 in
set_option maxRecDepth 100000 in
theorem n_X2_init {l : Launch} {D : va_G} {cI cP cB cA : ClassId} {b : Nat} : CtN l D cI cP cB cA yX2_init cX2_init 1 1 2 12 [.ref b] b [.inr (2, [.null, .null, .int 0])] [.inr (2, [.ref (b + 1), .ref (b + 2), .int 0]), eI cI 6, eI cI 6] := by
  refine ctN (by decide) (Nat.le_of_ble_eq_true rfl) ?_
  intro p e s m args below meth c ls X hr hlk hin hI hl
  have hS : va_S (fr9 b) s.heap s.heap [] := va_S.rf
  have hx := X.1.1
  have hb := X.1.2.1
  have hl : lv_has ls 1 [(0, .ref b)] := hl
  refine lv_aload_n hx hb dX2_init_0 rfl (lv_at hl 0 rfl) ?_
  refine zObj X hl.1 tw_123 (Nat.le_of_ble_eq_true rfl) (Nat.le_of_ble_eq_true rfl) dX2_init_1 ?_
  refine lv_aload_n hx hb dX2_init_4 rfl (lv_at hl 0 rfl) ?_
  refine lv_bipush (v := (6 : Int32)) hx hb dX2_init_5 (by decide) ?_
  refine zArr (N := 6) (L := [.inr (2, [.null, .null, .int 0])]) X hI hS (by decide) (by decide) (Nat.le_of_ble_eq_true rfl) (Nat.le_of_ble_eq_true rfl) (Nat.le_of_ble_eq_true rfl) dX2_init_7 (fun H hI hS => ?_)
  have hI : Im D b [.inr (2, [.null, .null, .int 0]), eI cI 6] H := hI
  refine zPutF (o := 0) (k := 0) (v := .ref (b + 1)) (L := [.inr (2, [.null, .null, .int 0]), eI cI 6]) X hI hS hin rfl rfl inX2 tyX2 tyX2_ok nmX2 (by decide) rfl rfl rfl rfl (Nat.le_of_ble_eq_true rfl) tw_55 dX2_init_9 (fun H locs hI hS => ?_)
  have hI : Im D b [.inr (2, [.ref (b + 1), .null, .int 0]), eI cI 6] H := hI
  refine lv_aload_n hx hb dX2_init_12 rfl (lv_at hl 0 rfl) ?_
  refine lv_bipush (v := (6 : Int32)) hx hb dX2_init_13 (by decide) ?_
  refine zArr (N := 6) (L := [.inr (2, [.ref (b + 1), .null, .int 0]), eI cI 6]) X hI hS (by decide) (by decide) (Nat.le_of_ble_eq_true rfl) (Nat.le_of_ble_eq_true rfl) (Nat.le_of_ble_eq_true rfl) dX2_init_15 (fun H hI hS => ?_)
  have hI : Im D b [.inr (2, [.ref (b + 1), .null, .int 0]), eI cI 6, eI cI 6] H := hI
  refine zPutF (o := 0) (k := 1) (v := .ref (b + 2)) (L := [.inr (2, [.ref (b + 1), .null, .int 0]), eI cI 6, eI cI 6]) X hI hS hin rfl rfl inX2 tyX2 tyX2_ok nmX2 (by decide) rfl rfl rfl rfl (Nat.le_of_ble_eq_true rfl) tw_56 dX2_init_17 (fun H locs hI hS => ?_)
  have hI : Im D b [.inr (2, [.ref (b + 1), .ref (b + 2), .int 0]), eI cI 6, eI cI 6] H := hI
  refine W.widen (k := 2) (n := 12) (Nat.le_of_ble_eq_true rfl) (Nat.le_of_ble_eq_true rfl) ?_
  exact zRet X hr hlk hI hS dX2_init_20
set_option maxHeartbeats 4000000 in
set_option maxRecDepth 100000 in
theorem n_X6_init6 {l : Launch} {D : va_G} {cI cP cB cA : ClassId} {b : Nat} : CtN l D cI cP cB cA yX6_init cX6_init 3 2 8 252 [.ref b, .int (6 : Int32), .int (40 : Int32)] b [.inr (6, [.null, .null])] [.inr (6, [.ref (b + 1), .ref (b + 8)]), eQ cA 6 (b + 2), eI cI 40, eI cI 40, eI cI 40, eI cI 40, eI cI 40, eI cI 40, eN cI 6] := by
  refine ctN (by decide) (Nat.le_of_ble_eq_true rfl) ?_
  intro p e s m args below meth c ls X hr hlk hin hI hl
  have hS : va_S (fr9 b) s.heap s.heap [] := va_S.rf
  have hx := X.1.1
  have hb := X.1.2.1
  have hl : lv_has ls 3 [(0, .ref b), (1, .int (6 : Int32)), (2, .int (40 : Int32))] := hl
  refine lv_aload_n hx hb dX6_init_0 rfl (lv_at hl 0 rfl) ?_
  refine zObj X hl.1 tw_110 (Nat.le_of_ble_eq_true rfl) (Nat.le_of_ble_eq_true rfl) dX6_init_1 ?_
  refine lv_aload_n hx hb dX6_init_4 rfl (lv_at hl 0 rfl) ?_
  refine lv_iload_n hx hb dX6_init_5 rfl (lv_at hl 1 rfl) ?_
  refine lv_iload_n hx hb dX6_init_6 rfl (lv_at hl 2 rfl) ?_
  refine zMul (N := 6) (K := 40) (L := [.inr (6, [.null, .null])]) X hI hS tz_cl28 (by decide) (by decide) (by decide) (by decide) (Nat.le_of_ble_eq_true rfl) (Nat.le_of_ble_eq_true rfl) (Nat.le_of_ble_eq_true rfl) (Nat.le_of_ble_eq_true rfl) dX6_init_7 (fun H hI hS => ?_)
  have hI : Im D b [.inr (6, [.null, .null]), .inl (cA, 6, .inr (.inr (.inr (.inr (fun i => if i < 6 then some (b + 1 + 1 + i) else none))))), eI cI 40, eI cI 40, eI cI 40, eI cI 40, eI cI 40, eI cI 40] H := hI
  have hI := hI.set (o := 1) (at_q (g := fun i => some (b + 2 + i)) (hI.2 1 _ rfl) (fun j hj => by rw [if_pos hj])) rfl (fun _ _ => rfl)
  have hI : Im D b [.inr (6, [.null, .null]), eQ cA 6 (b + 2), eI cI 40, eI cI 40, eI cI 40, eI cI 40, eI cI 40, eI cI 40] H := hI
  refine zPutF (o := 0) (k := 0) (v := .ref (b + 1)) (L := [.inr (6, [.null, .null]), eQ cA 6 (b + 2), eI cI 40, eI cI 40, eI cI 40, eI cI 40, eI cI 40, eI cI 40]) X hI hS hin rfl rfl inX6 tyX6 tyX6_ok nmX6 (by decide) rfl rfl rfl rfl (Nat.le_of_ble_eq_true rfl) tw_0 dX6_init_11 (fun H locs hI hS => ?_)
  have hI : Im D b [.inr (6, [.ref (b + 1), .null]), eQ cA 6 (b + 2), eI cI 40, eI cI 40, eI cI 40, eI cI 40, eI cI 40, eI cI 40] H := hI
  refine lv_aload_n hx hb dX6_init_14 rfl (lv_at hl 0 rfl) ?_
  refine lv_iload_n hx hb dX6_init_15 rfl (lv_at hl 1 rfl) ?_
  refine zArr (N := 6) (L := [.inr (6, [.ref (b + 1), .null]), eQ cA 6 (b + 2), eI cI 40, eI cI 40, eI cI 40, eI cI 40, eI cI 40, eI cI 40]) X hI hS (by decide) (by decide) (Nat.le_of_ble_eq_true rfl) (Nat.le_of_ble_eq_true rfl) (Nat.le_of_ble_eq_true rfl) dX6_init_16 (fun H hI hS => ?_)
  have hI : Im D b [.inr (6, [.ref (b + 1), .null]), eQ cA 6 (b + 2), eI cI 40, eI cI 40, eI cI 40, eI cI 40, eI cI 40, eI cI 40, eI cI 6] H := hI
  refine zPutF (o := 0) (k := 1) (v := .ref (b + 8)) (L := [.inr (6, [.ref (b + 1), .null]), eQ cA 6 (b + 2), eI cI 40, eI cI 40, eI cI 40, eI cI 40, eI cI 40, eI cI 40, eI cI 6]) X hI hS hin rfl rfl inX6 tyX6 tyX6_ok nmX6 (by decide) rfl rfl rfl rfl (Nat.le_of_ble_eq_true rfl) tw_1 dX6_init_18 (fun H locs hI hS => ?_)
  have hI : Im D b [.inr (6, [.ref (b + 1), .ref (b + 8)]), eQ cA 6 (b + 2), eI cI 40, eI cI 40, eI cI 40, eI cI 40, eI cI 40, eI cI 40, eI cI 6] H := hI
  refine lv_aload_n hx hb dX6_init_21 rfl (lv_at hl 0 rfl) ?_
  refine zGet (o := 0) (k := 1) (L := [.inr (6, [.ref (b + 1), .ref (b + 8)]), eQ cA 6 (b + 2), eI cI 40, eI cI 40, eI cI 40, eI cI 40, eI cI 40, eI cI 40, eI cI 6]) X hI rfl rfl inX6 (by decide) rfl tw_1 dX6_init_22 ?_
  refine lv_iconst (v := (-1 : Int32)) hx hb dX6_init_25 (by decide) ?_
  refine zCallS (L := [.inr (6, [.ref (b + 1), .ref (b + 8)]), eQ cA 6 (b + 2), eI cI 40, eI cI 40, eI cI 40, eI cI 40, eI cI 40, eI cI 40]) (e0 := eI cI 6) (rest := []) X hI hS [.ref (b + 8), .int (-1 : Int32)] (n_fill (b := b + 8) (n := 6) (by decide)) cw_J7_fill_53178 tw_111 tw_397 ⟨Nat.le_of_ble_eq_true rfl, Nat.le_of_ble_eq_true rfl⟩ rfl rfl hl.1 (Nat.le_of_ble_eq_true rfl) dX6_init_26 ⟨Nat.le_of_ble_eq_true rfl, Nat.le_of_ble_eq_true rfl⟩ (fun H locs hI hS => ?_)
  have hI : Im D b [.inr (6, [.ref (b + 1), .ref (b + 8)]), eQ cA 6 (b + 2), eI cI 40, eI cI 40, eI cI 40, eI cI 40, eI cI 40, eI cI 40, eN cI 6] H := hI
  refine W.widen (k := 8) (n := 252) (Nat.le_of_ble_eq_true rfl) (Nat.le_of_ble_eq_true rfl) ?_
  exact zRet X hr hlk hI hS dX6_init_29
set_option maxHeartbeats 4000000 in
set_option maxRecDepth 100000 in
theorem n_X6_init4 {l : Launch} {D : va_G} {cI cP cB cA : ClassId} {b : Nat} : CtN l D cI cP cB cA yX6_init cX6_init 3 2 6 328 [.ref b, .int (4 : Int32), .int (80 : Int32)] b [.inr (6, [.null, .null])] [.inr (6, [.ref (b + 1), .ref (b + 6)]), eQ cA 4 (b + 2), eI cI 80, eI cI 80, eI cI 80, eI cI 80, eN cI 4] := by
  refine ctN (by decide) (Nat.le_of_ble_eq_true rfl) ?_
  intro p e s m args below meth c ls X hr hlk hin hI hl
  have hS : va_S (fr9 b) s.heap s.heap [] := va_S.rf
  have hx := X.1.1
  have hb := X.1.2.1
  have hl : lv_has ls 3 [(0, .ref b), (1, .int (4 : Int32)), (2, .int (80 : Int32))] := hl
  refine lv_aload_n hx hb dX6_init_0 rfl (lv_at hl 0 rfl) ?_
  refine zObj X hl.1 tw_110 (Nat.le_of_ble_eq_true rfl) (Nat.le_of_ble_eq_true rfl) dX6_init_1 ?_
  refine lv_aload_n hx hb dX6_init_4 rfl (lv_at hl 0 rfl) ?_
  refine lv_iload_n hx hb dX6_init_5 rfl (lv_at hl 1 rfl) ?_
  refine lv_iload_n hx hb dX6_init_6 rfl (lv_at hl 2 rfl) ?_
  refine zMul (N := 4) (K := 80) (L := [.inr (6, [.null, .null])]) X hI hS tz_cl28 (by decide) (by decide) (by decide) (by decide) (Nat.le_of_ble_eq_true rfl) (Nat.le_of_ble_eq_true rfl) (Nat.le_of_ble_eq_true rfl) (Nat.le_of_ble_eq_true rfl) dX6_init_7 (fun H hI hS => ?_)
  have hI : Im D b [.inr (6, [.null, .null]), .inl (cA, 4, .inr (.inr (.inr (.inr (fun i => if i < 4 then some (b + 1 + 1 + i) else none))))), eI cI 80, eI cI 80, eI cI 80, eI cI 80] H := hI
  have hI := hI.set (o := 1) (at_q (g := fun i => some (b + 2 + i)) (hI.2 1 _ rfl) (fun j hj => by rw [if_pos hj])) rfl (fun _ _ => rfl)
  have hI : Im D b [.inr (6, [.null, .null]), eQ cA 4 (b + 2), eI cI 80, eI cI 80, eI cI 80, eI cI 80] H := hI
  refine zPutF (o := 0) (k := 0) (v := .ref (b + 1)) (L := [.inr (6, [.null, .null]), eQ cA 4 (b + 2), eI cI 80, eI cI 80, eI cI 80, eI cI 80]) X hI hS hin rfl rfl inX6 tyX6 tyX6_ok nmX6 (by decide) rfl rfl rfl rfl (Nat.le_of_ble_eq_true rfl) tw_0 dX6_init_11 (fun H locs hI hS => ?_)
  have hI : Im D b [.inr (6, [.ref (b + 1), .null]), eQ cA 4 (b + 2), eI cI 80, eI cI 80, eI cI 80, eI cI 80] H := hI
  refine lv_aload_n hx hb dX6_init_14 rfl (lv_at hl 0 rfl) ?_
  refine lv_iload_n hx hb dX6_init_15 rfl (lv_at hl 1 rfl) ?_
  refine zArr (N := 4) (L := [.inr (6, [.ref (b + 1), .null]), eQ cA 4 (b + 2), eI cI 80, eI cI 80, eI cI 80, eI cI 80]) X hI hS (by decide) (by decide) (Nat.le_of_ble_eq_true rfl) (Nat.le_of_ble_eq_true rfl) (Nat.le_of_ble_eq_true rfl) dX6_init_16 (fun H hI hS => ?_)
  have hI : Im D b [.inr (6, [.ref (b + 1), .null]), eQ cA 4 (b + 2), eI cI 80, eI cI 80, eI cI 80, eI cI 80, eI cI 4] H := hI
  refine zPutF (o := 0) (k := 1) (v := .ref (b + 6)) (L := [.inr (6, [.ref (b + 1), .null]), eQ cA 4 (b + 2), eI cI 80, eI cI 80, eI cI 80, eI cI 80, eI cI 4]) X hI hS hin rfl rfl inX6 tyX6 tyX6_ok nmX6 (by decide) rfl rfl rfl rfl (Nat.le_of_ble_eq_true rfl) tw_1 dX6_init_18 (fun H locs hI hS => ?_)
  have hI : Im D b [.inr (6, [.ref (b + 1), .ref (b + 6)]), eQ cA 4 (b + 2), eI cI 80, eI cI 80, eI cI 80, eI cI 80, eI cI 4] H := hI
  refine lv_aload_n hx hb dX6_init_21 rfl (lv_at hl 0 rfl) ?_
  refine zGet (o := 0) (k := 1) (L := [.inr (6, [.ref (b + 1), .ref (b + 6)]), eQ cA 4 (b + 2), eI cI 80, eI cI 80, eI cI 80, eI cI 80, eI cI 4]) X hI rfl rfl inX6 (by decide) rfl tw_1 dX6_init_22 ?_
  refine lv_iconst (v := (-1 : Int32)) hx hb dX6_init_25 (by decide) ?_
  refine zCallS (L := [.inr (6, [.ref (b + 1), .ref (b + 6)]), eQ cA 4 (b + 2), eI cI 80, eI cI 80, eI cI 80, eI cI 80]) (e0 := eI cI 4) (rest := []) X hI hS [.ref (b + 6), .int (-1 : Int32)] (n_fill (b := b + 6) (n := 4) (by decide)) cw_J7_fill_53178 tw_111 tw_397 ⟨Nat.le_of_ble_eq_true rfl, Nat.le_of_ble_eq_true rfl⟩ rfl rfl hl.1 (Nat.le_of_ble_eq_true rfl) dX6_init_26 ⟨Nat.le_of_ble_eq_true rfl, Nat.le_of_ble_eq_true rfl⟩ (fun H locs hI hS => ?_)
  have hI : Im D b [.inr (6, [.ref (b + 1), .ref (b + 6)]), eQ cA 4 (b + 2), eI cI 80, eI cI 80, eI cI 80, eI cI 80, eN cI 4] H := hI
  refine W.widen (k := 6) (n := 328) (Nat.le_of_ble_eq_true rfl) (Nat.le_of_ble_eq_true rfl) ?_
  exact zRet X hr hlk hI hS dX6_init_29
set_option maxHeartbeats 4000000 in
set_option maxRecDepth 100000 in
theorem n_X0_init {l : Launch} {D : va_G} {cI cP cB cA : ClassId} {b : Nat} : CtN l D cI cP cB cA yX0_init cX0_init 2 2 8 54 [.ref b] b [.inr (0, [.null, .null, .int 0])] [.inr (0, [.ref (b + 1), .ref (b + 2), .int 0]), eQ cP 6 (b + 3), eI cI 6, eP, eP, eP, eP, eP, eP] := by
  refine ctN (by decide) (Nat.le_of_ble_eq_true rfl) ?_
  intro p e s m args below meth c ls X hr hlk hin hI hl
  have hS : va_S (fr9 b) s.heap s.heap [] := va_S.rf
  have hx := X.1.1
  have hb := X.1.2.1
  have hl : lv_has ls 2 [(0, .ref b)] := hl
  refine lv_aload_n hx hb dX0_init_0 rfl (lv_at hl 0 rfl) ?_
  refine zObj X hl.1 tw_113 (Nat.le_of_ble_eq_true rfl) (Nat.le_of_ble_eq_true rfl) dX0_init_1 ?_
  refine lv_aload_n hx hb dX0_init_4 rfl (lv_at hl 0 rfl) ?_
  refine lv_bipush (v := (6 : Int32)) hx hb dX0_init_5 (by decide) ?_
  refine zArrQ (N := 6) (L := [.inr (0, [.null, .null, .int 0])]) (t0 := 1) X hI hS rfl (by decide) (by decide) (Nat.le_of_ble_eq_true rfl) tz_cl47 X.2.2.2.1 (Nat.le_of_ble_eq_true rfl) (Nat.le_of_ble_eq_true rfl) dX0_init_7 (fun H hI hS => ?_)
  have hI : Im D b [.inr (0, [.null, .null, .int 0]), .inl (cP, 6, .inr (.inr (.inr (.inr (fun _ => none)))))] H := hI
  refine zPutF (o := 0) (k := 0) (v := .ref (b + 1)) (L := [.inr (0, [.null, .null, .int 0]), .inl (cP, 6, .inr (.inr (.inr (.inr (fun _ => none)))))]) X hI hS hin rfl rfl inX0 tyX0 tyX0_ok nmX0 (by decide) rfl rfl rfl rfl (Nat.le_of_ble_eq_true rfl) tw_20 dX0_init_10 (fun H locs hI hS => ?_)
  have hI : Im D b [.inr (0, [.ref (b + 1), .null, .int 0]), .inl (cP, 6, .inr (.inr (.inr (.inr (fun _ => none)))))] H := hI
  refine lv_aload_n hx hb dX0_init_13 rfl (lv_at hl 0 rfl) ?_
  refine lv_bipush (v := (6 : Int32)) hx hb dX0_init_14 (by decide) ?_
  refine zArr (N := 6) (L := [.inr (0, [.ref (b + 1), .null, .int 0]), .inl (cP, 6, .inr (.inr (.inr (.inr (fun _ => none)))))]) X hI hS (by decide) (by decide) (Nat.le_of_ble_eq_true rfl) (Nat.le_of_ble_eq_true rfl) (Nat.le_of_ble_eq_true rfl) dX0_init_16 (fun H hI hS => ?_)
  have hI : Im D b [.inr (0, [.ref (b + 1), .null, .int 0]), .inl (cP, 6, .inr (.inr (.inr (.inr (fun _ => none))))), eI cI 6] H := hI
  refine zPutF (o := 0) (k := 1) (v := .ref (b + 2)) (L := [.inr (0, [.ref (b + 1), .null, .int 0]), .inl (cP, 6, .inr (.inr (.inr (.inr (fun _ => none))))), eI cI 6]) X hI hS hin rfl rfl inX0 tyX0 tyX0_ok nmX0 (by decide) rfl rfl rfl rfl (Nat.le_of_ble_eq_true rfl) tw_23 dX0_init_18 (fun H locs hI hS => ?_)
  have hI : Im D b [.inr (0, [.ref (b + 1), .ref (b + 2), .int 0]), .inl (cP, 6, .inr (.inr (.inr (.inr (fun _ => none))))), eI cI 6] H := hI
  refine lv_iconst (v := (0 : Int32)) hx hb dX0_init_21 (by decide) ?_
  refine lv_istore_n (lv' := [(1, .int (0 : Int32)), (0, .ref b)]) hx hb dX0_init_22 rfl hl (by decide) rfl (fun ls hl => ?_)
  refine lv_iload_n hx hb dX0_init_23 rfl (lv_at hl 0 rfl) ?_
  refine lv_bipush (v := (6 : Int32)) hx hb dX0_init_24 (by decide) ?_
  refine lv_icmp_ge (tgt := 48) hx hb dX0_init_26 (by decide) (fun c9 => absurd c9 (by decide)) (fun _ => ?_)
  refine lv_aload_n hx hb dX0_init_29 rfl (lv_at hl 1 rfl) ?_
  refine zGet (o := 0) (k := 0) (L := [.inr (0, [.ref (b + 1), .ref (b + 2), .int 0]), .inl (cP, 6, .inr (.inr (.inr (.inr (fun _ => none))))), eI cI 6]) X hI rfl rfl inX0 (by decide) rfl tw_20 dX0_init_30 ?_
  refine lv_iload_n hx hb dX0_init_33 rfl (lv_at hl 0 rfl) ?_
  refine zNew (ci := 3) (L := [.inr (0, [.ref (b + 1), .ref (b + 2), .int 0]), .inl (cP, 6, .inr (.inr (.inr (.inr (fun _ => none))))), eI cI 6]) X hI hS rfl inX3 tyX3 tyX3_ok dfX3 tz_cl47 tz_is49 tw_385 (Nat.le_of_ble_eq_true rfl) (Nat.le_of_ble_eq_true rfl) dX0_init_34 (fun H hI hS => ?_)
  have hI : Im D b [.inr (0, [.ref (b + 1), .ref (b + 2), .int 0]), .inl (cP, 6, .inr (.inr (.inr (.inr (fun _ => none))))), eI cI 6, eP] H := hI
  refine lv_dup hx hb dX0_init_37 rfl ?_
  refine zCallIN (L := [.inr (0, [.ref (b + 1), .ref (b + 2), .int 0]), .inl (cP, 6, .inr (.inr (.inr (.inr (fun _ => none))))), eI cI 6]) (e0 := eP) (rest := [.ref (b + 3), .int (0 : Int32), .ref (b + 1)]) X hI hS [] (n_X3_init (b := b + 3)) cw_X3_init tw_114 tw_399 rfl ⟨Nat.le_of_ble_eq_true rfl, Nat.le_of_ble_eq_true rfl⟩ rfl rfl hl.1 (Nat.le_of_ble_eq_true rfl) dX0_init_38 ⟨Nat.le_of_ble_eq_true rfl, Nat.le_of_ble_eq_true rfl⟩ (fun H locs hI hS => ?_)
  have hI : Im D b [.inr (0, [.ref (b + 1), .ref (b + 2), .int 0]), .inl (cP, 6, .inr (.inr (.inr (.inr (fun _ => none))))), eI cI 6, eP] H := hI
  refine zAast (o := 1) (o2 := 3) (t0 := 1) (L := [.inr (0, [.ref (b + 1), .ref (b + 2), .int 0]), .inl (cP, 6, .inr (.inr (.inr (.inr (fun _ => none))))), eI cI 6, eP]) X hI hS rfl rfl rfl rfl (ixb_in (by decide)) dX0_init_41 (fun H locs hI hS => ?_)
  have hI : Im D b [.inr (0, [.ref (b + 1), .ref (b + 2), .int 0]), .inl (cP, 6, .inr (.inr (.inr (.inr (va_up (fun _ => none) ((0 : Int32)).toNatClampNeg (some (b + 3))))))), eI cI 6, eP] H := hI
  refine lv_iinc (v := (1 : Int32)) (lv' := [(1, .int (1 : Int32)), (0, .ref b)]) hx hb dX0_init_42 hl (k := 0) rfl rfl (by decide) rfl (fun ls hl => ?_)
  refine lv_goto (tgt := 23) hx hb dX0_init_45 (by decide) ?_
  refine lv_iload_n hx hb dX0_init_23 rfl (lv_at hl 0 rfl) ?_
  refine lv_bipush (v := (6 : Int32)) hx hb dX0_init_24 (by decide) ?_
  refine lv_icmp_ge (tgt := 48) hx hb dX0_init_26 (by decide) (fun c9 => absurd c9 (by decide)) (fun _ => ?_)
  refine lv_aload_n hx hb dX0_init_29 rfl (lv_at hl 1 rfl) ?_
  refine zGet (o := 0) (k := 0) (L := [.inr (0, [.ref (b + 1), .ref (b + 2), .int 0]), .inl (cP, 6, .inr (.inr (.inr (.inr (va_up (fun _ => none) ((0 : Int32)).toNatClampNeg (some (b + 3))))))), eI cI 6, eP]) X hI rfl rfl inX0 (by decide) rfl tw_20 dX0_init_30 ?_
  refine lv_iload_n hx hb dX0_init_33 rfl (lv_at hl 0 rfl) ?_
  refine zNew (ci := 3) (L := [.inr (0, [.ref (b + 1), .ref (b + 2), .int 0]), .inl (cP, 6, .inr (.inr (.inr (.inr (va_up (fun _ => none) ((0 : Int32)).toNatClampNeg (some (b + 3))))))), eI cI 6, eP]) X hI hS rfl inX3 tyX3 tyX3_ok dfX3 tz_cl47 tz_is49 tw_385 (Nat.le_of_ble_eq_true rfl) (Nat.le_of_ble_eq_true rfl) dX0_init_34 (fun H hI hS => ?_)
  have hI : Im D b [.inr (0, [.ref (b + 1), .ref (b + 2), .int 0]), .inl (cP, 6, .inr (.inr (.inr (.inr (va_up (fun _ => none) ((0 : Int32)).toNatClampNeg (some (b + 3))))))), eI cI 6, eP, eP] H := hI
  refine lv_dup hx hb dX0_init_37 rfl ?_
  refine zCallIN (L := [.inr (0, [.ref (b + 1), .ref (b + 2), .int 0]), .inl (cP, 6, .inr (.inr (.inr (.inr (va_up (fun _ => none) ((0 : Int32)).toNatClampNeg (some (b + 3))))))), eI cI 6, eP]) (e0 := eP) (rest := [.ref (b + 4), .int (1 : Int32), .ref (b + 1)]) X hI hS [] (n_X3_init (b := b + 4)) cw_X3_init tw_114 tw_399 rfl ⟨Nat.le_of_ble_eq_true rfl, Nat.le_of_ble_eq_true rfl⟩ rfl rfl hl.1 (Nat.le_of_ble_eq_true rfl) dX0_init_38 ⟨Nat.le_of_ble_eq_true rfl, Nat.le_of_ble_eq_true rfl⟩ (fun H locs hI hS => ?_)
  have hI : Im D b [.inr (0, [.ref (b + 1), .ref (b + 2), .int 0]), .inl (cP, 6, .inr (.inr (.inr (.inr (va_up (fun _ => none) ((0 : Int32)).toNatClampNeg (some (b + 3))))))), eI cI 6, eP, eP] H := hI
  refine zAast (o := 1) (o2 := 4) (t0 := 1) (L := [.inr (0, [.ref (b + 1), .ref (b + 2), .int 0]), .inl (cP, 6, .inr (.inr (.inr (.inr (va_up (fun _ => none) ((0 : Int32)).toNatClampNeg (some (b + 3))))))), eI cI 6, eP, eP]) X hI hS rfl rfl rfl rfl (ixb_in (by decide)) dX0_init_41 (fun H locs hI hS => ?_)
  have hI : Im D b [.inr (0, [.ref (b + 1), .ref (b + 2), .int 0]), .inl (cP, 6, .inr (.inr (.inr (.inr (va_up (va_up (fun _ => none) ((0 : Int32)).toNatClampNeg (some (b + 3))) ((1 : Int32)).toNatClampNeg (some (b + 4))))))), eI cI 6, eP, eP] H := hI
  refine lv_iinc (v := (2 : Int32)) (lv' := [(1, .int (2 : Int32)), (0, .ref b)]) hx hb dX0_init_42 hl (k := 0) rfl rfl (by decide) rfl (fun ls hl => ?_)
  refine lv_goto (tgt := 23) hx hb dX0_init_45 (by decide) ?_
  refine lv_iload_n hx hb dX0_init_23 rfl (lv_at hl 0 rfl) ?_
  refine lv_bipush (v := (6 : Int32)) hx hb dX0_init_24 (by decide) ?_
  refine lv_icmp_ge (tgt := 48) hx hb dX0_init_26 (by decide) (fun c9 => absurd c9 (by decide)) (fun _ => ?_)
  refine lv_aload_n hx hb dX0_init_29 rfl (lv_at hl 1 rfl) ?_
  refine zGet (o := 0) (k := 0) (L := [.inr (0, [.ref (b + 1), .ref (b + 2), .int 0]), .inl (cP, 6, .inr (.inr (.inr (.inr (va_up (va_up (fun _ => none) ((0 : Int32)).toNatClampNeg (some (b + 3))) ((1 : Int32)).toNatClampNeg (some (b + 4))))))), eI cI 6, eP, eP]) X hI rfl rfl inX0 (by decide) rfl tw_20 dX0_init_30 ?_
  refine lv_iload_n hx hb dX0_init_33 rfl (lv_at hl 0 rfl) ?_
  refine zNew (ci := 3) (L := [.inr (0, [.ref (b + 1), .ref (b + 2), .int 0]), .inl (cP, 6, .inr (.inr (.inr (.inr (va_up (va_up (fun _ => none) ((0 : Int32)).toNatClampNeg (some (b + 3))) ((1 : Int32)).toNatClampNeg (some (b + 4))))))), eI cI 6, eP, eP]) X hI hS rfl inX3 tyX3 tyX3_ok dfX3 tz_cl47 tz_is49 tw_385 (Nat.le_of_ble_eq_true rfl) (Nat.le_of_ble_eq_true rfl) dX0_init_34 (fun H hI hS => ?_)
  have hI : Im D b [.inr (0, [.ref (b + 1), .ref (b + 2), .int 0]), .inl (cP, 6, .inr (.inr (.inr (.inr (va_up (va_up (fun _ => none) ((0 : Int32)).toNatClampNeg (some (b + 3))) ((1 : Int32)).toNatClampNeg (some (b + 4))))))), eI cI 6, eP, eP, eP] H := hI
  refine lv_dup hx hb dX0_init_37 rfl ?_
  refine zCallIN (L := [.inr (0, [.ref (b + 1), .ref (b + 2), .int 0]), .inl (cP, 6, .inr (.inr (.inr (.inr (va_up (va_up (fun _ => none) ((0 : Int32)).toNatClampNeg (some (b + 3))) ((1 : Int32)).toNatClampNeg (some (b + 4))))))), eI cI 6, eP, eP]) (e0 := eP) (rest := [.ref (b + 5), .int (2 : Int32), .ref (b + 1)]) X hI hS [] (n_X3_init (b := b + 5)) cw_X3_init tw_114 tw_399 rfl ⟨Nat.le_of_ble_eq_true rfl, Nat.le_of_ble_eq_true rfl⟩ rfl rfl hl.1 (Nat.le_of_ble_eq_true rfl) dX0_init_38 ⟨Nat.le_of_ble_eq_true rfl, Nat.le_of_ble_eq_true rfl⟩ (fun H locs hI hS => ?_)
  have hI : Im D b [.inr (0, [.ref (b + 1), .ref (b + 2), .int 0]), .inl (cP, 6, .inr (.inr (.inr (.inr (va_up (va_up (fun _ => none) ((0 : Int32)).toNatClampNeg (some (b + 3))) ((1 : Int32)).toNatClampNeg (some (b + 4))))))), eI cI 6, eP, eP, eP] H := hI
  refine zAast (o := 1) (o2 := 5) (t0 := 1) (L := [.inr (0, [.ref (b + 1), .ref (b + 2), .int 0]), .inl (cP, 6, .inr (.inr (.inr (.inr (va_up (va_up (fun _ => none) ((0 : Int32)).toNatClampNeg (some (b + 3))) ((1 : Int32)).toNatClampNeg (some (b + 4))))))), eI cI 6, eP, eP, eP]) X hI hS rfl rfl rfl rfl (ixb_in (by decide)) dX0_init_41 (fun H locs hI hS => ?_)
  have hI : Im D b [.inr (0, [.ref (b + 1), .ref (b + 2), .int 0]), .inl (cP, 6, .inr (.inr (.inr (.inr (va_up (va_up (va_up (fun _ => none) ((0 : Int32)).toNatClampNeg (some (b + 3))) ((1 : Int32)).toNatClampNeg (some (b + 4))) ((2 : Int32)).toNatClampNeg (some (b + 5))))))), eI cI 6, eP, eP, eP] H := hI
  refine lv_iinc (v := (3 : Int32)) (lv' := [(1, .int (3 : Int32)), (0, .ref b)]) hx hb dX0_init_42 hl (k := 0) rfl rfl (by decide) rfl (fun ls hl => ?_)
  refine lv_goto (tgt := 23) hx hb dX0_init_45 (by decide) ?_
  refine lv_iload_n hx hb dX0_init_23 rfl (lv_at hl 0 rfl) ?_
  refine lv_bipush (v := (6 : Int32)) hx hb dX0_init_24 (by decide) ?_
  refine lv_icmp_ge (tgt := 48) hx hb dX0_init_26 (by decide) (fun c9 => absurd c9 (by decide)) (fun _ => ?_)
  refine lv_aload_n hx hb dX0_init_29 rfl (lv_at hl 1 rfl) ?_
  refine zGet (o := 0) (k := 0) (L := [.inr (0, [.ref (b + 1), .ref (b + 2), .int 0]), .inl (cP, 6, .inr (.inr (.inr (.inr (va_up (va_up (va_up (fun _ => none) ((0 : Int32)).toNatClampNeg (some (b + 3))) ((1 : Int32)).toNatClampNeg (some (b + 4))) ((2 : Int32)).toNatClampNeg (some (b + 5))))))), eI cI 6, eP, eP, eP]) X hI rfl rfl inX0 (by decide) rfl tw_20 dX0_init_30 ?_
  refine lv_iload_n hx hb dX0_init_33 rfl (lv_at hl 0 rfl) ?_
  refine zNew (ci := 3) (L := [.inr (0, [.ref (b + 1), .ref (b + 2), .int 0]), .inl (cP, 6, .inr (.inr (.inr (.inr (va_up (va_up (va_up (fun _ => none) ((0 : Int32)).toNatClampNeg (some (b + 3))) ((1 : Int32)).toNatClampNeg (some (b + 4))) ((2 : Int32)).toNatClampNeg (some (b + 5))))))), eI cI 6, eP, eP, eP]) X hI hS rfl inX3 tyX3 tyX3_ok dfX3 tz_cl47 tz_is49 tw_385 (Nat.le_of_ble_eq_true rfl) (Nat.le_of_ble_eq_true rfl) dX0_init_34 (fun H hI hS => ?_)
  have hI : Im D b [.inr (0, [.ref (b + 1), .ref (b + 2), .int 0]), .inl (cP, 6, .inr (.inr (.inr (.inr (va_up (va_up (va_up (fun _ => none) ((0 : Int32)).toNatClampNeg (some (b + 3))) ((1 : Int32)).toNatClampNeg (some (b + 4))) ((2 : Int32)).toNatClampNeg (some (b + 5))))))), eI cI 6, eP, eP, eP, eP] H := hI
  refine lv_dup hx hb dX0_init_37 rfl ?_
  refine zCallIN (L := [.inr (0, [.ref (b + 1), .ref (b + 2), .int 0]), .inl (cP, 6, .inr (.inr (.inr (.inr (va_up (va_up (va_up (fun _ => none) ((0 : Int32)).toNatClampNeg (some (b + 3))) ((1 : Int32)).toNatClampNeg (some (b + 4))) ((2 : Int32)).toNatClampNeg (some (b + 5))))))), eI cI 6, eP, eP, eP]) (e0 := eP) (rest := [.ref (b + 6), .int (3 : Int32), .ref (b + 1)]) X hI hS [] (n_X3_init (b := b + 6)) cw_X3_init tw_114 tw_399 rfl ⟨Nat.le_of_ble_eq_true rfl, Nat.le_of_ble_eq_true rfl⟩ rfl rfl hl.1 (Nat.le_of_ble_eq_true rfl) dX0_init_38 ⟨Nat.le_of_ble_eq_true rfl, Nat.le_of_ble_eq_true rfl⟩ (fun H locs hI hS => ?_)
  have hI : Im D b [.inr (0, [.ref (b + 1), .ref (b + 2), .int 0]), .inl (cP, 6, .inr (.inr (.inr (.inr (va_up (va_up (va_up (fun _ => none) ((0 : Int32)).toNatClampNeg (some (b + 3))) ((1 : Int32)).toNatClampNeg (some (b + 4))) ((2 : Int32)).toNatClampNeg (some (b + 5))))))), eI cI 6, eP, eP, eP, eP] H := hI
  refine zAast (o := 1) (o2 := 6) (t0 := 1) (L := [.inr (0, [.ref (b + 1), .ref (b + 2), .int 0]), .inl (cP, 6, .inr (.inr (.inr (.inr (va_up (va_up (va_up (fun _ => none) ((0 : Int32)).toNatClampNeg (some (b + 3))) ((1 : Int32)).toNatClampNeg (some (b + 4))) ((2 : Int32)).toNatClampNeg (some (b + 5))))))), eI cI 6, eP, eP, eP, eP]) X hI hS rfl rfl rfl rfl (ixb_in (by decide)) dX0_init_41 (fun H locs hI hS => ?_)
  have hI : Im D b [.inr (0, [.ref (b + 1), .ref (b + 2), .int 0]), .inl (cP, 6, .inr (.inr (.inr (.inr (va_up (va_up (va_up (va_up (fun _ => none) ((0 : Int32)).toNatClampNeg (some (b + 3))) ((1 : Int32)).toNatClampNeg (some (b + 4))) ((2 : Int32)).toNatClampNeg (some (b + 5))) ((3 : Int32)).toNatClampNeg (some (b + 6))))))), eI cI 6, eP, eP, eP, eP] H := hI
  refine lv_iinc (v := (4 : Int32)) (lv' := [(1, .int (4 : Int32)), (0, .ref b)]) hx hb dX0_init_42 hl (k := 0) rfl rfl (by decide) rfl (fun ls hl => ?_)
  refine lv_goto (tgt := 23) hx hb dX0_init_45 (by decide) ?_
  refine lv_iload_n hx hb dX0_init_23 rfl (lv_at hl 0 rfl) ?_
  refine lv_bipush (v := (6 : Int32)) hx hb dX0_init_24 (by decide) ?_
  refine lv_icmp_ge (tgt := 48) hx hb dX0_init_26 (by decide) (fun c9 => absurd c9 (by decide)) (fun _ => ?_)
  refine lv_aload_n hx hb dX0_init_29 rfl (lv_at hl 1 rfl) ?_
  refine zGet (o := 0) (k := 0) (L := [.inr (0, [.ref (b + 1), .ref (b + 2), .int 0]), .inl (cP, 6, .inr (.inr (.inr (.inr (va_up (va_up (va_up (va_up (fun _ => none) ((0 : Int32)).toNatClampNeg (some (b + 3))) ((1 : Int32)).toNatClampNeg (some (b + 4))) ((2 : Int32)).toNatClampNeg (some (b + 5))) ((3 : Int32)).toNatClampNeg (some (b + 6))))))), eI cI 6, eP, eP, eP, eP]) X hI rfl rfl inX0 (by decide) rfl tw_20 dX0_init_30 ?_
  refine lv_iload_n hx hb dX0_init_33 rfl (lv_at hl 0 rfl) ?_
  refine zNew (ci := 3) (L := [.inr (0, [.ref (b + 1), .ref (b + 2), .int 0]), .inl (cP, 6, .inr (.inr (.inr (.inr (va_up (va_up (va_up (va_up (fun _ => none) ((0 : Int32)).toNatClampNeg (some (b + 3))) ((1 : Int32)).toNatClampNeg (some (b + 4))) ((2 : Int32)).toNatClampNeg (some (b + 5))) ((3 : Int32)).toNatClampNeg (some (b + 6))))))), eI cI 6, eP, eP, eP, eP]) X hI hS rfl inX3 tyX3 tyX3_ok dfX3 tz_cl47 tz_is49 tw_385 (Nat.le_of_ble_eq_true rfl) (Nat.le_of_ble_eq_true rfl) dX0_init_34 (fun H hI hS => ?_)
  have hI : Im D b [.inr (0, [.ref (b + 1), .ref (b + 2), .int 0]), .inl (cP, 6, .inr (.inr (.inr (.inr (va_up (va_up (va_up (va_up (fun _ => none) ((0 : Int32)).toNatClampNeg (some (b + 3))) ((1 : Int32)).toNatClampNeg (some (b + 4))) ((2 : Int32)).toNatClampNeg (some (b + 5))) ((3 : Int32)).toNatClampNeg (some (b + 6))))))), eI cI 6, eP, eP, eP, eP, eP] H := hI
  refine lv_dup hx hb dX0_init_37 rfl ?_
  refine zCallIN (L := [.inr (0, [.ref (b + 1), .ref (b + 2), .int 0]), .inl (cP, 6, .inr (.inr (.inr (.inr (va_up (va_up (va_up (va_up (fun _ => none) ((0 : Int32)).toNatClampNeg (some (b + 3))) ((1 : Int32)).toNatClampNeg (some (b + 4))) ((2 : Int32)).toNatClampNeg (some (b + 5))) ((3 : Int32)).toNatClampNeg (some (b + 6))))))), eI cI 6, eP, eP, eP, eP]) (e0 := eP) (rest := [.ref (b + 7), .int (4 : Int32), .ref (b + 1)]) X hI hS [] (n_X3_init (b := b + 7)) cw_X3_init tw_114 tw_399 rfl ⟨Nat.le_of_ble_eq_true rfl, Nat.le_of_ble_eq_true rfl⟩ rfl rfl hl.1 (Nat.le_of_ble_eq_true rfl) dX0_init_38 ⟨Nat.le_of_ble_eq_true rfl, Nat.le_of_ble_eq_true rfl⟩ (fun H locs hI hS => ?_)
  have hI : Im D b [.inr (0, [.ref (b + 1), .ref (b + 2), .int 0]), .inl (cP, 6, .inr (.inr (.inr (.inr (va_up (va_up (va_up (va_up (fun _ => none) ((0 : Int32)).toNatClampNeg (some (b + 3))) ((1 : Int32)).toNatClampNeg (some (b + 4))) ((2 : Int32)).toNatClampNeg (some (b + 5))) ((3 : Int32)).toNatClampNeg (some (b + 6))))))), eI cI 6, eP, eP, eP, eP, eP] H := hI
  refine zAast (o := 1) (o2 := 7) (t0 := 1) (L := [.inr (0, [.ref (b + 1), .ref (b + 2), .int 0]), .inl (cP, 6, .inr (.inr (.inr (.inr (va_up (va_up (va_up (va_up (fun _ => none) ((0 : Int32)).toNatClampNeg (some (b + 3))) ((1 : Int32)).toNatClampNeg (some (b + 4))) ((2 : Int32)).toNatClampNeg (some (b + 5))) ((3 : Int32)).toNatClampNeg (some (b + 6))))))), eI cI 6, eP, eP, eP, eP, eP]) X hI hS rfl rfl rfl rfl (ixb_in (by decide)) dX0_init_41 (fun H locs hI hS => ?_)
  have hI : Im D b [.inr (0, [.ref (b + 1), .ref (b + 2), .int 0]), .inl (cP, 6, .inr (.inr (.inr (.inr (va_up (va_up (va_up (va_up (va_up (fun _ => none) ((0 : Int32)).toNatClampNeg (some (b + 3))) ((1 : Int32)).toNatClampNeg (some (b + 4))) ((2 : Int32)).toNatClampNeg (some (b + 5))) ((3 : Int32)).toNatClampNeg (some (b + 6))) ((4 : Int32)).toNatClampNeg (some (b + 7))))))), eI cI 6, eP, eP, eP, eP, eP] H := hI
  refine lv_iinc (v := (5 : Int32)) (lv' := [(1, .int (5 : Int32)), (0, .ref b)]) hx hb dX0_init_42 hl (k := 0) rfl rfl (by decide) rfl (fun ls hl => ?_)
  refine lv_goto (tgt := 23) hx hb dX0_init_45 (by decide) ?_
  refine lv_iload_n hx hb dX0_init_23 rfl (lv_at hl 0 rfl) ?_
  refine lv_bipush (v := (6 : Int32)) hx hb dX0_init_24 (by decide) ?_
  refine lv_icmp_ge (tgt := 48) hx hb dX0_init_26 (by decide) (fun c9 => absurd c9 (by decide)) (fun _ => ?_)
  refine lv_aload_n hx hb dX0_init_29 rfl (lv_at hl 1 rfl) ?_
  refine zGet (o := 0) (k := 0) (L := [.inr (0, [.ref (b + 1), .ref (b + 2), .int 0]), .inl (cP, 6, .inr (.inr (.inr (.inr (va_up (va_up (va_up (va_up (va_up (fun _ => none) ((0 : Int32)).toNatClampNeg (some (b + 3))) ((1 : Int32)).toNatClampNeg (some (b + 4))) ((2 : Int32)).toNatClampNeg (some (b + 5))) ((3 : Int32)).toNatClampNeg (some (b + 6))) ((4 : Int32)).toNatClampNeg (some (b + 7))))))), eI cI 6, eP, eP, eP, eP, eP]) X hI rfl rfl inX0 (by decide) rfl tw_20 dX0_init_30 ?_
  refine lv_iload_n hx hb dX0_init_33 rfl (lv_at hl 0 rfl) ?_
  refine zNew (ci := 3) (L := [.inr (0, [.ref (b + 1), .ref (b + 2), .int 0]), .inl (cP, 6, .inr (.inr (.inr (.inr (va_up (va_up (va_up (va_up (va_up (fun _ => none) ((0 : Int32)).toNatClampNeg (some (b + 3))) ((1 : Int32)).toNatClampNeg (some (b + 4))) ((2 : Int32)).toNatClampNeg (some (b + 5))) ((3 : Int32)).toNatClampNeg (some (b + 6))) ((4 : Int32)).toNatClampNeg (some (b + 7))))))), eI cI 6, eP, eP, eP, eP, eP]) X hI hS rfl inX3 tyX3 tyX3_ok dfX3 tz_cl47 tz_is49 tw_385 (Nat.le_of_ble_eq_true rfl) (Nat.le_of_ble_eq_true rfl) dX0_init_34 (fun H hI hS => ?_)
  have hI : Im D b [.inr (0, [.ref (b + 1), .ref (b + 2), .int 0]), .inl (cP, 6, .inr (.inr (.inr (.inr (va_up (va_up (va_up (va_up (va_up (fun _ => none) ((0 : Int32)).toNatClampNeg (some (b + 3))) ((1 : Int32)).toNatClampNeg (some (b + 4))) ((2 : Int32)).toNatClampNeg (some (b + 5))) ((3 : Int32)).toNatClampNeg (some (b + 6))) ((4 : Int32)).toNatClampNeg (some (b + 7))))))), eI cI 6, eP, eP, eP, eP, eP, eP] H := hI
  refine lv_dup hx hb dX0_init_37 rfl ?_
  refine zCallIN (L := [.inr (0, [.ref (b + 1), .ref (b + 2), .int 0]), .inl (cP, 6, .inr (.inr (.inr (.inr (va_up (va_up (va_up (va_up (va_up (fun _ => none) ((0 : Int32)).toNatClampNeg (some (b + 3))) ((1 : Int32)).toNatClampNeg (some (b + 4))) ((2 : Int32)).toNatClampNeg (some (b + 5))) ((3 : Int32)).toNatClampNeg (some (b + 6))) ((4 : Int32)).toNatClampNeg (some (b + 7))))))), eI cI 6, eP, eP, eP, eP, eP]) (e0 := eP) (rest := [.ref (b + 8), .int (5 : Int32), .ref (b + 1)]) X hI hS [] (n_X3_init (b := b + 8)) cw_X3_init tw_114 tw_399 rfl ⟨Nat.le_of_ble_eq_true rfl, Nat.le_of_ble_eq_true rfl⟩ rfl rfl hl.1 (Nat.le_of_ble_eq_true rfl) dX0_init_38 ⟨Nat.le_of_ble_eq_true rfl, Nat.le_of_ble_eq_true rfl⟩ (fun H locs hI hS => ?_)
  have hI : Im D b [.inr (0, [.ref (b + 1), .ref (b + 2), .int 0]), .inl (cP, 6, .inr (.inr (.inr (.inr (va_up (va_up (va_up (va_up (va_up (fun _ => none) ((0 : Int32)).toNatClampNeg (some (b + 3))) ((1 : Int32)).toNatClampNeg (some (b + 4))) ((2 : Int32)).toNatClampNeg (some (b + 5))) ((3 : Int32)).toNatClampNeg (some (b + 6))) ((4 : Int32)).toNatClampNeg (some (b + 7))))))), eI cI 6, eP, eP, eP, eP, eP, eP] H := hI
  refine zAast (o := 1) (o2 := 8) (t0 := 1) (L := [.inr (0, [.ref (b + 1), .ref (b + 2), .int 0]), .inl (cP, 6, .inr (.inr (.inr (.inr (va_up (va_up (va_up (va_up (va_up (fun _ => none) ((0 : Int32)).toNatClampNeg (some (b + 3))) ((1 : Int32)).toNatClampNeg (some (b + 4))) ((2 : Int32)).toNatClampNeg (some (b + 5))) ((3 : Int32)).toNatClampNeg (some (b + 6))) ((4 : Int32)).toNatClampNeg (some (b + 7))))))), eI cI 6, eP, eP, eP, eP, eP, eP]) X hI hS rfl rfl rfl rfl (ixb_in (by decide)) dX0_init_41 (fun H locs hI hS => ?_)
  have hI : Im D b [.inr (0, [.ref (b + 1), .ref (b + 2), .int 0]), .inl (cP, 6, .inr (.inr (.inr (.inr (va_up (va_up (va_up (va_up (va_up (va_up (fun _ => none) ((0 : Int32)).toNatClampNeg (some (b + 3))) ((1 : Int32)).toNatClampNeg (some (b + 4))) ((2 : Int32)).toNatClampNeg (some (b + 5))) ((3 : Int32)).toNatClampNeg (some (b + 6))) ((4 : Int32)).toNatClampNeg (some (b + 7))) ((5 : Int32)).toNatClampNeg (some (b + 8))))))), eI cI 6, eP, eP, eP, eP, eP, eP] H := hI
  refine lv_iinc (v := (6 : Int32)) (lv' := [(1, .int (6 : Int32)), (0, .ref b)]) hx hb dX0_init_42 hl (k := 0) rfl rfl (by decide) rfl (fun ls hl => ?_)
  refine lv_goto (tgt := 23) hx hb dX0_init_45 (by decide) ?_
  refine lv_iload_n hx hb dX0_init_23 rfl (lv_at hl 0 rfl) ?_
  refine lv_bipush (v := (6 : Int32)) hx hb dX0_init_24 (by decide) ?_
  refine lv_icmp_ge (tgt := 48) hx hb dX0_init_26 (by decide) (fun _ => ?_) (fun c9 => absurd (by decide) c9)
  have hI := hI.set (o := 1) (at_q (g := fun i => some (b + 3 + i)) (hI.2 1 _ rfl) (fun j hj => by rcases (show j = 0 ∨ j = 1 ∨ j = 2 ∨ j = 3 ∨ j = 4 ∨ j = 5 by omega) with rfl | rfl | rfl | rfl | rfl | rfl <;> rfl)) rfl (fun _ _ => rfl)
  have hI : Im D b [.inr (0, [.ref (b + 1), .ref (b + 2), .int 0]), eQ cP 6 (b + 3), eI cI 6, eP, eP, eP, eP, eP, eP] H := hI
  refine W.widen (k := 8) (n := 54) (Nat.le_of_ble_eq_true rfl) (Nat.le_of_ble_eq_true rfl) ?_
  exact zRet X hr hlk hI hS dX0_init_48
