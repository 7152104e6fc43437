/-! the world as it is made -/
abbrev lstC (cI cP cB cA : ClassId) (b : Nat) : List va_E := [.inr (7, [.ref (b + 1), .ref (b + 10), .ref (b + 17), .ref (b + 26), .ref (b + 35), .ref (b + 63), .ref (b + 64), .ref (b + 69), .ref (b + 75), .ref (b + 78), .int 0, .int 0, .long 0, .long (1 : Int64)]), .inr (6, [.ref (b + 2), .ref (b + 9)]), eQ cA 6 (b + 3), eI cI 40, eI cI 40, eI cI 40, eI cI 40, eI cI 40, eI cI 40, eN cI 6, .inr (6, [.ref (b + 11), .ref (b + 16)]), eQ cA 4 (b + 12), eI cI 80, eI cI 80, eI cI 80, eI cI 80, eN cI 4, .inr (0, [.ref (b + 18), .ref (b + 19), .int 0]), eQ cP 6 (b + 20), eI cI 6, eP, eP, eP, eP, eP, eP, .inr (0, [.ref (b + 27), .ref (b + 28), .int 0]), eQ cP 6 (b + 29), eI cI 6, eP, eP, eP, eP, eP, eP, .inl (cB, 3, .inr (.inr (.inr (.inr (va_up (va_up (va_up (fun _ => none) ((0 : Int32)).toNatClampNeg (some (b + 36))) ((1 : Int32)).toNatClampNeg (some (b + 45))) ((2 : Int32)).toNatClampNeg (some (b + 54))))))), .inr (0, [.ref (b + 37), .ref (b + 38), .int 0]), eQ cP 6 (b + 39), eI cI 6, eP, eP, eP, eP, eP, eP, .inr (0, [.ref (b + 46), .ref (b + 47), .int 0]), eQ cP 6 (b + 48), eI cI 6, eP, eP, eP, eP, eP, eP, .inr (0, [.ref (b + 55), .ref (b + 56), .int 0]), eQ cP 6 (b + 57), eI cI 6, eP, eP, eP, eP, eP, eP, .inr (5, [.null, .int 0, .int 0, .int 0, .int 0]), .inr (1, [.ref (b + 65), .int 0, .int 0, .int 0, .ref (b + 66), .ref (b + 67), .int 0, .ref (b + 68)]), eI cI 25, eI cI 6, eI cI 6, eI cI 6, .inr (4, [.ref (b + 70), .ref (b + 71), .int 0, .ref (b + 72), .ref (b + 73), .ref (b + 74), .int 0]), eI cI 21, eI cI 8, eI cI 8, eI cI 8, eI cI 8, .inr (2, [.ref (b + 76), .ref (b + 77), .int 0]), eI cI 6, eI cI 6, eI cI 6]
abbrev lstM (cI : ClassId) (b : Nat) : List va_E := [.inr (8, [.int 0, .ref (b + 1), .int 0, .long 0, .long (1 : Int64), .ref (b + 2), .ref (b + 3), .ref (b + 4), .ref (b + 5), .ref (b + 6), .int 0, .ref (b + 7), .ref (b + 8), .ref (b + 9), .ref (b + 10), .ref (b + 11), .ref (b + 12), .int 0, .int 0, .ref (b + 13), .int (-9 : Int32), .ref (b + 14), .int 0, .ref (b + 15), .int 0, .ref (b + 16), .int 0, .ref (b + 17), .int 0, .ref (b + 18), .long 0]), eI cI 6, .inl (cI, 6, .inl (upd (upd (upd (upd (upd (upd (fun _ => 0) ((0 : Int32)).toNatClampNeg (-9 : Int32)) ((1 : Int32)).toNatClampNeg (-9 : Int32)) ((2 : Int32)).toNatClampNeg (-9 : Int32)) ((3 : Int32)).toNatClampNeg (-9 : Int32)) ((4 : Int32)).toNatClampNeg (-9 : Int32)) ((5 : Int32)).toNatClampNeg (-9 : Int32))), eI cI 240, eI cI 40, .inl (cI, 4, .inl (upd (upd (upd (upd (fun _ => 0) ((0 : Int32)).toNatClampNeg (-9 : Int32)) ((1 : Int32)).toNatClampNeg (-9 : Int32)) ((2 : Int32)).toNatClampNeg (-9 : Int32)) ((3 : Int32)).toNatClampNeg (-9 : Int32))), eI cI 320, eI cI 6, eI cI 6, eI cI 6, eI cI 6, eI cI 6, eI cI 6, eI cI 30, .inl (cI, 114, .inl (upd (upd (upd (fun _ => 0) (((38 : Int32) * (0 : Int32))).toNatClampNeg (-9 : Int32)) (((38 : Int32) * (1 : Int32))).toNatClampNeg (-9 : Int32)) (((38 : Int32) * (2 : Int32))).toNatClampNeg (-9 : Int32))), eI cI 8, eI cI 6, eI cI 6, eI cI 6]
def bkO (i : Nat) : Nat := if i < 2 then 17 + 9 * i else 18 + 9 * i
def offC (o : Nat) : Nat := if o = 0 then 0 else if o = 1 then 1 else if o = 2 then 10 else if o = 3 then 2 else if o = 4 then 11 else if o = 5 then 9 else if o = 6 then 16 else if o = 7 then 63 else if o = 8 then 64 else if o = 9 then 69 else if o = 10 then 75 else if o < 15 then 54 + o else if o < 20 then 55 + o else if o < 22 then 56 + o else if o = 22 then 78 else if o = 23 then 35 else if o < 30 then o - 21 else if o < 34 then o - 18 else if o < 39 then bkO (o - 34) else if o < 44 then bkO (o - 39) + 1 else if o < 49 then bkO (o - 44) + 2 else bkO ((o - 49) / 6) + 3 + (o - 49) % 6
def aC (b o : Nat) : Nat := b + offC o
def aM (b o : Nat) : Nat := b + 79 + o
def S0 : Stt := (fun F _ _ => if F = 19 then -1 else 0, fun k => if k = 1 then 1 else 0)
def M0 : Stt := (fun F a i => if F = 0 then (if a = 20 then -9 else 0) else if F = 2 then -9 else if F = 5 then -9 else if F = 14 then (if i = 0 ∨ i = 38 ∨ i = 76 then -9 else 0) else 0, fun k => if k = 4 then 1 else 0)
theorem offC_inj : ∀ i, i < 79 → ∀ j, j < 79 → offC i = offC j → i = j := by decide +kernel
theorem offC_lt : ∀ i, i < 79 → offC i < 79 := by decide +kernel
theorem aC_inj (b : Nat) : Inj 79 (aC b) := fun i j hi hj h => offC_inj i hi j hj (by unfold aC at h; omega)
theorem aM_inj (b : Nat) : Inj 19 (aM b) := fun i j _ _ h => by unfold aM at h; omega
set_option maxRecDepth 100000 in
set_option maxHeartbeats 4000000 in
theorem wc_0 {D : va_G} {cI cP cB cA : ClassId} {b : Nat} {H : Heap} (h : ∀ o e, (lstC cI cP cB cA b)[o]? = some e → va_at D vwCl (b + o, e) H) : va_at D vwCl (aC b 0, cfC (aC b) cI cP cB cA S0 0) H := h 0 _ rfl
set_option maxRecDepth 100000 in
theorem wc_1 {D : va_G} {cI cP cB cA : ClassId} {b : Nat} {H : Heap} (h : ∀ o e, (lstC cI cP cB cA b)[o]? = some e → va_at D vwCl (b + o, e) H) : va_at D vwCl (aC b 1, cfC (aC b) cI cP cB cA S0 1) H := h 1 _ rfl
set_option maxRecDepth 100000 in
theorem wc_2 {D : va_G} {cI cP cB cA : ClassId} {b : Nat} {H : Heap} (h : ∀ o e, (lstC cI cP cB cA b)[o]? = some e → va_at D vwCl (b + o, e) H) : va_at D vwCl (aC b 2, cfC (aC b) cI cP cB cA S0 2) H := h 10 _ rfl
set_option maxRecDepth 100000 in
theorem wc_3 {D : va_G} {cI cP cB cA : ClassId} {b : Nat} {H : Heap} (h : ∀ o e, (lstC cI cP cB cA b)[o]? = some e → va_at D vwCl (b + o, e) H) : va_at D vwCl (aC b 3, cfC (aC b) cI cP cB cA S0 3) H := at_q (h 2 _ rfl) (fun j hj => by have hj : j < 6 := hj; rcases (show j = 0 ∨ j = 1 ∨ j = 2 ∨ j = 3 ∨ j = 4 ∨ j = 5 by omega) with rfl | rfl | rfl | rfl | rfl | rfl <;> rfl)
set_option maxRecDepth 100000 in
theorem wc_4 {D : va_G} {cI cP cB cA : ClassId} {b : Nat} {H : Heap} (h : ∀ o e, (lstC cI cP cB cA b)[o]? = some e → va_at D vwCl (b + o, e) H) : va_at D vwCl (aC b 4, cfC (aC b) cI cP cB cA S0 4) H := at_q (h 11 _ rfl) (fun j hj => by have hj : j < 4 := hj; rcases (show j = 0 ∨ j = 1 ∨ j = 2 ∨ j = 3 by omega) with rfl | rfl | rfl | rfl <;> rfl)
set_option maxRecDepth 100000 in
theorem wc_5 {D : va_G} {cI cP cB cA : ClassId} {b : Nat} {H : Heap} (h : ∀ o e, (lstC cI cP cB cA b)[o]? = some e → va_at D vwCl (b + o, e) H) : va_at D vwCl (aC b 5, cfC (aC b) cI cP cB cA S0 5) H := h 9 _ rfl
set_option maxRecDepth 100000 in
theorem wc_6 {D : va_G} {cI cP cB cA : ClassId} {b : Nat} {H : Heap} (h : ∀ o e, (lstC cI cP cB cA b)[o]? = some e → va_at D vwCl (b + o, e) H) : va_at D vwCl (aC b 6, cfC (aC b) cI cP cB cA S0 6) H := h 16 _ rfl
set_option maxRecDepth 100000 in
theorem wc_7 {D : va_G} {cI cP cB cA : ClassId} {b : Nat} {H : Heap} (h : ∀ o e, (lstC cI cP cB cA b)[o]? = some e → va_at D vwCl (b + o, e) H) : va_at D vwCl (aC b 7, cfC (aC b) cI cP cB cA S0 7) H := h 63 _ rfl
set_option maxRecDepth 100000 in
theorem wc_8 {D : va_G} {cI cP cB cA : ClassId} {b : Nat} {H : Heap} (h : ∀ o e, (lstC cI cP cB cA b)[o]? = some e → va_at D vwCl (b + o, e) H) : va_at D vwCl (aC b 8, cfC (aC b) cI cP cB cA S0 8) H := h 64 _ rfl
set_option maxRecDepth 100000 in
theorem wc_9 {D : va_G} {cI cP cB cA : ClassId} {b : Nat} {H : Heap} (h : ∀ o e, (lstC cI cP cB cA b)[o]? = some e → va_at D vwCl (b + o, e) H) : va_at D vwCl (aC b 9, cfC (aC b) cI cP cB cA S0 9) H := h 69 _ rfl
set_option maxRecDepth 100000 in
theorem wc_10 {D : va_G} {cI cP cB cA : ClassId} {b : Nat} {H : Heap} (h : ∀ o e, (lstC cI cP cB cA b)[o]? = some e → va_at D vwCl (b + o, e) H) : va_at D vwCl (aC b 10, cfC (aC b) cI cP cB cA S0 10) H := h 75 _ rfl
set_option maxRecDepth 100000 in
theorem wc_11 {D : va_G} {cI cP cB cA : ClassId} {b : Nat} {H : Heap} (h : ∀ o e, (lstC cI cP cB cA b)[o]? = some e → va_at D vwCl (b + o, e) H) : va_at D vwCl (aC b 11, cfC (aC b) cI cP cB cA S0 11) H := h 65 _ rfl
set_option maxRecDepth 100000 in
theorem wc_12 {D : va_G} {cI cP cB cA : ClassId} {b : Nat} {H : Heap} (h : ∀ o e, (lstC cI cP cB cA b)[o]? = some e → va_at D vwCl (b + o, e) H) : va_at D vwCl (aC b 12, cfC (aC b) cI cP cB cA S0 12) H := h 66 _ rfl
set_option maxRecDepth 100000 in
theorem wc_13 {D : va_G} {cI cP cB cA : ClassId} {b : Nat} {H : Heap} (h : ∀ o e, (lstC cI cP cB cA b)[o]? = some e → va_at D vwCl (b + o, e) H) : va_at D vwCl (aC b 13, cfC (aC b) cI cP cB cA S0 13) H := h 67 _ rfl
set_option maxRecDepth 100000 in
theorem wc_14 {D : va_G} {cI cP cB cA : ClassId} {b : Nat} {H : Heap} (h : ∀ o e, (lstC cI cP cB cA b)[o]? = some e → va_at D vwCl (b + o, e) H) : va_at D vwCl (aC b 14, cfC (aC b) cI cP cB cA S0 14) H := h 68 _ rfl
set_option maxRecDepth 100000 in
theorem wc_15 {D : va_G} {cI cP cB cA : ClassId} {b : Nat} {H : Heap} (h : ∀ o e, (lstC cI cP cB cA b)[o]? = some e → va_at D vwCl (b + o, e) H) : va_at D vwCl (aC b 15, cfC (aC b) cI cP cB cA S0 15) H := h 70 _ rfl
set_option maxRecDepth 100000 in
theorem wc_16 {D : va_G} {cI cP cB cA : ClassId} {b : Nat} {H : Heap} (h : ∀ o e, (lstC cI cP cB cA b)[o]? = some e → va_at D vwCl (b + o, e) H) : va_at D vwCl (aC b 16, cfC (aC b) cI cP cB cA S0 16) H := h 71 _ rfl
set_option maxRecDepth 100000 in
theorem wc_17 {D : va_G} {cI cP cB cA : ClassId} {b : Nat} {H : Heap} (h : ∀ o e, (lstC cI cP cB cA b)[o]? = some e → va_at D vwCl (b + o, e) H) : va_at D vwCl (aC b 17, cfC (aC b) cI cP cB cA S0 17) H := h 72 _ rfl
set_option maxRecDepth 100000 in
theorem wc_18 {D : va_G} {cI cP cB cA : ClassId} {b : Nat} {H : Heap} (h : ∀ o e, (lstC cI cP cB cA b)[o]? = some e → va_at D vwCl (b + o, e) H) : va_at D vwCl (aC b 18, cfC (aC b) cI cP cB cA S0 18) H := h 73 _ rfl
set_option maxRecDepth 100000 in
theorem wc_19 {D : va_G} {cI cP cB cA : ClassId} {b : Nat} {H : Heap} (h : ∀ o e, (lstC cI cP cB cA b)[o]? = some e → va_at D vwCl (b + o, e) H) : va_at D vwCl (aC b 19, cfC (aC b) cI cP cB cA S0 19) H := h 74 _ rfl
set_option maxRecDepth 100000 in
theorem wc_20 {D : va_G} {cI cP cB cA : ClassId} {b : Nat} {H : Heap} (h : ∀ o e, (lstC cI cP cB cA b)[o]? = some e → va_at D vwCl (b + o, e) H) : va_at D vwCl (aC b 20, cfC (aC b) cI cP cB cA S0 20) H := h 76 _ rfl
set_option maxRecDepth 100000 in
theorem wc_21 {D : va_G} {cI cP cB cA : ClassId} {b : Nat} {H : Heap} (h : ∀ o e, (lstC cI cP cB cA b)[o]? = some e → va_at D vwCl (b + o, e) H) : va_at D vwCl (aC b 21, cfC (aC b) cI cP cB cA S0 21) H := h 77 _ rfl
set_option maxRecDepth 100000 in
theorem wc_22 {D : va_G} {cI cP cB cA : ClassId} {b : Nat} {H : Heap} (h : ∀ o e, (lstC cI cP cB cA b)[o]? = some e → va_at D vwCl (b + o, e) H) : va_at D vwCl (aC b 22, cfC (aC b) cI cP cB cA S0 22) H := h 78 _ rfl
set_option maxRecDepth 100000 in
theorem wc_23 {D : va_G} {cI cP cB cA : ClassId} {b : Nat} {H : Heap} (h : ∀ o e, (lstC cI cP cB cA b)[o]? = some e → va_at D vwCl (b + o, e) H) : va_at D vwCl (aC b 23, cfC (aC b) cI cP cB cA S0 23) H := at_q (h 35 _ rfl) (fun j hj => by have hj : j < 3 := hj; rcases (show j = 0 ∨ j = 1 ∨ j = 2 by omega) with rfl | rfl | rfl <;> rfl)
set_option maxRecDepth 100000 in
theorem wc_24 {D : va_G} {cI cP cB cA : ClassId} {b : Nat} {H : Heap} (h : ∀ o e, (lstC cI cP cB cA b)[o]? = some e → va_at D vwCl (b + o, e) H) : va_at D vwCl (aC b 24, cfC (aC b) cI cP cB cA S0 24) H := h 3 _ rfl
set_option maxRecDepth 100000 in
theorem wc_25 {D : va_G} {cI cP cB cA : ClassId} {b : Nat} {H : Heap} (h : ∀ o e, (lstC cI cP cB cA b)[o]? = some e → va_at D vwCl (b + o, e) H) : va_at D vwCl (aC b 25, cfC (aC b) cI cP cB cA S0 25) H := h 4 _ rfl
set_option maxRecDepth 100000 in
theorem wc_26 {D : va_G} {cI cP cB cA : ClassId} {b : Nat} {H : Heap} (h : ∀ o e, (lstC cI cP cB cA b)[o]? = some e → va_at D vwCl (b + o, e) H) : va_at D vwCl (aC b 26, cfC (aC b) cI cP cB cA S0 26) H := h 5 _ rfl
set_option maxRecDepth 100000 in
theorem wc_27 {D : va_G} {cI cP cB cA : ClassId} {b : Nat} {H : Heap} (h : ∀ o e, (lstC cI cP cB cA b)[o]? = some e → va_at D vwCl (b + o, e) H) : va_at D vwCl (aC b 27, cfC (aC b) cI cP cB cA S0 27) H := h 6 _ rfl
set_option maxRecDepth 100000 in
theorem wc_28 {D : va_G} {cI cP cB cA : ClassId} {b : Nat} {H : Heap} (h : ∀ o e, (lstC cI cP cB cA b)[o]? = some e → va_at D vwCl (b + o, e) H) : va_at D vwCl (aC b 28, cfC (aC b) cI cP cB cA S0 28) H := h 7 _ rfl
set_option maxRecDepth 100000 in
theorem wc_29 {D : va_G} {cI cP cB cA : ClassId} {b : Nat} {H : Heap} (h : ∀ o e, (lstC cI cP cB cA b)[o]? = some e → va_at D vwCl (b + o, e) H) : va_at D vwCl (aC b 29, cfC (aC b) cI cP cB cA S0 29) H := h 8 _ rfl
set_option maxRecDepth 100000 in
theorem wc_30 {D : va_G} {cI cP cB cA : ClassId} {b : Nat} {H : Heap} (h : ∀ o e, (lstC cI cP cB cA b)[o]? = some e → va_at D vwCl (b + o, e) H) : va_at D vwCl (aC b 30, cfC (aC b) cI cP cB cA S0 30) H := h 12 _ rfl
set_option maxRecDepth 100000 in
theorem wc_31 {D : va_G} {cI cP cB cA : ClassId} {b : Nat} {H : Heap} (h : ∀ o e, (lstC cI cP cB cA b)[o]? = some e → va_at D vwCl (b + o, e) H) : va_at D vwCl (aC b 31, cfC (aC b) cI cP cB cA S0 31) H := h 13 _ rfl
set_option maxRecDepth 100000 in
theorem wc_32 {D : va_G} {cI cP cB cA : ClassId} {b : Nat} {H : Heap} (h : ∀ o e, (lstC cI cP cB cA b)[o]? = some e → va_at D vwCl (b + o, e) H) : va_at D vwCl (aC b 32, cfC (aC b) cI cP cB cA S0 32) H := h 14 _ rfl
set_option maxRecDepth 100000 in
theorem wc_33 {D : va_G} {cI cP cB cA : ClassId} {b : Nat} {H : Heap} (h : ∀ o e, (lstC cI cP cB cA b)[o]? = some e → va_at D vwCl (b + o, e) H) : va_at D vwCl (aC b 33, cfC (aC b) cI cP cB cA S0 33) H := h 15 _ rfl
set_option maxRecDepth 100000 in
theorem wc_34 {D : va_G} {cI cP cB cA : ClassId} {b : Nat} {H : Heap} (h : ∀ o e, (lstC cI cP cB cA b)[o]? = some e → va_at D vwCl (b + o, e) H) : va_at D vwCl (aC b 34, cfC (aC b) cI cP cB cA S0 34) H := h 17 _ rfl
set_option maxRecDepth 100000 in
theorem wc_35 {D : va_G} {cI cP cB cA : ClassId} {b : Nat} {H : Heap} (h : ∀ o e, (lstC cI cP cB cA b)[o]? = some e → va_at D vwCl (b + o, e) H) : va_at D vwCl (aC b 35, cfC (aC b) cI cP cB cA S0 35) H := h 26 _ rfl
set_option maxRecDepth 100000 in
theorem wc_36 {D : va_G} {cI cP cB cA : ClassId} {b : Nat} {H : Heap} (h : ∀ o e, (lstC cI cP cB cA b)[o]? = some e → va_at D vwCl (b + o, e) H) : va_at D vwCl (aC b 36, cfC (aC b) cI cP cB cA S0 36) H := h 36 _ rfl
set_option maxRecDepth 100000 in
theorem wc_37 {D : va_G} {cI cP cB cA : ClassId} {b : Nat} {H : Heap} (h : ∀ o e, (lstC cI cP cB cA b)[o]? = some e → va_at D vwCl (b + o, e) H) : va_at D vwCl (aC b 37, cfC (aC b) cI cP cB cA S0 37) H := h 45 _ rfl
set_option maxRecDepth 100000 in
theorem wc_38 {D : va_G} {cI cP cB cA : ClassId} {b : Nat} {H : Heap} (h : ∀ o e, (lstC cI cP cB cA b)[o]? = some e → va_at D vwCl (b + o, e) H) : va_at D vwCl (aC b 38, cfC (aC b) cI cP cB cA S0 38) H := h 54 _ rfl
set_option maxRecDepth 100000 in
theorem wc_39 {D : va_G} {cI cP cB cA : ClassId} {b : Nat} {H : Heap} (h : ∀ o e, (lstC cI cP cB cA b)[o]? = some e → va_at D vwCl (b + o, e) H) : va_at D vwCl (aC b 39, cfC (aC b) cI cP cB cA S0 39) H := at_q (h 18 _ rfl) (fun j hj => by have hj : j < 6 := hj; rcases (show j = 0 ∨ j = 1 ∨ j = 2 ∨ j = 3 ∨ j = 4 ∨ j = 5 by omega) with rfl | rfl | rfl | rfl | rfl | rfl <;> rfl)
set_option maxRecDepth 100000 in
theorem wc_40 {D : va_G} {cI cP cB cA : ClassId} {b : Nat} {H : Heap} (h : ∀ o e, (lstC cI cP cB cA b)[o]? = some e → va_at D vwCl (b + o, e) H) : va_at D vwCl (aC b 40, cfC (aC b) cI cP cB cA S0 40) H := at_q (h 27 _ rfl) (fun j hj => by have hj : j < 6 := hj; rcases (show j = 0 ∨ j = 1 ∨ j = 2 ∨ j = 3 ∨ j = 4 ∨ j = 5 by omega) with rfl | rfl | rfl | rfl | rfl | rfl <;> rfl)
set_option maxRecDepth 100000 in
theorem wc_41 {D : va_G} {cI cP cB cA : ClassId} {b : Nat} {H : Heap} (h : ∀ o e, (lstC cI cP cB cA b)[o]? = some e → va_at D vwCl (b + o, e) H) : va_at D vwCl (aC b 41, cfC (aC b) cI cP cB cA S0 41) H := at_q (h 37 _ rfl) (fun j hj => by have hj : j < 6 := hj; rcases (show j = 0 ∨ j = 1 ∨ j = 2 ∨ j = 3 ∨ j = 4 ∨ j = 5 by omega) with rfl | rfl | rfl | rfl | rfl | rfl <;> rfl)
set_option maxRecDepth 100000 in
theorem wc_42 {D : va_G} {cI cP cB cA : ClassId} {b : Nat} {H : Heap} (h : ∀ o e, (lstC cI cP cB cA b)[o]? = some e → va_at D vwCl (b + o, e) H) : va_at D vwCl (aC b 42, cfC (aC b) cI cP cB cA S0 42) H := at_q (h 46 _ rfl) (fun j hj => by have hj : j < 6 := hj; rcases (show j = 0 ∨ j = 1 ∨ j = 2 ∨ j = 3 ∨ j = 4 ∨ j = 5 by omega) with rfl | rfl | rfl | rfl | rfl | rfl <;> rfl)
set_option maxRecDepth 100000 in
theorem wc_43 {D : va_G} {cI cP cB cA : ClassId} {b : Nat} {H : Heap} (h : ∀ o e, (lstC cI cP cB cA b)[o]? = some e → va_at D vwCl (b + o, e) H) : va_at D vwCl (aC b 43, cfC (aC b) cI cP cB cA S0 43) H := at_q (h 55 _ rfl) (fun j hj => by have hj : j < 6 := hj; rcases (show j = 0 ∨ j = 1 ∨ j = 2 ∨ j = 3 ∨ j = 4 ∨ j = 5 by omega) with rfl | rfl | rfl | rfl | rfl | rfl <;> rfl)
set_option maxRecDepth 100000 in
theorem wc_44 {D : va_G} {cI cP cB cA : ClassId} {b : Nat} {H : Heap} (h : ∀ o e, (lstC cI cP cB cA b)[o]? = some e → va_at D vwCl (b + o, e) H) : va_at D vwCl (aC b 44, cfC (aC b) cI cP cB cA S0 44) H := h 19 _ rfl
set_option maxRecDepth 100000 in
theorem wc_45 {D : va_G} {cI cP cB cA : ClassId} {b : Nat} {H : Heap} (h : ∀ o e, (lstC cI cP cB cA b)[o]? = some e → va_at D vwCl (b + o, e) H) : va_at D vwCl (aC b 45, cfC (aC b) cI cP cB cA S0 45) H := h 28 _ rfl
set_option maxRecDepth 100000 in
theorem wc_46 {D : va_G} {cI cP cB cA : ClassId} {b : Nat} {H : Heap} (h : ∀ o e, (lstC cI cP cB cA b)[o]? = some e → va_at D vwCl (b + o, e) H) : va_at D vwCl (aC b 46, cfC (aC b) cI cP cB cA S0 46) H := h 38 _ rfl
set_option maxRecDepth 100000 in
theorem wc_47 {D : va_G} {cI cP cB cA : ClassId} {b : Nat} {H : Heap} (h : ∀ o e, (lstC cI cP cB cA b)[o]? = some e → va_at D vwCl (b + o, e) H) : va_at D vwCl (aC b 47, cfC (aC b) cI cP cB cA S0 47) H := h 47 _ rfl
set_option maxRecDepth 100000 in
theorem wc_48 {D : va_G} {cI cP cB cA : ClassId} {b : Nat} {H : Heap} (h : ∀ o e, (lstC cI cP cB cA b)[o]? = some e → va_at D vwCl (b + o, e) H) : va_at D vwCl (aC b 48, cfC (aC b) cI cP cB cA S0 48) H := h 56 _ rfl
set_option maxRecDepth 100000 in
theorem wc_49 {D : va_G} {cI cP cB cA : ClassId} {b : Nat} {H : Heap} (h : ∀ o e, (lstC cI cP cB cA b)[o]? = some e → va_at D vwCl (b + o, e) H) : va_at D vwCl (aC b 49, cfC (aC b) cI cP cB cA S0 49) H := h 20 _ rfl
set_option maxRecDepth 100000 in
theorem wc_50 {D : va_G} {cI cP cB cA : ClassId} {b : Nat} {H : Heap} (h : ∀ o e, (lstC cI cP cB cA b)[o]? = some e → va_at D vwCl (b + o, e) H) : va_at D vwCl (aC b 50, cfC (aC b) cI cP cB cA S0 50) H := h 21 _ rfl
set_option maxRecDepth 100000 in
theorem wc_51 {D : va_G} {cI cP cB cA : ClassId} {b : Nat} {H : Heap} (h : ∀ o e, (lstC cI cP cB cA b)[o]? = some e → va_at D vwCl (b + o, e) H) : va_at D vwCl (aC b 51, cfC (aC b) cI cP cB cA S0 51) H := h 22 _ rfl
set_option maxRecDepth 100000 in
theorem wc_52 {D : va_G} {cI cP cB cA : ClassId} {b : Nat} {H : Heap} (h : ∀ o e, (lstC cI cP cB cA b)[o]? = some e → va_at D vwCl (b + o, e) H) : va_at D vwCl (aC b 52, cfC (aC b) cI cP cB cA S0 52) H := h 23 _ rfl
set_option maxRecDepth 100000 in
theorem wc_53 {D : va_G} {cI cP cB cA : ClassId} {b : Nat} {H : Heap} (h : ∀ o e, (lstC cI cP cB cA b)[o]? = some e → va_at D vwCl (b + o, e) H) : va_at D vwCl (aC b 53, cfC (aC b) cI cP cB cA S0 53) H := h 24 _ rfl
set_option maxRecDepth 100000 in
theorem wc_54 {D : va_G} {cI cP cB cA : ClassId} {b : Nat} {H : Heap} (h : ∀ o e, (lstC cI cP cB cA b)[o]? = some e → va_at D vwCl (b + o, e) H) : va_at D vwCl (aC b 54, cfC (aC b) cI cP cB cA S0 54) H := h 25 _ rfl
set_option maxRecDepth 100000 in
theorem wc_55 {D : va_G} {cI cP cB cA : ClassId} {b : Nat} {H : Heap} (h : ∀ o e, (lstC cI cP cB cA b)[o]? = some e → va_at D vwCl (b + o, e) H) : va_at D vwCl (aC b 55, cfC (aC b) cI cP cB cA S0 55) H := h 29 _ rfl
set_option maxRecDepth 100000 in
theorem wc_56 {D : va_G} {cI cP cB cA : ClassId} {b : Nat} {H : Heap} (h : ∀ o e, (lstC cI cP cB cA b)[o]? = some e → va_at D vwCl (b + o, e) H) : va_at D vwCl (aC b 56, cfC (aC b) cI cP cB cA S0 56) H := h 30 _ rfl
set_option maxRecDepth 100000 in
theorem wc_57 {D : va_G} {cI cP cB cA : ClassId} {b : Nat} {H : Heap} (h : ∀ o e, (lstC cI cP cB cA b)[o]? = some e → va_at D vwCl (b + o, e) H) : va_at D vwCl (aC b 57, cfC (aC b) cI cP cB cA S0 57) H := h 31 _ rfl
set_option maxRecDepth 100000 in
theorem wc_58 {D : va_G} {cI cP cB cA : ClassId} {b : Nat} {H : Heap} (h : ∀ o e, (lstC cI cP cB cA b)[o]? = some e → va_at D vwCl (b + o, e) H) : va_at D vwCl (aC b 58, cfC (aC b) cI cP cB cA S0 58) H := h 32 _ rfl
set_option maxRecDepth 100000 in
theorem wc_59 {D : va_G} {cI cP cB cA : ClassId} {b : Nat} {H : Heap} (h : ∀ o e, (lstC cI cP cB cA b)[o]? = some e → va_at D vwCl (b + o, e) H) : va_at D vwCl (aC b 59, cfC (aC b) cI cP cB cA S0 59) H := h 33 _ rfl
set_option maxRecDepth 100000 in
theorem wc_60 {D : va_G} {cI cP cB cA : ClassId} {b : Nat} {H : Heap} (h : ∀ o e, (lstC cI cP cB cA b)[o]? = some e → va_at D vwCl (b + o, e) H) : va_at D vwCl (aC b 60, cfC (aC b) cI cP cB cA S0 60) H := h 34 _ rfl
set_option maxRecDepth 100000 in
theorem wc_61 {D : va_G} {cI cP cB cA : ClassId} {b : Nat} {H : Heap} (h : ∀ o e, (lstC cI cP cB cA b)[o]? = some e → va_at D vwCl (b + o, e) H) : va_at D vwCl (aC b 61, cfC (aC b) cI cP cB cA S0 61) H := h 39 _ rfl
set_option maxRecDepth 100000 in
theorem wc_62 {D : va_G} {cI cP cB cA : ClassId} {b : Nat} {H : Heap} (h : ∀ o e, (lstC cI cP cB cA b)[o]? = some e → va_at D vwCl (b + o, e) H) : va_at D vwCl (aC b 62, cfC (aC b) cI cP cB cA S0 62) H := h 40 _ rfl
set_option maxRecDepth 100000 in
theorem wc_63 {D : va_G} {cI cP cB cA : ClassId} {b : Nat} {H : Heap} (h : ∀ o e, (lstC cI cP cB cA b)[o]? = some e → va_at D vwCl (b + o, e) H) : va_at D vwCl (aC b 63, cfC (aC b) cI cP cB cA S0 63) H := h 41 _ rfl
set_option maxRecDepth 100000 in
theorem wc_64 {D : va_G} {cI cP cB cA : ClassId} {b : Nat} {H : Heap} (h : ∀ o e, (lstC cI cP cB cA b)[o]? = some e → va_at D vwCl (b + o, e) H) : va_at D vwCl (aC b 64, cfC (aC b) cI cP cB cA S0 64) H := h 42 _ rfl
set_option maxRecDepth 100000 in
theorem wc_65 {D : va_G} {cI cP cB cA : ClassId} {b : Nat} {H : Heap} (h : ∀ o e, (lstC cI cP cB cA b)[o]? = some e → va_at D vwCl (b + o, e) H) : va_at D vwCl (aC b 65, cfC (aC b) cI cP cB cA S0 65) H := h 43 _ rfl
set_option maxRecDepth 100000 in
theorem wc_66 {D : va_G} {cI cP cB cA : ClassId} {b : Nat} {H : Heap} (h : ∀ o e, (lstC cI cP cB cA b)[o]? = some e → va_at D vwCl (b + o, e) H) : va_at D vwCl (aC b 66, cfC (aC b) cI cP cB cA S0 66) H := h 44 _ rfl
set_option maxRecDepth 100000 in
theorem wc_67 {D : va_G} {cI cP cB cA : ClassId} {b : Nat} {H : Heap} (h : ∀ o e, (lstC cI cP cB cA b)[o]? = some e → va_at D vwCl (b + o, e) H) : va_at D vwCl (aC b 67, cfC (aC b) cI cP cB cA S0 67) H := h 48 _ rfl
set_option maxRecDepth 100000 in
theorem wc_68 {D : va_G} {cI cP cB cA : ClassId} {b : Nat} {H : Heap} (h : ∀ o e, (lstC cI cP cB cA b)[o]? = some e → va_at D vwCl (b + o, e) H) : va_at D vwCl (aC b 68, cfC (aC b) cI cP cB cA S0 68) H := h 49 _ rfl
set_option maxRecDepth 100000 in
theorem wc_69 {D : va_G} {cI cP cB cA : ClassId} {b : Nat} {H : Heap} (h : ∀ o e, (lstC cI cP cB cA b)[o]? = some e → va_at D vwCl (b + o, e) H) : va_at D vwCl (aC b 69, cfC (aC b) cI cP cB cA S0 69) H := h 50 _ rfl
set_option maxRecDepth 100000 in
theorem wc_70 {D : va_G} {cI cP cB cA : ClassId} {b : Nat} {H : Heap} (h : ∀ o e, (lstC cI cP cB cA b)[o]? = some e → va_at D vwCl (b + o, e) H) : va_at D vwCl (aC b 70, cfC (aC b) cI cP cB cA S0 70) H := h 51 _ rfl
set_option maxRecDepth 100000 in
theorem wc_71 {D : va_G} {cI cP cB cA : ClassId} {b : Nat} {H : Heap} (h : ∀ o e, (lstC cI cP cB cA b)[o]? = some e → va_at D vwCl (b + o, e) H) : va_at D vwCl (aC b 71, cfC (aC b) cI cP cB cA S0 71) H := h 52 _ rfl
set_option maxRecDepth 100000 in
theorem wc_72 {D : va_G} {cI cP cB cA : ClassId} {b : Nat} {H : Heap} (h : ∀ o e, (lstC cI cP cB cA b)[o]? = some e → va_at D vwCl (b + o, e) H) : va_at D vwCl (aC b 72, cfC (aC b) cI cP cB cA S0 72) H := h 53 _ rfl
set_option maxRecDepth 100000 in
theorem wc_73 {D : va_G} {cI cP cB cA : ClassId} {b : Nat} {H : Heap} (h : ∀ o e, (lstC cI cP cB cA b)[o]? = some e → va_at D vwCl (b + o, e) H) : va_at D vwCl (aC b 73, cfC (aC b) cI cP cB cA S0 73) H := h 57 _ rfl
set_option maxRecDepth 100000 in
theorem wc_74 {D : va_G} {cI cP cB cA : ClassId} {b : Nat} {H : Heap} (h : ∀ o e, (lstC cI cP cB cA b)[o]? = some e → va_at D vwCl (b + o, e) H) : va_at D vwCl (aC b 74, cfC (aC b) cI cP cB cA S0 74) H := h 58 _ rfl
set_option maxRecDepth 100000 in
theorem wc_75 {D : va_G} {cI cP cB cA : ClassId} {b : Nat} {H : Heap} (h : ∀ o e, (lstC cI cP cB cA b)[o]? = some e → va_at D vwCl (b + o, e) H) : va_at D vwCl (aC b 75, cfC (aC b) cI cP cB cA S0 75) H := h 59 _ rfl
set_option maxRecDepth 100000 in
theorem wc_76 {D : va_G} {cI cP cB cA : ClassId} {b : Nat} {H : Heap} (h : ∀ o e, (lstC cI cP cB cA b)[o]? = some e → va_at D vwCl (b + o, e) H) : va_at D vwCl (aC b 76, cfC (aC b) cI cP cB cA S0 76) H := h 60 _ rfl
set_option maxRecDepth 100000 in
theorem wc_77 {D : va_G} {cI cP cB cA : ClassId} {b : Nat} {H : Heap} (h : ∀ o e, (lstC cI cP cB cA b)[o]? = some e → va_at D vwCl (b + o, e) H) : va_at D vwCl (aC b 77, cfC (aC b) cI cP cB cA S0 77) H := h 61 _ rfl
set_option maxRecDepth 100000 in
theorem wc_78 {D : va_G} {cI cP cB cA : ClassId} {b : Nat} {H : Heap} (h : ∀ o e, (lstC cI cP cB cA b)[o]? = some e → va_at D vwCl (b + o, e) H) : va_at D vwCl (aC b 78, cfC (aC b) cI cP cB cA S0 78) H := h 62 _ rfl
theorem worldC {D : va_G} {cI cP cB cA : ClassId} {b : Nat} {H : Heap} (h : ∀ o e, (lstC cI cP cB cA b)[o]? = some e → va_at D vwCl (b + o, e) H) : va_P D vwCl (wl 79 (aC b) (cfC (aC b) cI cP cB cA S0)) H := by
  intro k q hk
  obtain ⟨h1, rfl⟩ := wl_some hk
  rcases (show k = 0 ∨ k = 1 ∨ k = 2 ∨ k = 3 ∨ k = 4 ∨ k = 5 ∨ k = 6 ∨ k = 7 ∨ k = 8 ∨ k = 9 ∨ k = 10 ∨ k = 11 ∨ k = 12 ∨ k = 13 ∨ k = 14 ∨ k = 15 ∨ k = 16 ∨ k = 17 ∨ k = 18 ∨ k = 19 ∨ k = 20 ∨ k = 21 ∨ k = 22 ∨ k = 23 ∨ k = 24 ∨ k = 25 ∨ k = 26 ∨ k = 27 ∨ k = 28 ∨ k = 29 ∨ k = 30 ∨ k = 31 ∨ k = 32 ∨ k = 33 ∨ k = 34 ∨ k = 35 ∨ k = 36 ∨ k = 37 ∨ k = 38 ∨ k = 39 ∨ k = 40 ∨ k = 41 ∨ k = 42 ∨ k = 43 ∨ k = 44 ∨ k = 45 ∨ k = 46 ∨ k = 47 ∨ k = 48 ∨ k = 49 ∨ k = 50 ∨ k = 51 ∨ k = 52 ∨ k = 53 ∨ k = 54 ∨ k = 55 ∨ k = 56 ∨ k = 57 ∨ k = 58 ∨ k = 59 ∨ k = 60 ∨ k = 61 ∨ k = 62 ∨ k = 63 ∨ k = 64 ∨ k = 65 ∨ k = 66 ∨ k = 67 ∨ k = 68 ∨ k = 69 ∨ k = 70 ∨ k = 71 ∨ k = 72 ∨ k = 73 ∨ k = 74 ∨ k = 75 ∨ k = 76 ∨ k = 77 ∨ k = 78 by omega) with rfl | rfl | rfl | rfl | rfl | rfl | rfl | rfl | rfl | rfl | rfl | rfl | rfl | rfl | rfl | rfl | rfl | rfl | rfl | rfl | rfl | rfl | rfl | rfl | rfl | rfl | rfl | rfl | rfl | rfl | rfl | rfl | rfl | rfl | rfl | rfl | rfl | rfl | rfl | rfl | rfl | rfl | rfl | rfl | rfl | rfl | rfl | rfl | rfl | rfl | rfl | rfl | rfl | rfl | rfl | rfl | rfl | rfl | rfl | rfl | rfl | rfl | rfl | rfl | rfl | rfl | rfl | rfl | rfl | rfl | rfl | rfl | rfl | rfl | rfl | rfl | rfl | rfl | rfl
  · exact wc_0 h
  · exact wc_1 h
  · exact wc_2 h
  · exact wc_3 h
  · exact wc_4 h
  · exact wc_5 h
  · exact wc_6 h
  · exact wc_7 h
  · exact wc_8 h
  · exact wc_9 h
  · exact wc_10 h
  · exact wc_11 h
  · exact wc_12 h
  · exact wc_13 h
  · exact wc_14 h
  · exact wc_15 h
  · exact wc_16 h
  · exact wc_17 h
  · exact wc_18 h
  · exact wc_19 h
  · exact wc_20 h
  · exact wc_21 h
  · exact wc_22 h
  · exact wc_23 h
  · exact wc_24 h
  · exact wc_25 h
  · exact wc_26 h
  · exact wc_27 h
  · exact wc_28 h
  · exact wc_29 h
  · exact wc_30 h
  · exact wc_31 h
  · exact wc_32 h
  · exact wc_33 h
  · exact wc_34 h
  · exact wc_35 h
  · exact wc_36 h
  · exact wc_37 h
  · exact wc_38 h
  · exact wc_39 h
  · exact wc_40 h
  · exact wc_41 h
  · exact wc_42 h
  · exact wc_43 h
  · exact wc_44 h
  · exact wc_45 h
  · exact wc_46 h
  · exact wc_47 h
  · exact wc_48 h
  · exact wc_49 h
  · exact wc_50 h
  · exact wc_51 h
  · exact wc_52 h
  · exact wc_53 h
  · exact wc_54 h
  · exact wc_55 h
  · exact wc_56 h
  · exact wc_57 h
  · exact wc_58 h
  · exact wc_59 h
  · exact wc_60 h
  · exact wc_61 h
  · exact wc_62 h
  · exact wc_63 h
  · exact wc_64 h
  · exact wc_65 h
  · exact wc_66 h
  · exact wc_67 h
  · exact wc_68 h
  · exact wc_69 h
  · exact wc_70 h
  · exact wc_71 h
  · exact wc_72 h
  · exact wc_73 h
  · exact wc_74 h
  · exact wc_75 h
  · exact wc_76 h
  · exact wc_77 h
  · exact wc_78 h
set_option maxRecDepth 100000 in
theorem wm_0 {D : va_G} {cI : ClassId} {b : Nat} {H : Heap} (h : ∀ o e, (lstM cI (b + 79))[o]? = some e → va_at D vwCl (b + 79 + o, e) H) : va_at D vwCl (aM b 0, cfM (aM b) cI M0 0) H := h 0 _ rfl
set_option maxRecDepth 100000 in
theorem wm_1 {D : va_G} {cI : ClassId} {b : Nat} {H : Heap} (h : ∀ o e, (lstM cI (b + 79))[o]? = some e → va_at D vwCl (b + 79 + o, e) H) : va_at D vwCl (aM b 1, cfM (aM b) cI M0 1) H := h 1 _ rfl
set_option maxRecDepth 100000 in
theorem wm_2 {D : va_G} {cI : ClassId} {b : Nat} {H : Heap} (h : ∀ o e, (lstM cI (b + 79))[o]? = some e → va_at D vwCl (b + 79 + o, e) H) : va_at D vwCl (aM b 2, cfM (aM b) cI M0 2) H := at_i (h 2 _ rfl) (fun j hj => by have hj : j < 6 := hj; rcases (show j = 0 ∨ j = 1 ∨ j = 2 ∨ j = 3 ∨ j = 4 ∨ j = 5 by omega) with rfl | rfl | rfl | rfl | rfl | rfl <;> rfl)
set_option maxRecDepth 100000 in
theorem wm_3 {D : va_G} {cI : ClassId} {b : Nat} {H : Heap} (h : ∀ o e, (lstM cI (b + 79))[o]? = some e → va_at D vwCl (b + 79 + o, e) H) : va_at D vwCl (aM b 3, cfM (aM b) cI M0 3) H := h 3 _ rfl
set_option maxRecDepth 100000 in
theorem wm_4 {D : va_G} {cI : ClassId} {b : Nat} {H : Heap} (h : ∀ o e, (lstM cI (b + 79))[o]? = some e → va_at D vwCl (b + 79 + o, e) H) : va_at D vwCl (aM b 4, cfM (aM b) cI M0 4) H := h 4 _ rfl
set_option maxRecDepth 100000 in
theorem wm_5 {D : va_G} {cI : ClassId} {b : Nat} {H : Heap} (h : ∀ o e, (lstM cI (b + 79))[o]? = some e → va_at D vwCl (b + 79 + o, e) H) : va_at D vwCl (aM b 5, cfM (aM b) cI M0 5) H := at_i (h 5 _ rfl) (fun j hj => by have hj : j < 4 := hj; rcases (show j = 0 ∨ j = 1 ∨ j = 2 ∨ j = 3 by omega) with rfl | rfl | rfl | rfl <;> rfl)
set_option maxRecDepth 100000 in
theorem wm_6 {D : va_G} {cI : ClassId} {b : Nat} {H : Heap} (h : ∀ o e, (lstM cI (b + 79))[o]? = some e → va_at D vwCl (b + 79 + o, e) H) : va_at D vwCl (aM b 6, cfM (aM b) cI M0 6) H := h 6 _ rfl
set_option maxRecDepth 100000 in
theorem wm_7 {D : va_G} {cI : ClassId} {b : Nat} {H : Heap} (h : ∀ o e, (lstM cI (b + 79))[o]? = some e → va_at D vwCl (b + 79 + o, e) H) : va_at D vwCl (aM b 7, cfM (aM b) cI M0 7) H := h 7 _ rfl
set_option maxRecDepth 100000 in
theorem wm_8 {D : va_G} {cI : ClassId} {b : Nat} {H : Heap} (h : ∀ o e, (lstM cI (b + 79))[o]? = some e → va_at D vwCl (b + 79 + o, e) H) : va_at D vwCl (aM b 8, cfM (aM b) cI M0 8) H := h 8 _ rfl
set_option maxRecDepth 100000 in
theorem wm_9 {D : va_G} {cI : ClassId} {b : Nat} {H : Heap} (h : ∀ o e, (lstM cI (b + 79))[o]? = some e → va_at D vwCl (b + 79 + o, e) H) : va_at D vwCl (aM b 9, cfM (aM b) cI M0 9) H := h 9 _ rfl
set_option maxRecDepth 100000 in
theorem wm_10 {D : va_G} {cI : ClassId} {b : Nat} {H : Heap} (h : ∀ o e, (lstM cI (b + 79))[o]? = some e → va_at D vwCl (b + 79 + o, e) H) : va_at D vwCl (aM b 10, cfM (aM b) cI M0 10) H := h 10 _ rfl
set_option maxRecDepth 100000 in
theorem wm_11 {D : va_G} {cI : ClassId} {b : Nat} {H : Heap} (h : ∀ o e, (lstM cI (b + 79))[o]? = some e → va_at D vwCl (b + 79 + o, e) H) : va_at D vwCl (aM b 11, cfM (aM b) cI M0 11) H := h 11 _ rfl
set_option maxRecDepth 100000 in
theorem wm_12 {D : va_G} {cI : ClassId} {b : Nat} {H : Heap} (h : ∀ o e, (lstM cI (b + 79))[o]? = some e → va_at D vwCl (b + 79 + o, e) H) : va_at D vwCl (aM b 12, cfM (aM b) cI M0 12) H := h 12 _ rfl
set_option maxRecDepth 100000 in
theorem wm_13 {D : va_G} {cI : ClassId} {b : Nat} {H : Heap} (h : ∀ o e, (lstM cI (b + 79))[o]? = some e → va_at D vwCl (b + 79 + o, e) H) : va_at D vwCl (aM b 13, cfM (aM b) cI M0 13) H := h 13 _ rfl
theorem kept0 (j : Nat) : (upd (upd (upd (fun _ => 0) (((38 : Int32) * (0 : Int32))).toNatClampNeg (-9 : Int32)) (((38 : Int32) * (1 : Int32))).toNatClampNeg (-9 : Int32)) (((38 : Int32) * (2 : Int32))).toNatClampNeg (-9 : Int32)) j = M0.1 14 0 j := by
  show _ = (if j = 0 ∨ j = 38 ∨ j = 76 then (-9 : Int32) else 0)
  unfold upd
  rw [show ((38 : Int32) * (0 : Int32)).toNatClampNeg = 0 by decide, show ((38 : Int32) * (1 : Int32)).toNatClampNeg = 38 by decide, show ((38 : Int32) * (2 : Int32)).toNatClampNeg = 76 by decide]
  by_cases c2 : j = 76
  · rw [if_pos c2, if_pos (Or.inr (Or.inr c2))]
  · by_cases c1 : j = 38
    · rw [if_neg c2, if_pos c1, if_pos (Or.inr (Or.inl c1))]
    · by_cases c0 : j = 0
      · rw [if_neg c2, if_neg c1, if_pos c0, if_pos (Or.inl c0)]
      · rw [if_neg c2, if_neg c1, if_neg c0, if_neg (by omega)]
set_option maxRecDepth 100000 in
theorem wm_14 {D : va_G} {cI : ClassId} {b : Nat} {H : Heap} (h : ∀ o e, (lstM cI (b + 79))[o]? = some e → va_at D vwCl (b + 79 + o, e) H) : va_at D vwCl (aM b 14, cfM (aM b) cI M0 14) H := at_i (h 14 _ rfl) (fun j _ => kept0 j)
set_option maxRecDepth 100000 in
theorem wm_15 {D : va_G} {cI : ClassId} {b : Nat} {H : Heap} (h : ∀ o e, (lstM cI (b + 79))[o]? = some e → va_at D vwCl (b + 79 + o, e) H) : va_at D vwCl (aM b 15, cfM (aM b) cI M0 15) H := h 15 _ rfl
set_option maxRecDepth 100000 in
theorem wm_16 {D : va_G} {cI : ClassId} {b : Nat} {H : Heap} (h : ∀ o e, (lstM cI (b + 79))[o]? = some e → va_at D vwCl (b + 79 + o, e) H) : va_at D vwCl (aM b 16, cfM (aM b) cI M0 16) H := h 16 _ rfl
set_option maxRecDepth 100000 in
theorem wm_17 {D : va_G} {cI : ClassId} {b : Nat} {H : Heap} (h : ∀ o e, (lstM cI (b + 79))[o]? = some e → va_at D vwCl (b + 79 + o, e) H) : va_at D vwCl (aM b 17, cfM (aM b) cI M0 17) H := h 17 _ rfl
set_option maxRecDepth 100000 in
theorem wm_18 {D : va_G} {cI : ClassId} {b : Nat} {H : Heap} (h : ∀ o e, (lstM cI (b + 79))[o]? = some e → va_at D vwCl (b + 79 + o, e) H) : va_at D vwCl (aM b 18, cfM (aM b) cI M0 18) H := h 18 _ rfl
theorem worldM {D : va_G} {cI : ClassId} {b : Nat} {H : Heap} (h : ∀ o e, (lstM cI (b + 79))[o]? = some e → va_at D vwCl (b + 79 + o, e) H) : va_P D vwCl (wl 19 (aM b) (cfM (aM b) cI M0)) H := by
  intro k q hk
  obtain ⟨h1, rfl⟩ := wl_some hk
  rcases (show k = 0 ∨ k = 1 ∨ k = 2 ∨ k = 3 ∨ k = 4 ∨ k = 5 ∨ k = 6 ∨ k = 7 ∨ k = 8 ∨ k = 9 ∨ k = 10 ∨ k = 11 ∨ k = 12 ∨ k = 13 ∨ k = 14 ∨ k = 15 ∨ k = 16 ∨ k = 17 ∨ k = 18 by omega) with rfl | rfl | rfl | rfl | rfl | rfl | rfl | rfl | rfl | rfl | rfl | rfl | rfl | rfl | rfl | rfl | rfl | rfl | rfl
  · exact wm_0 h
  · exact wm_1 h
  · exact wm_2 h
  · exact wm_3 h
  · exact wm_4 h
  · exact wm_5 h
  · exact wm_6 h
  · exact wm_7 h
  · exact wm_8 h
  · exact wm_9 h
  · exact wm_10 h
  · exact wm_11 h
  · exact wm_12 h
  · exact wm_13 h
  · exact wm_14 h
  · exact wm_15 h
  · exact wm_16 h
  · exact wm_17 h
  · exact wm_18 h
theorem Rel0 : Rel S0 M0 := by
  refine ⟨⟨rfl, fun _ _ => rfl, rfl, rfl, rfl⟩, fun r _ => Or.inl ⟨rfl, rfl⟩, fun r _ => Or.inl ⟨rfl, rfl⟩, fun i _ => ?_, ⟨0, fun _ _ => 0, ⟨Nat.zero_le _, fun i hi => absurd hi (by omega)⟩, ⟨rfl, fun i hi => absurd hi (by omega)⟩, ⟨fun _ => 0, fun k hk => absurd hk (by omega), fun k k' _ hk => absurd hk (by omega)⟩, ⟨rfl, fun i hi => absurd hi (by omega)⟩, ⟨fun i hi => absurd hi (by omega), fun i j hi => absurd hi (by omega)⟩, fun i hi => absurd hi (by omega)⟩, fun k hk => Or.inl ⟨rfl, ?_⟩, rfl⟩
  · show ((0 : Int32).toInt8).toInt32 = 0
    decide
  · rcases (show k = 0 ∨ k = 1 ∨ k = 2 by omega) with rfl | rfl | rfl <;> rfl
