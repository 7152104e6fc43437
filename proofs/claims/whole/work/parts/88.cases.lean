/-! the cases of the law -/
theorem lg_self (r : Int64) : lg_cmp r r = 0 := by
  unfold lg_cmp
  rw [if_neg (fun q => absurd q (by rw [gt_iff_lt, Int64.lt_iff_toInt_lt]; exact Int.lt_irrefl _)), if_pos rfl]
section LAWK
variable {p : Program} {l : Launch} {e : Env} {s : State} {m : MethodId} {below : List Frame} {meth : Method} {c : Code}
variable {D : va_G} {cI cP cB cA : ClassId} {tL tC b L : Nat} {xs : Nat → Int32}
/-- what goes on behind a case -/
def Nxt (p : Program) (l : Launch) (e : Env) (s : State) (m : MethodId) (below : List Frame) (meth : Method) (c : Code) (D : va_G) (cI cP cB cA : ClassId) (b : Nat) (ls : Array Slot) : Prop := ∀ (S M : Stt) (H : Heap) (locs : List Loc), Rel S M → Wd D cI cP cB cA s S M H locs → W p l e room_1 s m #[Value.ref b] below meth c H locs 98 1876 (lw_Z below #[Value.ref b] s) (F0 m 1520 ls [])
set_option maxHeartbeats 4000000 in
set_option maxRecDepth 100000 in
theorem case_0 (X : Lw D cI cP cB cA tL tC p s m meth c b L xs) (hL : L ≤ 384) {i : Nat} (hi : i + 6 ≤ L) {S M : Stt} {H : Heap} {locs : List Loc} {ls : Array Slot} (hR : Rel S M) (hW : Wd D cI cP cB cA s S M H locs) (hl : lv_has ls 4 [(0, .ref b), (1, .ref (aC s.heap.size 0)), (2, .ref (aM s.heap.size 0)), (3, .int (nI i))]) (kk : Nxt p l e s m below meth c D cI cP cB cA b ls) : W p l e room_1 s m #[Value.ref b] below meth c H locs 98 1876 (lw_Z below #[Value.ref b] s) (F0 m 236 ls []) := by
  have hx := X.1.1.1
  have hb := X.1.1.2.1
  obtain ⟨r, S', M', e1, e2, e3⟩ := sim_row (xs (nI i + (1 : Int32)).toNatClampNeg) (xs (nI i + (2 : Int32)).toNatClampNeg) S M hR
  refine lv_aload_n hx hb dL_law_236 rfl (lv_at hl 1 rfl) ?_
  refine lv_aload_n hx hb dL_law_237 rfl (lv_at hl 0 rfl) ?_
  refine lv_iload_n hx hb dL_law_238 rfl (lv_at hl 3 rfl) ?_
  refine lv_iconst (v := (1 : Int32)) hx hb dL_law_239 (by decide) ?_
  refine lv_iadd hx hb dL_law_240 ?_
  refine lawS X hW (arg_in (j := 1) (by omega) hL) dL_law_241 ?_
  refine lv_aload_n hx hb dL_law_242 rfl (lv_at hl 0 rfl) ?_
  refine lv_iload_n hx hb dL_law_243 rfl (lv_at hl 3 rfl) ?_
  refine lv_iconst (v := (2 : Int32)) hx hb dL_law_244 (by decide) ?_
  refine lv_iadd hx hb dL_law_245 ?_
  refine lawS X hW (arg_in (j := 2) (by omega) hL) dL_law_246 ?_
  refine lawC X hW [.int (xs (nI i + (1 : Int32)).toNatClampNeg), .int (xs (nI i + (2 : Int32)).toNatClampNeg)] (rest := []) (m_X7_row e1) cw_X7_row tw_124 tw_404 tw_707 ⟨Nat.le_of_ble_eq_true rfl, Nat.le_of_ble_eq_true rfl⟩ rfl rfl hl.1 (Nat.le_of_ble_eq_true rfl) dL_law_247 ⟨Nat.le_of_ble_eq_true rfl, Nat.le_of_ble_eq_true rfl⟩ (fun H locs hW => ?_)
  refine lv_aload_n hx hb dL_law_250 rfl (lv_at hl 2 rfl) ?_
  refine lv_aload_n hx hb dL_law_251 rfl (lv_at hl 0 rfl) ?_
  refine lv_iload_n hx hb dL_law_252 rfl (lv_at hl 3 rfl) ?_
  refine lv_iconst (v := (1 : Int32)) hx hb dL_law_253 (by decide) ?_
  refine lv_iadd hx hb dL_law_254 ?_
  refine lawS X hW (arg_in (j := 1) (by omega) hL) dL_law_255 ?_
  refine lv_aload_n hx hb dL_law_256 rfl (lv_at hl 0 rfl) ?_
  refine lv_iload_n hx hb dL_law_257 rfl (lv_at hl 3 rfl) ?_
  refine lv_iconst (v := (2 : Int32)) hx hb dL_law_258 (by decide) ?_
  refine lv_iadd hx hb dL_law_259 ?_
  refine lawS X hW (arg_in (j := 2) (by omega) hL) dL_law_260 ?_
  refine lawM X hW [.int (xs (nI i + (1 : Int32)).toNatClampNeg), .int (xs (nI i + (2 : Int32)).toNatClampNeg)] (rest := [.int r]) (m_X8_row e2) cw_X8_row tw_286 tw_544 tw_768 ⟨Nat.le_of_ble_eq_true rfl, Nat.le_of_ble_eq_true rfl⟩ rfl rfl hl.1 (Nat.le_of_ble_eq_true rfl) dL_law_261 ⟨Nat.le_of_ble_eq_true rfl, Nat.le_of_ble_eq_true rfl⟩ (fun H locs hW => ?_)
  refine lv_icmp_eq (tgt := 1520) hx hb dL_law_264 (by decide) (fun _ => ?_) (fun c9 => absurd rfl c9)
  exact kk S' M' H locs e3 hW
set_option maxHeartbeats 4000000 in
set_option maxRecDepth 100000 in
theorem case_1 (X : Lw D cI cP cB cA tL tC p s m meth c b L xs) (hL : L ≤ 384) {i : Nat} (hi : i + 6 ≤ L) {S M : Stt} {H : Heap} {locs : List Loc} {ls : Array Slot} (hR : Rel S M) (hW : Wd D cI cP cB cA s S M H locs) (hl : lv_has ls 4 [(0, .ref b), (1, .ref (aC s.heap.size 0)), (2, .ref (aM s.heap.size 0)), (3, .int (nI i))]) (kk : Nxt p l e s m below meth c D cI cP cB cA b ls) : W p l e room_1 s m #[Value.ref b] below meth c H locs 98 1876 (lw_Z below #[Value.ref b] s) (F0 m 269 ls []) := by
  have hx := X.1.1.1
  have hb := X.1.1.2.1
  obtain ⟨r, S', M', e1, e2, e3⟩ := sim_lay (xs (nI i + (1 : Int32)).toNatClampNeg) (xs (nI i + (2 : Int32)).toNatClampNeg) (xs (nI i + (3 : Int32)).toNatClampNeg) S M hR
  refine lv_aload_n hx hb dL_law_269 rfl (lv_at hl 1 rfl) ?_
  refine lv_aload_n hx hb dL_law_270 rfl (lv_at hl 0 rfl) ?_
  refine lv_iload_n hx hb dL_law_271 rfl (lv_at hl 3 rfl) ?_
  refine lv_iconst (v := (1 : Int32)) hx hb dL_law_272 (by decide) ?_
  refine lv_iadd hx hb dL_law_273 ?_
  refine lawS X hW (arg_in (j := 1) (by omega) hL) dL_law_274 ?_
  refine lv_aload_n hx hb dL_law_275 rfl (lv_at hl 0 rfl) ?_
  refine lv_iload_n hx hb dL_law_276 rfl (lv_at hl 3 rfl) ?_
  refine lv_iconst (v := (2 : Int32)) hx hb dL_law_277 (by decide) ?_
  refine lv_iadd hx hb dL_law_278 ?_
  refine lawS X hW (arg_in (j := 2) (by omega) hL) dL_law_279 ?_
  refine lv_aload_n hx hb dL_law_280 rfl (lv_at hl 0 rfl) ?_
  refine lv_iload_n hx hb dL_law_281 rfl (lv_at hl 3 rfl) ?_
  refine lv_iconst (v := (3 : Int32)) hx hb dL_law_282 (by decide) ?_
  refine lv_iadd hx hb dL_law_283 ?_
  refine lawS X hW (arg_in (j := 3) (by omega) hL) dL_law_284 ?_
  refine lawC X hW [.int (xs (nI i + (1 : Int32)).toNatClampNeg), .int (xs (nI i + (2 : Int32)).toNatClampNeg), .int (xs (nI i + (3 : Int32)).toNatClampNeg)] (rest := []) (m_X7_lay e1) cw_X7_lay tw_128 tw_408 tw_708 ⟨Nat.le_of_ble_eq_true rfl, Nat.le_of_ble_eq_true rfl⟩ rfl rfl hl.1 (Nat.le_of_ble_eq_true rfl) dL_law_285 ⟨Nat.le_of_ble_eq_true rfl, Nat.le_of_ble_eq_true rfl⟩ (fun H locs hW => ?_)
  refine lv_aload_n hx hb dL_law_288 rfl (lv_at hl 2 rfl) ?_
  refine lv_aload_n hx hb dL_law_289 rfl (lv_at hl 0 rfl) ?_
  refine lv_iload_n hx hb dL_law_290 rfl (lv_at hl 3 rfl) ?_
  refine lv_iconst (v := (1 : Int32)) hx hb dL_law_291 (by decide) ?_
  refine lv_iadd hx hb dL_law_292 ?_
  refine lawS X hW (arg_in (j := 1) (by omega) hL) dL_law_293 ?_
  refine lv_aload_n hx hb dL_law_294 rfl (lv_at hl 0 rfl) ?_
  refine lv_iload_n hx hb dL_law_295 rfl (lv_at hl 3 rfl) ?_
  refine lv_iconst (v := (2 : Int32)) hx hb dL_law_296 (by decide) ?_
  refine lv_iadd hx hb dL_law_297 ?_
  refine lawS X hW (arg_in (j := 2) (by omega) hL) dL_law_298 ?_
  refine lv_aload_n hx hb dL_law_299 rfl (lv_at hl 0 rfl) ?_
  refine lv_iload_n hx hb dL_law_300 rfl (lv_at hl 3 rfl) ?_
  refine lv_iconst (v := (3 : Int32)) hx hb dL_law_301 (by decide) ?_
  refine lv_iadd hx hb dL_law_302 ?_
  refine lawS X hW (arg_in (j := 3) (by omega) hL) dL_law_303 ?_
  refine lawM X hW [.int (xs (nI i + (1 : Int32)).toNatClampNeg), .int (xs (nI i + (2 : Int32)).toNatClampNeg), .int (xs (nI i + (3 : Int32)).toNatClampNeg)] (rest := [.int r]) (m_X8_lay e2) cw_X8_lay tw_295 tw_553 tw_770 ⟨Nat.le_of_ble_eq_true rfl, Nat.le_of_ble_eq_true rfl⟩ rfl rfl hl.1 (Nat.le_of_ble_eq_true rfl) dL_law_304 ⟨Nat.le_of_ble_eq_true rfl, Nat.le_of_ble_eq_true rfl⟩ (fun H locs hW => ?_)
  refine lv_icmp_eq (tgt := 1520) hx hb dL_law_307 (by decide) (fun _ => ?_) (fun c9 => absurd rfl c9)
  exact kk S' M' H locs e3 hW
set_option maxHeartbeats 4000000 in
set_option maxRecDepth 100000 in
theorem case_2 (X : Lw D cI cP cB cA tL tC p s m meth c b L xs) (hL : L ≤ 384) {i : Nat} (hi : i + 6 ≤ L) {S M : Stt} {H : Heap} {locs : List Loc} {ls : Array Slot} (hR : Rel S M) (hW : Wd D cI cP cB cA s S M H locs) (hl : lv_has ls 4 [(0, .ref b), (1, .ref (aC s.heap.size 0)), (2, .ref (aM s.heap.size 0)), (3, .int (nI i))]) (kk : Nxt p l e s m below meth c D cI cP cB cA b ls) : W p l e room_1 s m #[Value.ref b] below meth c H locs 98 1876 (lw_Z below #[Value.ref b] s) (F0 m 312 ls []) := by
  have hx := X.1.1.1
  have hb := X.1.1.2.1
  obtain ⟨r, S', M', e1, e2, e3⟩ := sim_at (xs (nI i + (1 : Int32)).toNatClampNeg) (xs (nI i + (2 : Int32)).toNatClampNeg) S M hR
  refine lv_aload_n hx hb dL_law_312 rfl (lv_at hl 1 rfl) ?_
  refine lv_aload_n hx hb dL_law_313 rfl (lv_at hl 0 rfl) ?_
  refine lv_iload_n hx hb dL_law_314 rfl (lv_at hl 3 rfl) ?_
  refine lv_iconst (v := (1 : Int32)) hx hb dL_law_315 (by decide) ?_
  refine lv_iadd hx hb dL_law_316 ?_
  refine lawS X hW (arg_in (j := 1) (by omega) hL) dL_law_317 ?_
  refine lv_aload_n hx hb dL_law_318 rfl (lv_at hl 0 rfl) ?_
  refine lv_iload_n hx hb dL_law_319 rfl (lv_at hl 3 rfl) ?_
  refine lv_iconst (v := (2 : Int32)) hx hb dL_law_320 (by decide) ?_
  refine lv_iadd hx hb dL_law_321 ?_
  refine lawS X hW (arg_in (j := 2) (by omega) hL) dL_law_322 ?_
  refine lawC X hW [.int (xs (nI i + (1 : Int32)).toNatClampNeg), .int (xs (nI i + (2 : Int32)).toNatClampNeg)] (rest := []) (m_X7_at e1) cw_X7_at tw_133 tw_413 tw_709 ⟨Nat.le_of_ble_eq_true rfl, Nat.le_of_ble_eq_true rfl⟩ rfl rfl hl.1 (Nat.le_of_ble_eq_true rfl) dL_law_323 ⟨Nat.le_of_ble_eq_true rfl, Nat.le_of_ble_eq_true rfl⟩ (fun H locs hW => ?_)
  refine lv_aload_n hx hb dL_law_326 rfl (lv_at hl 2 rfl) ?_
  refine lv_aload_n hx hb dL_law_327 rfl (lv_at hl 0 rfl) ?_
  refine lv_iload_n hx hb dL_law_328 rfl (lv_at hl 3 rfl) ?_
  refine lv_iconst (v := (1 : Int32)) hx hb dL_law_329 (by decide) ?_
  refine lv_iadd hx hb dL_law_330 ?_
  refine lawS X hW (arg_in (j := 1) (by omega) hL) dL_law_331 ?_
  refine lv_aload_n hx hb dL_law_332 rfl (lv_at hl 0 rfl) ?_
  refine lv_iload_n hx hb dL_law_333 rfl (lv_at hl 3 rfl) ?_
  refine lv_iconst (v := (2 : Int32)) hx hb dL_law_334 (by decide) ?_
  refine lv_iadd hx hb dL_law_335 ?_
  refine lawS X hW (arg_in (j := 2) (by omega) hL) dL_law_336 ?_
  refine lawM X hW [.int (xs (nI i + (1 : Int32)).toNatClampNeg), .int (xs (nI i + (2 : Int32)).toNatClampNeg)] (rest := [.int r]) (m_X8_at e2) cw_X8_at tw_291 tw_549 tw_769 ⟨Nat.le_of_ble_eq_true rfl, Nat.le_of_ble_eq_true rfl⟩ rfl rfl hl.1 (Nat.le_of_ble_eq_true rfl) dL_law_337 ⟨Nat.le_of_ble_eq_true rfl, Nat.le_of_ble_eq_true rfl⟩ (fun H locs hW => ?_)
  refine lv_icmp_eq (tgt := 1520) hx hb dL_law_340 (by decide) (fun _ => ?_) (fun c9 => absurd rfl c9)
  exact kk S' M' H locs e3 hW
set_option maxHeartbeats 4000000 in
set_option maxRecDepth 100000 in
theorem case_3 (X : Lw D cI cP cB cA tL tC p s m meth c b L xs) (hL : L ≤ 384) {i : Nat} (hi : i + 6 ≤ L) {S M : Stt} {H : Heap} {locs : List Loc} {ls : Array Slot} (hR : Rel S M) (hW : Wd D cI cP cB cA s S M H locs) (hl : lv_has ls 4 [(0, .ref b), (1, .ref (aC s.heap.size 0)), (2, .ref (aM s.heap.size 0)), (3, .int (nI i))]) (kk : Nxt p l e s m below meth c D cI cP cB cA b ls) : W p l e room_1 s m #[Value.ref b] below meth c H locs 98 1876 (lw_Z below #[Value.ref b] s) (F0 m 345 ls []) := by
  have hx := X.1.1.1
  have hb := X.1.1.2.1
  obtain ⟨r, S', M', e1, e2, e3⟩ := sim_tear (xs (nI i + (1 : Int32)).toNatClampNeg) S M hR
  refine lv_aload_n hx hb dL_law_345 rfl (lv_at hl 1 rfl) ?_
  refine lv_aload_n hx hb dL_law_346 rfl (lv_at hl 0 rfl) ?_
  refine lv_iload_n hx hb dL_law_347 rfl (lv_at hl 3 rfl) ?_
  refine lv_iconst (v := (1 : Int32)) hx hb dL_law_348 (by decide) ?_
  refine lv_iadd hx hb dL_law_349 ?_
  refine lawS X hW (arg_in (j := 1) (by omega) hL) dL_law_350 ?_
  refine lawC X hW [.int (xs (nI i + (1 : Int32)).toNatClampNeg)] (rest := []) (m_X7_tear e1) cw_X7_tear tw_134 tw_414 tw_710 ⟨Nat.le_of_ble_eq_true rfl, Nat.le_of_ble_eq_true rfl⟩ rfl rfl hl.1 (Nat.le_of_ble_eq_true rfl) dL_law_351 ⟨Nat.le_of_ble_eq_true rfl, Nat.le_of_ble_eq_true rfl⟩ (fun H locs hW => ?_)
  refine lv_aload_n hx hb dL_law_354 rfl (lv_at hl 2 rfl) ?_
  refine lv_aload_n hx hb dL_law_355 rfl (lv_at hl 0 rfl) ?_
  refine lv_iload_n hx hb dL_law_356 rfl (lv_at hl 3 rfl) ?_
  refine lv_iconst (v := (1 : Int32)) hx hb dL_law_357 (by decide) ?_
  refine lv_iadd hx hb dL_law_358 ?_
  refine lawS X hW (arg_in (j := 1) (by omega) hL) dL_law_359 ?_
  refine lawM X hW [.int (xs (nI i + (1 : Int32)).toNatClampNeg)] (rest := [.int r]) (m_X8_tear e2) cw_X8_tear tw_297 tw_554 tw_771 ⟨Nat.le_of_ble_eq_true rfl, Nat.le_of_ble_eq_true rfl⟩ rfl rfl hl.1 (Nat.le_of_ble_eq_true rfl) dL_law_360 ⟨Nat.le_of_ble_eq_true rfl, Nat.le_of_ble_eq_true rfl⟩ (fun H locs hW => ?_)
  refine lv_icmp_eq (tgt := 1520) hx hb dL_law_363 (by decide) (fun _ => ?_) (fun c9 => absurd rfl c9)
  exact kk S' M' H locs e3 hW
set_option maxHeartbeats 4000000 in
set_option maxRecDepth 100000 in
theorem case_4 (X : Lw D cI cP cB cA tL tC p s m meth c b L xs) (hL : L ≤ 384) {i : Nat} (hi : i + 6 ≤ L) {S M : Stt} {H : Heap} {locs : List Loc} {ls : Array Slot} (hR : Rel S M) (hW : Wd D cI cP cB cA s S M H locs) (hl : lv_has ls 4 [(0, .ref b), (1, .ref (aC s.heap.size 0)), (2, .ref (aM s.heap.size 0)), (3, .int (nI i))]) (kk : Nxt p l e s m below meth c D cI cP cB cA b ls) : W p l e room_1 s m #[Value.ref b] below meth c H locs 98 1876 (lw_Z below #[Value.ref b] s) (F0 m 368 ls []) := by
  have hx := X.1.1.1
  have hb := X.1.1.2.1
  obtain ⟨r, S', M', e1, e2, e3⟩ := sim_copy (xs (nI i + (1 : Int32)).toNatClampNeg) (xs (nI i + (2 : Int32)).toNatClampNeg) (xs (nI i + (3 : Int32)).toNatClampNeg) (xs (nI i + (4 : Int32)).toNatClampNeg) (xs (nI i + (5 : Int32)).toNatClampNeg) S M hR
  refine lv_aload_n hx hb dL_law_368 rfl (lv_at hl 1 rfl) ?_
  refine lv_aload_n hx hb dL_law_369 rfl (lv_at hl 0 rfl) ?_
  refine lv_iload_n hx hb dL_law_370 rfl (lv_at hl 3 rfl) ?_
  refine lv_iconst (v := (1 : Int32)) hx hb dL_law_371 (by decide) ?_
  refine lv_iadd hx hb dL_law_372 ?_
  refine lawS X hW (arg_in (j := 1) (by omega) hL) dL_law_373 ?_
  refine lv_aload_n hx hb dL_law_374 rfl (lv_at hl 0 rfl) ?_
  refine lv_iload_n hx hb dL_law_375 rfl (lv_at hl 3 rfl) ?_
  refine lv_iconst (v := (2 : Int32)) hx hb dL_law_376 (by decide) ?_
  refine lv_iadd hx hb dL_law_377 ?_
  refine lawS X hW (arg_in (j := 2) (by omega) hL) dL_law_378 ?_
  refine lv_aload_n hx hb dL_law_379 rfl (lv_at hl 0 rfl) ?_
  refine lv_iload_n hx hb dL_law_380 rfl (lv_at hl 3 rfl) ?_
  refine lv_iconst (v := (3 : Int32)) hx hb dL_law_381 (by decide) ?_
  refine lv_iadd hx hb dL_law_382 ?_
  refine lawS X hW (arg_in (j := 3) (by omega) hL) dL_law_383 ?_
  refine lv_aload_n hx hb dL_law_384 rfl (lv_at hl 0 rfl) ?_
  refine lv_iload_n hx hb dL_law_385 rfl (lv_at hl 3 rfl) ?_
  refine lv_iconst (v := (4 : Int32)) hx hb dL_law_386 (by decide) ?_
  refine lv_iadd hx hb dL_law_387 ?_
  refine lawS X hW (arg_in (j := 4) (by omega) hL) dL_law_388 ?_
  refine lv_aload_n hx hb dL_law_389 rfl (lv_at hl 0 rfl) ?_
  refine lv_iload_n hx hb dL_law_390 rfl (lv_at hl 3 rfl) ?_
  refine lv_iconst (v := (5 : Int32)) hx hb dL_law_391 (by decide) ?_
  refine lv_iadd hx hb dL_law_392 ?_
  refine lawS X hW (arg_in (j := 5) (by omega) hL) dL_law_393 ?_
  refine lawC X hW [.int (xs (nI i + (1 : Int32)).toNatClampNeg), .int (xs (nI i + (2 : Int32)).toNatClampNeg), .int (xs (nI i + (3 : Int32)).toNatClampNeg), .int (xs (nI i + (4 : Int32)).toNatClampNeg), .int (xs (nI i + (5 : Int32)).toNatClampNeg)] (rest := []) (m_X7_copy e1) cw_X7_copy tw_136 tw_416 tw_711 ⟨Nat.le_of_ble_eq_true rfl, Nat.le_of_ble_eq_true rfl⟩ rfl rfl hl.1 (Nat.le_of_ble_eq_true rfl) dL_law_394 ⟨Nat.le_of_ble_eq_true rfl, Nat.le_of_ble_eq_true rfl⟩ (fun H locs hW => ?_)
  refine lv_aload_n hx hb dL_law_397 rfl (lv_at hl 2 rfl) ?_
  refine lv_aload_n hx hb dL_law_398 rfl (lv_at hl 0 rfl) ?_
  refine lv_iload_n hx hb dL_law_399 rfl (lv_at hl 3 rfl) ?_
  refine lv_iconst (v := (1 : Int32)) hx hb dL_law_400 (by decide) ?_
  refine lv_iadd hx hb dL_law_401 ?_
  refine lawS X hW (arg_in (j := 1) (by omega) hL) dL_law_402 ?_
  refine lv_aload_n hx hb dL_law_403 rfl (lv_at hl 0 rfl) ?_
  refine lv_iload_n hx hb dL_law_404 rfl (lv_at hl 3 rfl) ?_
  refine lv_iconst (v := (2 : Int32)) hx hb dL_law_405 (by decide) ?_
  refine lv_iadd hx hb dL_law_406 ?_
  refine lawS X hW (arg_in (j := 2) (by omega) hL) dL_law_407 ?_
  refine lv_aload_n hx hb dL_law_408 rfl (lv_at hl 0 rfl) ?_
  refine lv_iload_n hx hb dL_law_409 rfl (lv_at hl 3 rfl) ?_
  refine lv_iconst (v := (3 : Int32)) hx hb dL_law_410 (by decide) ?_
  refine lv_iadd hx hb dL_law_411 ?_
  refine lawS X hW (arg_in (j := 3) (by omega) hL) dL_law_412 ?_
  refine lv_aload_n hx hb dL_law_413 rfl (lv_at hl 0 rfl) ?_
  refine lv_iload_n hx hb dL_law_414 rfl (lv_at hl 3 rfl) ?_
  refine lv_iconst (v := (4 : Int32)) hx hb dL_law_415 (by decide) ?_
  refine lv_iadd hx hb dL_law_416 ?_
  refine lawS X hW (arg_in (j := 4) (by omega) hL) dL_law_417 ?_
  refine lv_aload_n hx hb dL_law_418 rfl (lv_at hl 0 rfl) ?_
  refine lv_iload_n hx hb dL_law_419 rfl (lv_at hl 3 rfl) ?_
  refine lv_iconst (v := (5 : Int32)) hx hb dL_law_420 (by decide) ?_
  refine lv_iadd hx hb dL_law_421 ?_
  refine lawS X hW (arg_in (j := 5) (by omega) hL) dL_law_422 ?_
  refine lawM X hW [.int (xs (nI i + (1 : Int32)).toNatClampNeg), .int (xs (nI i + (2 : Int32)).toNatClampNeg), .int (xs (nI i + (3 : Int32)).toNatClampNeg), .int (xs (nI i + (4 : Int32)).toNatClampNeg), .int (xs (nI i + (5 : Int32)).toNatClampNeg)] (rest := [.int r]) (m_X8_copy e2) cw_X8_copy tw_298 tw_555 tw_772 ⟨Nat.le_of_ble_eq_true rfl, Nat.le_of_ble_eq_true rfl⟩ rfl rfl hl.1 (Nat.le_of_ble_eq_true rfl) dL_law_423 ⟨Nat.le_of_ble_eq_true rfl, Nat.le_of_ble_eq_true rfl⟩ (fun H locs hW => ?_)
  refine lv_icmp_eq (tgt := 1520) hx hb dL_law_426 (by decide) (fun _ => ?_) (fun c9 => absurd rfl c9)
  exact kk S' M' H locs e3 hW
set_option maxHeartbeats 4000000 in
set_option maxRecDepth 100000 in
theorem case_5 (X : Lw D cI cP cB cA tL tC p s m meth c b L xs) (hL : L ≤ 384) {i : Nat} (hi : i + 6 ≤ L) {S M : Stt} {H : Heap} {locs : List Loc} {ls : Array Slot} (hR : Rel S M) (hW : Wd D cI cP cB cA s S M H locs) (hl : lv_has ls 4 [(0, .ref b), (1, .ref (aC s.heap.size 0)), (2, .ref (aM s.heap.size 0)), (3, .int (nI i))]) (kk : Nxt p l e s m below meth c D cI cP cB cA b ls) : W p l e room_1 s m #[Value.ref b] below meth c H locs 98 1876 (lw_Z below #[Value.ref b] s) (F0 m 431 ls []) := by
  have hx := X.1.1.1
  have hb := X.1.1.2.1
  obtain ⟨r, S', M', e1, e2, e3⟩ := sim_mean (xs (nI i + (1 : Int32)).toNatClampNeg) S M hR
  refine lv_aload_n hx hb dL_law_431 rfl (lv_at hl 1 rfl) ?_
  refine lv_aload_n hx hb dL_law_432 rfl (lv_at hl 0 rfl) ?_
  refine lv_iload_n hx hb dL_law_433 rfl (lv_at hl 3 rfl) ?_
  refine lv_iconst (v := (1 : Int32)) hx hb dL_law_434 (by decide) ?_
  refine lv_iadd hx hb dL_law_435 ?_
  refine lawS X hW (arg_in (j := 1) (by omega) hL) dL_law_436 ?_
  refine lawC X hW [.int (xs (nI i + (1 : Int32)).toNatClampNeg)] (rest := []) (m_X7_mean e1) cw_X7_mean tw_140 tw_421 tw_712 ⟨Nat.le_of_ble_eq_true rfl, Nat.le_of_ble_eq_true rfl⟩ rfl rfl hl.1 (Nat.le_of_ble_eq_true rfl) dL_law_437 ⟨Nat.le_of_ble_eq_true rfl, Nat.le_of_ble_eq_true rfl⟩ (fun H locs hW => ?_)
  refine lv_aload_n hx hb dL_law_440 rfl (lv_at hl 2 rfl) ?_
  refine lv_aload_n hx hb dL_law_441 rfl (lv_at hl 0 rfl) ?_
  refine lv_iload_n hx hb dL_law_442 rfl (lv_at hl 3 rfl) ?_
  refine lv_iconst (v := (1 : Int32)) hx hb dL_law_443 (by decide) ?_
  refine lv_iadd hx hb dL_law_444 ?_
  refine lawS X hW (arg_in (j := 1) (by omega) hL) dL_law_445 ?_
  refine lawM X hW [.int (xs (nI i + (1 : Int32)).toNatClampNeg)] (rest := [.int r]) (m_X8_mean e2) cw_X8_mean tw_299 tw_556 tw_773 ⟨Nat.le_of_ble_eq_true rfl, Nat.le_of_ble_eq_true rfl⟩ rfl rfl hl.1 (Nat.le_of_ble_eq_true rfl) dL_law_446 ⟨Nat.le_of_ble_eq_true rfl, Nat.le_of_ble_eq_true rfl⟩ (fun H locs hW => ?_)
  refine lv_icmp_eq (tgt := 1520) hx hb dL_law_449 (by decide) (fun _ => ?_) (fun c9 => absurd rfl c9)
  exact kk S' M' H locs e3 hW
set_option maxHeartbeats 4000000 in
set_option maxRecDepth 100000 in
theorem case_6 (X : Lw D cI cP cB cA tL tC p s m meth c b L xs) (hL : L ≤ 384) {i : Nat} (hi : i + 6 ≤ L) {S M : Stt} {H : Heap} {locs : List Loc} {ls : Array Slot} (hR : Rel S M) (hW : Wd D cI cP cB cA s S M H locs) (hl : lv_has ls 4 [(0, .ref b), (1, .ref (aC s.heap.size 0)), (2, .ref (aM s.heap.size 0)), (3, .int (nI i))]) (kk : Nxt p l e s m below meth c D cI cP cB cA b ls) : W p l e room_1 s m #[Value.ref b] below meth c H locs 98 1876 (lw_Z below #[Value.ref b] s) (F0 m 454 ls []) := by
  have hx := X.1.1.1
  have hb := X.1.1.2.1
  obtain ⟨r, S', M', e1, e2, e3⟩ := sim_text (xs (nI i + (1 : Int32)).toNatClampNeg) (xs (nI i + (2 : Int32)).toNatClampNeg) S M hR
  refine lv_aload_n hx hb dL_law_454 rfl (lv_at hl 1 rfl) ?_
  refine lv_aload_n hx hb dL_law_455 rfl (lv_at hl 0 rfl) ?_
  refine lv_iload_n hx hb dL_law_456 rfl (lv_at hl 3 rfl) ?_
  refine lv_iconst (v := (1 : Int32)) hx hb dL_law_457 (by decide) ?_
  refine lv_iadd hx hb dL_law_458 ?_
  refine lawS X hW (arg_in (j := 1) (by omega) hL) dL_law_459 ?_
  refine lv_aload_n hx hb dL_law_460 rfl (lv_at hl 0 rfl) ?_
  refine lv_iload_n hx hb dL_law_461 rfl (lv_at hl 3 rfl) ?_
  refine lv_iconst (v := (2 : Int32)) hx hb dL_law_462 (by decide) ?_
  refine lv_iadd hx hb dL_law_463 ?_
  refine lawS X hW (arg_in (j := 2) (by omega) hL) dL_law_464 ?_
  refine lawC X hW [.int (xs (nI i + (1 : Int32)).toNatClampNeg), .int (xs (nI i + (2 : Int32)).toNatClampNeg)] (rest := []) (m_X7_text e1) cw_X7_text tw_143 tw_424 tw_713 ⟨Nat.le_of_ble_eq_true rfl, Nat.le_of_ble_eq_true rfl⟩ rfl rfl hl.1 (Nat.le_of_ble_eq_true rfl) dL_law_465 ⟨Nat.le_of_ble_eq_true rfl, Nat.le_of_ble_eq_true rfl⟩ (fun H locs hW => ?_)
  refine lv_aload_n hx hb dL_law_468 rfl (lv_at hl 2 rfl) ?_
  refine lv_aload_n hx hb dL_law_469 rfl (lv_at hl 0 rfl) ?_
  refine lv_iload_n hx hb dL_law_470 rfl (lv_at hl 3 rfl) ?_
  refine lv_iconst (v := (1 : Int32)) hx hb dL_law_471 (by decide) ?_
  refine lv_iadd hx hb dL_law_472 ?_
  refine lawS X hW (arg_in (j := 1) (by omega) hL) dL_law_473 ?_
  refine lv_aload_n hx hb dL_law_474 rfl (lv_at hl 0 rfl) ?_
  refine lv_iload_n hx hb dL_law_475 rfl (lv_at hl 3 rfl) ?_
  refine lv_iconst (v := (2 : Int32)) hx hb dL_law_476 (by decide) ?_
  refine lv_iadd hx hb dL_law_477 ?_
  refine lawS X hW (arg_in (j := 2) (by omega) hL) dL_law_478 ?_
  refine lawM X hW [.int (xs (nI i + (1 : Int32)).toNatClampNeg), .int (xs (nI i + (2 : Int32)).toNatClampNeg)] (rest := [.int r]) (m_X8_text e2) cw_X8_text tw_300 tw_557 tw_774 ⟨Nat.le_of_ble_eq_true rfl, Nat.le_of_ble_eq_true rfl⟩ rfl rfl hl.1 (Nat.le_of_ble_eq_true rfl) dL_law_479 ⟨Nat.le_of_ble_eq_true rfl, Nat.le_of_ble_eq_true rfl⟩ (fun H locs hW => ?_)
  refine lv_icmp_eq (tgt := 1520) hx hb dL_law_482 (by decide) (fun _ => ?_) (fun c9 => absurd rfl c9)
  exact kk S' M' H locs e3 hW
set_option maxHeartbeats 4000000 in
set_option maxRecDepth 100000 in
theorem case_7 (X : Lw D cI cP cB cA tL tC p s m meth c b L xs) (hL : L ≤ 384) {i : Nat} (hi : i + 6 ≤ L) {S M : Stt} {H : Heap} {locs : List Loc} {ls : Array Slot} (hR : Rel S M) (hW : Wd D cI cP cB cA s S M H locs) (hl : lv_has ls 4 [(0, .ref b), (1, .ref (aC s.heap.size 0)), (2, .ref (aM s.heap.size 0)), (3, .int (nI i))]) (kk : Nxt p l e s m below meth c D cI cP cB cA b ls) : W p l e room_1 s m #[Value.ref b] below meth c H locs 98 1876 (lw_Z below #[Value.ref b] s) (F0 m 487 ls []) := by
  have hx := X.1.1.1
  have hb := X.1.1.2.1
  obtain ⟨r, S', M', e1, e2, e3⟩ := sim_put (xs (nI i + (1 : Int32)).toNatClampNeg) (xs (nI i + (2 : Int32)).toNatClampNeg) (xs (nI i + (3 : Int32)).toNatClampNeg) S M hR
  refine lv_aload_n hx hb dL_law_487 rfl (lv_at hl 1 rfl) ?_
  refine lv_aload_n hx hb dL_law_488 rfl (lv_at hl 0 rfl) ?_
  refine lv_iload_n hx hb dL_law_489 rfl (lv_at hl 3 rfl) ?_
  refine lv_iconst (v := (1 : Int32)) hx hb dL_law_490 (by decide) ?_
  refine lv_iadd hx hb dL_law_491 ?_
  refine lawS X hW (arg_in (j := 1) (by omega) hL) dL_law_492 ?_
  refine lv_aload_n hx hb dL_law_493 rfl (lv_at hl 0 rfl) ?_
  refine lv_iload_n hx hb dL_law_494 rfl (lv_at hl 3 rfl) ?_
  refine lv_iconst (v := (2 : Int32)) hx hb dL_law_495 (by decide) ?_
  refine lv_iadd hx hb dL_law_496 ?_
  refine lawS X hW (arg_in (j := 2) (by omega) hL) dL_law_497 ?_
  refine lv_aload_n hx hb dL_law_498 rfl (lv_at hl 0 rfl) ?_
  refine lv_iload_n hx hb dL_law_499 rfl (lv_at hl 3 rfl) ?_
  refine lv_iconst (v := (3 : Int32)) hx hb dL_law_500 (by decide) ?_
  refine lv_iadd hx hb dL_law_501 ?_
  refine lawS X hW (arg_in (j := 3) (by omega) hL) dL_law_502 ?_
  refine lawC X hW [.int (xs (nI i + (1 : Int32)).toNatClampNeg), .int (xs (nI i + (2 : Int32)).toNatClampNeg), .int (xs (nI i + (3 : Int32)).toNatClampNeg)] (rest := []) (m_X7_put e1) cw_X7_put tw_144 tw_425 tw_714 ⟨Nat.le_of_ble_eq_true rfl, Nat.le_of_ble_eq_true rfl⟩ rfl rfl hl.1 (Nat.le_of_ble_eq_true rfl) dL_law_503 ⟨Nat.le_of_ble_eq_true rfl, Nat.le_of_ble_eq_true rfl⟩ (fun H locs hW => ?_)
  refine lv_aload_n hx hb dL_law_506 rfl (lv_at hl 2 rfl) ?_
  refine lv_aload_n hx hb dL_law_507 rfl (lv_at hl 0 rfl) ?_
  refine lv_iload_n hx hb dL_law_508 rfl (lv_at hl 3 rfl) ?_
  refine lv_iconst (v := (1 : Int32)) hx hb dL_law_509 (by decide) ?_
  refine lv_iadd hx hb dL_law_510 ?_
  refine lawS X hW (arg_in (j := 1) (by omega) hL) dL_law_511 ?_
  refine lv_aload_n hx hb dL_law_512 rfl (lv_at hl 0 rfl) ?_
  refine lv_iload_n hx hb dL_law_513 rfl (lv_at hl 3 rfl) ?_
  refine lv_iconst (v := (2 : Int32)) hx hb dL_law_514 (by decide) ?_
  refine lv_iadd hx hb dL_law_515 ?_
  refine lawS X hW (arg_in (j := 2) (by omega) hL) dL_law_516 ?_
  refine lv_aload_n hx hb dL_law_517 rfl (lv_at hl 0 rfl) ?_
  refine lv_iload_n hx hb dL_law_518 rfl (lv_at hl 3 rfl) ?_
  refine lv_iconst (v := (3 : Int32)) hx hb dL_law_519 (by decide) ?_
  refine lv_iadd hx hb dL_law_520 ?_
  refine lawS X hW (arg_in (j := 3) (by omega) hL) dL_law_521 ?_
  refine lawM X hW [.int (xs (nI i + (1 : Int32)).toNatClampNeg), .int (xs (nI i + (2 : Int32)).toNatClampNeg), .int (xs (nI i + (3 : Int32)).toNatClampNeg)] (rest := [.int r]) (m_X8_put e2) cw_X8_put tw_302 tw_559 tw_775 ⟨Nat.le_of_ble_eq_true rfl, Nat.le_of_ble_eq_true rfl⟩ rfl rfl hl.1 (Nat.le_of_ble_eq_true rfl) dL_law_522 ⟨Nat.le_of_ble_eq_true rfl, Nat.le_of_ble_eq_true rfl⟩ (fun H locs hW => ?_)
  refine lv_icmp_eq (tgt := 1520) hx hb dL_law_525 (by decide) (fun _ => ?_) (fun c9 => absurd rfl c9)
  exact kk S' M' H locs e3 hW
set_option maxHeartbeats 4000000 in
set_option maxRecDepth 100000 in
theorem case_8 (X : Lw D cI cP cB cA tL tC p s m meth c b L xs) (hL : L ≤ 384) {i : Nat} (hi : i + 6 ≤ L) {S M : Stt} {H : Heap} {locs : List Loc} {ls : Array Slot} (hR : Rel S M) (hW : Wd D cI cP cB cA s S M H locs) (hl : lv_has ls 4 [(0, .ref b), (1, .ref (aC s.heap.size 0)), (2, .ref (aM s.heap.size 0)), (3, .int (nI i))]) (kk : Nxt p l e s m below meth c D cI cP cB cA b ls) : W p l e room_1 s m #[Value.ref b] below meth c H locs 98 1876 (lw_Z below #[Value.ref b] s) (F0 m 530 ls []) := by
  have hx := X.1.1.1
  have hb := X.1.1.2.1
  obtain ⟨r, S', M', e1, e2, e3⟩ := sim_fault (xs (nI i + (1 : Int32)).toNatClampNeg) S M hR
  refine lv_aload_n hx hb dL_law_530 rfl (lv_at hl 1 rfl) ?_
  refine lv_aload_n hx hb dL_law_531 rfl (lv_at hl 0 rfl) ?_
  refine lv_iload_n hx hb dL_law_532 rfl (lv_at hl 3 rfl) ?_
  refine lv_iconst (v := (1 : Int32)) hx hb dL_law_533 (by decide) ?_
  refine lv_iadd hx hb dL_law_534 ?_
  refine lawS X hW (arg_in (j := 1) (by omega) hL) dL_law_535 ?_
  refine lawC X hW [.int (xs (nI i + (1 : Int32)).toNatClampNeg)] (rest := []) (m_X7_fault e1) cw_X7_fault tw_145 tw_426 tw_715 ⟨Nat.le_of_ble_eq_true rfl, Nat.le_of_ble_eq_true rfl⟩ rfl rfl hl.1 (Nat.le_of_ble_eq_true rfl) dL_law_536 ⟨Nat.le_of_ble_eq_true rfl, Nat.le_of_ble_eq_true rfl⟩ (fun H locs hW => ?_)
  refine lv_aload_n hx hb dL_law_539 rfl (lv_at hl 2 rfl) ?_
  refine lv_aload_n hx hb dL_law_540 rfl (lv_at hl 0 rfl) ?_
  refine lv_iload_n hx hb dL_law_541 rfl (lv_at hl 3 rfl) ?_
  refine lv_iconst (v := (1 : Int32)) hx hb dL_law_542 (by decide) ?_
  refine lv_iadd hx hb dL_law_543 ?_
  refine lawS X hW (arg_in (j := 1) (by omega) hL) dL_law_544 ?_
  refine lawM X hW [.int (xs (nI i + (1 : Int32)).toNatClampNeg)] (rest := [.int r]) (m_X8_fault e2) cw_X8_fault tw_304 tw_561 tw_781 ⟨Nat.le_of_ble_eq_true rfl, Nat.le_of_ble_eq_true rfl⟩ rfl rfl hl.1 (Nat.le_of_ble_eq_true rfl) dL_law_545 ⟨Nat.le_of_ble_eq_true rfl, Nat.le_of_ble_eq_true rfl⟩ (fun H locs hW => ?_)
  refine lv_icmp_eq (tgt := 1520) hx hb dL_law_548 (by decide) (fun _ => ?_) (fun c9 => absurd rfl c9)
  exact kk S' M' H locs e3 hW
set_option maxHeartbeats 4000000 in
set_option maxRecDepth 100000 in
theorem case_9 (X : Lw D cI cP cB cA tL tC p s m meth c b L xs) (hL : L ≤ 384) {i : Nat} (hi : i + 6 ≤ L) {S M : Stt} {H : Heap} {locs : List Loc} {ls : Array Slot} (hR : Rel S M) (hW : Wd D cI cP cB cA s S M H locs) (hl : lv_has ls 4 [(0, .ref b), (1, .ref (aC s.heap.size 0)), (2, .ref (aM s.heap.size 0)), (3, .int (nI i))]) (kk : Nxt p l e s m below meth c D cI cP cB cA b ls) : W p l e room_1 s m #[Value.ref b] below meth c H locs 98 1876 (lw_Z below #[Value.ref b] s) (F0 m 553 ls []) := by
  have hx := X.1.1.1
  have hb := X.1.1.2.1
  obtain ⟨r, S', M', e1, e2, e3⟩ := sim_book (xs (nI i + (1 : Int32)).toNatClampNeg) S M hR
  refine lv_aload_n hx hb dL_law_553 rfl (lv_at hl 1 rfl) ?_
  refine lv_aload_n hx hb dL_law_554 rfl (lv_at hl 0 rfl) ?_
  refine lv_iload_n hx hb dL_law_555 rfl (lv_at hl 3 rfl) ?_
  refine lv_iconst (v := (1 : Int32)) hx hb dL_law_556 (by decide) ?_
  refine lv_iadd hx hb dL_law_557 ?_
  refine lawS X hW (arg_in (j := 1) (by omega) hL) dL_law_558 ?_
  refine lawC X hW [.int (xs (nI i + (1 : Int32)).toNatClampNeg)] (rest := []) (m_X7_book e1) cw_X7_book tw_163 tw_445 tw_716 ⟨Nat.le_of_ble_eq_true rfl, Nat.le_of_ble_eq_true rfl⟩ rfl rfl hl.1 (Nat.le_of_ble_eq_true rfl) dL_law_559 ⟨Nat.le_of_ble_eq_true rfl, Nat.le_of_ble_eq_true rfl⟩ (fun H locs hW => ?_)
  refine lv_aload_n hx hb dL_law_562 rfl (lv_at hl 2 rfl) ?_
  refine lv_aload_n hx hb dL_law_563 rfl (lv_at hl 0 rfl) ?_
  refine lv_iload_n hx hb dL_law_564 rfl (lv_at hl 3 rfl) ?_
  refine lv_iconst (v := (1 : Int32)) hx hb dL_law_565 (by decide) ?_
  refine lv_iadd hx hb dL_law_566 ?_
  refine lawS X hW (arg_in (j := 1) (by omega) hL) dL_law_567 ?_
  refine lawM X hW [.int (xs (nI i + (1 : Int32)).toNatClampNeg)] (rest := [.int r]) (m_X8_book e2) cw_X8_book tw_312 tw_569 tw_782 ⟨Nat.le_of_ble_eq_true rfl, Nat.le_of_ble_eq_true rfl⟩ rfl rfl hl.1 (Nat.le_of_ble_eq_true rfl) dL_law_568 ⟨Nat.le_of_ble_eq_true rfl, Nat.le_of_ble_eq_true rfl⟩ (fun H locs hW => ?_)
  refine lv_icmp_eq (tgt := 1520) hx hb dL_law_571 (by decide) (fun _ => ?_) (fun c9 => absurd rfl c9)
  exact kk S' M' H locs e3 hW
set_option maxHeartbeats 4000000 in
set_option maxRecDepth 100000 in
theorem case_10 (X : Lw D cI cP cB cA tL tC p s m meth c b L xs) (hL : L ≤ 384) {i : Nat} (hi : i + 6 ≤ L) {S M : Stt} {H : Heap} {locs : List Loc} {ls : Array Slot} (hR : Rel S M) (hW : Wd D cI cP cB cA s S M H locs) (hl : lv_has ls 4 [(0, .ref b), (1, .ref (aC s.heap.size 0)), (2, .ref (aM s.heap.size 0)), (3, .int (nI i))]) (kk : Nxt p l e s m below meth c D cI cP cB cA b ls) : W p l e room_1 s m #[Value.ref b] below meth c H locs 98 1876 (lw_Z below #[Value.ref b] s) (F0 m 576 ls []) := by
  have hx := X.1.1.1
  have hb := X.1.1.2.1
  obtain ⟨r, S', M', e1, e2, e3⟩ := sim_page (xs (nI i + (1 : Int32)).toNatClampNeg) (xs (nI i + (2 : Int32)).toNatClampNeg) S M hR
  refine lv_aload_n hx hb dL_law_576 rfl (lv_at hl 1 rfl) ?_
  refine lv_aload_n hx hb dL_law_577 rfl (lv_at hl 0 rfl) ?_
  refine lv_iload_n hx hb dL_law_578 rfl (lv_at hl 3 rfl) ?_
  refine lv_iconst (v := (1 : Int32)) hx hb dL_law_579 (by decide) ?_
  refine lv_iadd hx hb dL_law_580 ?_
  refine lawS X hW (arg_in (j := 1) (by omega) hL) dL_law_581 ?_
  refine lv_aload_n hx hb dL_law_582 rfl (lv_at hl 0 rfl) ?_
  refine lv_iload_n hx hb dL_law_583 rfl (lv_at hl 3 rfl) ?_
  refine lv_iconst (v := (2 : Int32)) hx hb dL_law_584 (by decide) ?_
  refine lv_iadd hx hb dL_law_585 ?_
  refine lawS X hW (arg_in (j := 2) (by omega) hL) dL_law_586 ?_
  refine lawC X hW [.int (xs (nI i + (1 : Int32)).toNatClampNeg), .int (xs (nI i + (2 : Int32)).toNatClampNeg)] (rest := []) (m_X7_page e1) cw_X7_page tw_168 tw_449 tw_717 ⟨Nat.le_of_ble_eq_true rfl, Nat.le_of_ble_eq_true rfl⟩ rfl rfl hl.1 (Nat.le_of_ble_eq_true rfl) dL_law_587 ⟨Nat.le_of_ble_eq_true rfl, Nat.le_of_ble_eq_true rfl⟩ (fun H locs hW => ?_)
  refine lv_aload_n hx hb dL_law_590 rfl (lv_at hl 2 rfl) ?_
  refine lv_aload_n hx hb dL_law_591 rfl (lv_at hl 0 rfl) ?_
  refine lv_iload_n hx hb dL_law_592 rfl (lv_at hl 3 rfl) ?_
  refine lv_iconst (v := (1 : Int32)) hx hb dL_law_593 (by decide) ?_
  refine lv_iadd hx hb dL_law_594 ?_
  refine lawS X hW (arg_in (j := 1) (by omega) hL) dL_law_595 ?_
  refine lv_aload_n hx hb dL_law_596 rfl (lv_at hl 0 rfl) ?_
  refine lv_iload_n hx hb dL_law_597 rfl (lv_at hl 3 rfl) ?_
  refine lv_iconst (v := (2 : Int32)) hx hb dL_law_598 (by decide) ?_
  refine lv_iadd hx hb dL_law_599 ?_
  refine lawS X hW (arg_in (j := 2) (by omega) hL) dL_law_600 ?_
  refine lawM X hW [.int (xs (nI i + (1 : Int32)).toNatClampNeg), .int (xs (nI i + (2 : Int32)).toNatClampNeg)] (rest := [.int r]) (m_X8_page e2) cw_X8_page tw_313 tw_570 tw_786 ⟨Nat.le_of_ble_eq_true rfl, Nat.le_of_ble_eq_true rfl⟩ rfl rfl hl.1 (Nat.le_of_ble_eq_true rfl) dL_law_601 ⟨Nat.le_of_ble_eq_true rfl, Nat.le_of_ble_eq_true rfl⟩ (fun H locs hW => ?_)
  refine lv_icmp_eq (tgt := 1520) hx hb dL_law_604 (by decide) (fun _ => ?_) (fun c9 => absurd rfl c9)
  exact kk S' M' H locs e3 hW
set_option maxHeartbeats 4000000 in
set_option maxRecDepth 100000 in
theorem case_11 (X : Lw D cI cP cB cA tL tC p s m meth c b L xs) (hL : L ≤ 384) {i : Nat} (hi : i + 6 ≤ L) {S M : Stt} {H : Heap} {locs : List Loc} {ls : Array Slot} (hR : Rel S M) (hW : Wd D cI cP cB cA s S M H locs) (hl : lv_has ls 4 [(0, .ref b), (1, .ref (aC s.heap.size 0)), (2, .ref (aM s.heap.size 0)), (3, .int (nI i))]) (kk : Nxt p l e s m below meth c D cI cP cB cA b ls) : W p l e room_1 s m #[Value.ref b] below meth c H locs 98 1876 (lw_Z below #[Value.ref b] s) (F0 m 609 ls []) := by
  have hx := X.1.1.1
  have hb := X.1.1.2.1
  obtain ⟨r, S', M', e1, e2, e3⟩ := sim_mark (xs (nI i + (1 : Int32)).toNatClampNeg) (xs (nI i + (2 : Int32)).toNatClampNeg) S M hR
  refine lv_aload_n hx hb dL_law_609 rfl (lv_at hl 1 rfl) ?_
  refine lv_aload_n hx hb dL_law_610 rfl (lv_at hl 0 rfl) ?_
  refine lv_iload_n hx hb dL_law_611 rfl (lv_at hl 3 rfl) ?_
  refine lv_iconst (v := (1 : Int32)) hx hb dL_law_612 (by decide) ?_
  refine lv_iadd hx hb dL_law_613 ?_
  refine lawS X hW (arg_in (j := 1) (by omega) hL) dL_law_614 ?_
  refine lv_aload_n hx hb dL_law_615 rfl (lv_at hl 0 rfl) ?_
  refine lv_iload_n hx hb dL_law_616 rfl (lv_at hl 3 rfl) ?_
  refine lv_iconst (v := (2 : Int32)) hx hb dL_law_617 (by decide) ?_
  refine lv_iadd hx hb dL_law_618 ?_
  refine lawS X hW (arg_in (j := 2) (by omega) hL) dL_law_619 ?_
  refine lawC X hW [.int (xs (nI i + (1 : Int32)).toNatClampNeg), .int (xs (nI i + (2 : Int32)).toNatClampNeg)] (rest := []) (m_X7_mark e1) cw_X7_mark tw_172 tw_452 tw_718 ⟨Nat.le_of_ble_eq_true rfl, Nat.le_of_ble_eq_true rfl⟩ rfl rfl hl.1 (Nat.le_of_ble_eq_true rfl) dL_law_620 ⟨Nat.le_of_ble_eq_true rfl, Nat.le_of_ble_eq_true rfl⟩ (fun H locs hW => ?_)
  refine lv_aload_n hx hb dL_law_623 rfl (lv_at hl 2 rfl) ?_
  refine lv_aload_n hx hb dL_law_624 rfl (lv_at hl 0 rfl) ?_
  refine lv_iload_n hx hb dL_law_625 rfl (lv_at hl 3 rfl) ?_
  refine lv_iconst (v := (1 : Int32)) hx hb dL_law_626 (by decide) ?_
  refine lv_iadd hx hb dL_law_627 ?_
  refine lawS X hW (arg_in (j := 1) (by omega) hL) dL_law_628 ?_
  refine lv_aload_n hx hb dL_law_629 rfl (lv_at hl 0 rfl) ?_
  refine lv_iload_n hx hb dL_law_630 rfl (lv_at hl 3 rfl) ?_
  refine lv_iconst (v := (2 : Int32)) hx hb dL_law_631 (by decide) ?_
  refine lv_iadd hx hb dL_law_632 ?_
  refine lawS X hW (arg_in (j := 2) (by omega) hL) dL_law_633 ?_
  refine lawM X hW [.int (xs (nI i + (1 : Int32)).toNatClampNeg), .int (xs (nI i + (2 : Int32)).toNatClampNeg)] (rest := [.int r]) (m_X8_mark e2) cw_X8_mark tw_320 tw_577 tw_791 ⟨Nat.le_of_ble_eq_true rfl, Nat.le_of_ble_eq_true rfl⟩ rfl rfl hl.1 (Nat.le_of_ble_eq_true rfl) dL_law_634 ⟨Nat.le_of_ble_eq_true rfl, Nat.le_of_ble_eq_true rfl⟩ (fun H locs hW => ?_)
  refine lv_icmp_eq (tgt := 1520) hx hb dL_law_637 (by decide) (fun _ => ?_) (fun c9 => absurd rfl c9)
  exact kk S' M' H locs e3 hW
set_option maxHeartbeats 4000000 in
set_option maxRecDepth 100000 in
theorem case_12 (X : Lw D cI cP cB cA tL tC p s m meth c b L xs) (hL : L ≤ 384) {i : Nat} (hi : i + 6 ≤ L) {S M : Stt} {H : Heap} {locs : List Loc} {ls : Array Slot} (hR : Rel S M) (hW : Wd D cI cP cB cA s S M H locs) (hl : lv_has ls 4 [(0, .ref b), (1, .ref (aC s.heap.size 0)), (2, .ref (aM s.heap.size 0)), (3, .int (nI i))]) (kk : Nxt p l e s m below meth c D cI cP cB cA b ls) : W p l e room_1 s m #[Value.ref b] below meth c H locs 98 1876 (lw_Z below #[Value.ref b] s) (F0 m 642 ls []) := by
  have hx := X.1.1.1
  have hb := X.1.1.2.1
  obtain ⟨r, S', M', e1, e2, e3⟩ := sim_reverse (xs (nI i + (1 : Int32)).toNatClampNeg) (xs (nI i + (2 : Int32)).toNatClampNeg) S M hR
  refine lv_aload_n hx hb dL_law_642 rfl (lv_at hl 1 rfl) ?_
  refine lv_aload_n hx hb dL_law_643 rfl (lv_at hl 0 rfl) ?_
  refine lv_iload_n hx hb dL_law_644 rfl (lv_at hl 3 rfl) ?_
  refine lv_iconst (v := (1 : Int32)) hx hb dL_law_645 (by decide) ?_
  refine lv_iadd hx hb dL_law_646 ?_
  refine lawS X hW (arg_in (j := 1) (by omega) hL) dL_law_647 ?_
  refine lv_aload_n hx hb dL_law_648 rfl (lv_at hl 0 rfl) ?_
  refine lv_iload_n hx hb dL_law_649 rfl (lv_at hl 3 rfl) ?_
  refine lv_iconst (v := (2 : Int32)) hx hb dL_law_650 (by decide) ?_
  refine lv_iadd hx hb dL_law_651 ?_
  refine lawS X hW (arg_in (j := 2) (by omega) hL) dL_law_652 ?_
  refine lawC X hW [.int (xs (nI i + (1 : Int32)).toNatClampNeg), .int (xs (nI i + (2 : Int32)).toNatClampNeg)] (rest := []) (m_X7_reverse e1) cw_X7_reverse tw_180 tw_456 tw_719 ⟨Nat.le_of_ble_eq_true rfl, Nat.le_of_ble_eq_true rfl⟩ rfl rfl hl.1 (Nat.le_of_ble_eq_true rfl) dL_law_653 ⟨Nat.le_of_ble_eq_true rfl, Nat.le_of_ble_eq_true rfl⟩ (fun H locs hW => ?_)
  refine lv_aload_n hx hb dL_law_656 rfl (lv_at hl 2 rfl) ?_
  refine lv_aload_n hx hb dL_law_657 rfl (lv_at hl 0 rfl) ?_
  refine lv_iload_n hx hb dL_law_658 rfl (lv_at hl 3 rfl) ?_
  refine lv_iconst (v := (1 : Int32)) hx hb dL_law_659 (by decide) ?_
  refine lv_iadd hx hb dL_law_660 ?_
  refine lawS X hW (arg_in (j := 1) (by omega) hL) dL_law_661 ?_
  refine lv_aload_n hx hb dL_law_662 rfl (lv_at hl 0 rfl) ?_
  refine lv_iload_n hx hb dL_law_663 rfl (lv_at hl 3 rfl) ?_
  refine lv_iconst (v := (2 : Int32)) hx hb dL_law_664 (by decide) ?_
  refine lv_iadd hx hb dL_law_665 ?_
  refine lawS X hW (arg_in (j := 2) (by omega) hL) dL_law_666 ?_
  refine lawM X hW [.int (xs (nI i + (1 : Int32)).toNatClampNeg), .int (xs (nI i + (2 : Int32)).toNatClampNeg)] (rest := [.int r]) (m_X8_reverse e2) cw_X8_reverse tw_324 tw_581 tw_792 ⟨Nat.le_of_ble_eq_true rfl, Nat.le_of_ble_eq_true rfl⟩ rfl rfl hl.1 (Nat.le_of_ble_eq_true rfl) dL_law_667 ⟨Nat.le_of_ble_eq_true rfl, Nat.le_of_ble_eq_true rfl⟩ (fun H locs hW => ?_)
  refine lv_icmp_eq (tgt := 1520) hx hb dL_law_670 (by decide) (fun _ => ?_) (fun c9 => absurd rfl c9)
  exact kk S' M' H locs e3 hW
set_option maxHeartbeats 4000000 in
set_option maxRecDepth 100000 in
theorem case_13 (X : Lw D cI cP cB cA tL tC p s m meth c b L xs) (hL : L ≤ 384) {i : Nat} (hi : i + 6 ≤ L) {S M : Stt} {H : Heap} {locs : List Loc} {ls : Array Slot} (hR : Rel S M) (hW : Wd D cI cP cB cA s S M H locs) (hl : lv_has ls 4 [(0, .ref b), (1, .ref (aC s.heap.size 0)), (2, .ref (aM s.heap.size 0)), (3, .int (nI i))]) (kk : Nxt p l e s m below meth c D cI cP cB cA b ls) : W p l e room_1 s m #[Value.ref b] below meth c H locs 98 1876 (lw_Z below #[Value.ref b] s) (F0 m 675 ls []) := by
  have hx := X.1.1.1
  have hb := X.1.1.2.1
  obtain ⟨r, S', M', e1, e2, e3⟩ := sim_swap (xs (nI i + (1 : Int32)).toNatClampNeg) (xs (nI i + (2 : Int32)).toNatClampNeg) S M hR
  refine lv_aload_n hx hb dL_law_675 rfl (lv_at hl 1 rfl) ?_
  refine lv_aload_n hx hb dL_law_676 rfl (lv_at hl 0 rfl) ?_
  refine lv_iload_n hx hb dL_law_677 rfl (lv_at hl 3 rfl) ?_
  refine lv_iconst (v := (1 : Int32)) hx hb dL_law_678 (by decide) ?_
  refine lv_iadd hx hb dL_law_679 ?_
  refine lawS X hW (arg_in (j := 1) (by omega) hL) dL_law_680 ?_
  refine lv_aload_n hx hb dL_law_681 rfl (lv_at hl 0 rfl) ?_
  refine lv_iload_n hx hb dL_law_682 rfl (lv_at hl 3 rfl) ?_
  refine lv_iconst (v := (2 : Int32)) hx hb dL_law_683 (by decide) ?_
  refine lv_iadd hx hb dL_law_684 ?_
  refine lawS X hW (arg_in (j := 2) (by omega) hL) dL_law_685 ?_
  refine lawC X hW [.int (xs (nI i + (1 : Int32)).toNatClampNeg), .int (xs (nI i + (2 : Int32)).toNatClampNeg)] (rest := []) (m_X7_swap e1) cw_X7_swap tw_182 tw_458 tw_720 ⟨Nat.le_of_ble_eq_true rfl, Nat.le_of_ble_eq_true rfl⟩ rfl rfl hl.1 (Nat.le_of_ble_eq_true rfl) dL_law_686 ⟨Nat.le_of_ble_eq_true rfl, Nat.le_of_ble_eq_true rfl⟩ (fun H locs hW => ?_)
  refine lv_aload_n hx hb dL_law_689 rfl (lv_at hl 2 rfl) ?_
  refine lv_aload_n hx hb dL_law_690 rfl (lv_at hl 0 rfl) ?_
  refine lv_iload_n hx hb dL_law_691 rfl (lv_at hl 3 rfl) ?_
  refine lv_iconst (v := (1 : Int32)) hx hb dL_law_692 (by decide) ?_
  refine lv_iadd hx hb dL_law_693 ?_
  refine lawS X hW (arg_in (j := 1) (by omega) hL) dL_law_694 ?_
  refine lv_aload_n hx hb dL_law_695 rfl (lv_at hl 0 rfl) ?_
  refine lv_iload_n hx hb dL_law_696 rfl (lv_at hl 3 rfl) ?_
  refine lv_iconst (v := (2 : Int32)) hx hb dL_law_697 (by decide) ?_
  refine lv_iadd hx hb dL_law_698 ?_
  refine lawS X hW (arg_in (j := 2) (by omega) hL) dL_law_699 ?_
  refine lawM X hW [.int (xs (nI i + (1 : Int32)).toNatClampNeg), .int (xs (nI i + (2 : Int32)).toNatClampNeg)] (rest := [.int r]) (m_X8_swap e2) cw_X8_swap tw_325 tw_582 tw_793 ⟨Nat.le_of_ble_eq_true rfl, Nat.le_of_ble_eq_true rfl⟩ rfl rfl hl.1 (Nat.le_of_ble_eq_true rfl) dL_law_700 ⟨Nat.le_of_ble_eq_true rfl, Nat.le_of_ble_eq_true rfl⟩ (fun H locs hW => ?_)
  refine lv_icmp_eq (tgt := 1520) hx hb dL_law_703 (by decide) (fun _ => ?_) (fun c9 => absurd rfl c9)
  exact kk S' M' H locs e3 hW
set_option maxHeartbeats 4000000 in
set_option maxRecDepth 100000 in
theorem case_14 (X : Lw D cI cP cB cA tL tC p s m meth c b L xs) (hL : L ≤ 384) {i : Nat} (hi : i + 6 ≤ L) {S M : Stt} {H : Heap} {locs : List Loc} {ls : Array Slot} (hR : Rel S M) (hW : Wd D cI cP cB cA s S M H locs) (hl : lv_has ls 4 [(0, .ref b), (1, .ref (aC s.heap.size 0)), (2, .ref (aM s.heap.size 0)), (3, .int (nI i))]) (kk : Nxt p l e s m below meth c D cI cP cB cA b ls) : W p l e room_1 s m #[Value.ref b] below meth c H locs 98 1876 (lw_Z below #[Value.ref b] s) (F0 m 708 ls []) := by
  have hx := X.1.1.1
  have hb := X.1.1.2.1
  obtain ⟨r, S', M', e1, e2, e3⟩ := sim_read (xs (nI i + (1 : Int32)).toNatClampNeg) S M hR
  refine lv_aload_n hx hb dL_law_708 rfl (lv_at hl 1 rfl) ?_
  refine lv_aload_n hx hb dL_law_709 rfl (lv_at hl 0 rfl) ?_
  refine lv_iload_n hx hb dL_law_710 rfl (lv_at hl 3 rfl) ?_
  refine lv_iconst (v := (1 : Int32)) hx hb dL_law_711 (by decide) ?_
  refine lv_iadd hx hb dL_law_712 ?_
  refine lawS X hW (arg_in (j := 1) (by omega) hL) dL_law_713 ?_
  refine lawC X hW [.int (xs (nI i + (1 : Int32)).toNatClampNeg)] (rest := []) (m_X7_read e1) cw_X7_read tw_183 tw_459 tw_721 ⟨Nat.le_of_ble_eq_true rfl, Nat.le_of_ble_eq_true rfl⟩ rfl rfl hl.1 (Nat.le_of_ble_eq_true rfl) dL_law_714 ⟨Nat.le_of_ble_eq_true rfl, Nat.le_of_ble_eq_true rfl⟩ (fun H locs hW => ?_)
  refine lv_aload_n hx hb dL_law_717 rfl (lv_at hl 2 rfl) ?_
  refine lv_aload_n hx hb dL_law_718 rfl (lv_at hl 0 rfl) ?_
  refine lv_iload_n hx hb dL_law_719 rfl (lv_at hl 3 rfl) ?_
  refine lv_iconst (v := (1 : Int32)) hx hb dL_law_720 (by decide) ?_
  refine lv_iadd hx hb dL_law_721 ?_
  refine lawS X hW (arg_in (j := 1) (by omega) hL) dL_law_722 ?_
  refine lawM X hW [.int (xs (nI i + (1 : Int32)).toNatClampNeg)] (rest := [.int r]) (m_X8_read e2) cw_X8_read tw_326 tw_583 tw_794 ⟨Nat.le_of_ble_eq_true rfl, Nat.le_of_ble_eq_true rfl⟩ rfl rfl hl.1 (Nat.le_of_ble_eq_true rfl) dL_law_723 ⟨Nat.le_of_ble_eq_true rfl, Nat.le_of_ble_eq_true rfl⟩ (fun H locs hW => ?_)
  refine lv_icmp_eq (tgt := 1520) hx hb dL_law_726 (by decide) (fun _ => ?_) (fun c9 => absurd rfl c9)
  exact kk S' M' H locs e3 hW
set_option maxHeartbeats 4000000 in
set_option maxRecDepth 100000 in
theorem case_15 (X : Lw D cI cP cB cA tL tC p s m meth c b L xs) (hL : L ≤ 384) {i : Nat} (hi : i + 6 ≤ L) {S M : Stt} {H : Heap} {locs : List Loc} {ls : Array Slot} (hR : Rel S M) (hW : Wd D cI cP cB cA s S M H locs) (hl : lv_has ls 4 [(0, .ref b), (1, .ref (aC s.heap.size 0)), (2, .ref (aM s.heap.size 0)), (3, .int (nI i))]) (kk : Nxt p l e s m below meth c D cI cP cB cA b ls) : W p l e room_1 s m #[Value.ref b] below meth c H locs 98 1876 (lw_Z below #[Value.ref b] s) (F0 m 731 ls []) := by
  have hx := X.1.1.1
  have hb := X.1.1.2.1
  obtain ⟨r, S', M', e1, e2, e3⟩ := sim_add (xs (nI i + (1 : Int32)).toNatClampNeg) (xs (nI i + (2 : Int32)).toNatClampNeg) S M hR
  refine lv_aload_n hx hb dL_law_731 rfl (lv_at hl 1 rfl) ?_
  refine lv_aload_n hx hb dL_law_732 rfl (lv_at hl 0 rfl) ?_
  refine lv_iload_n hx hb dL_law_733 rfl (lv_at hl 3 rfl) ?_
  refine lv_iconst (v := (1 : Int32)) hx hb dL_law_734 (by decide) ?_
  refine lv_iadd hx hb dL_law_735 ?_
  refine lawS X hW (arg_in (j := 1) (by omega) hL) dL_law_736 ?_
  refine lv_aload_n hx hb dL_law_737 rfl (lv_at hl 0 rfl) ?_
  refine lv_iload_n hx hb dL_law_738 rfl (lv_at hl 3 rfl) ?_
  refine lv_iconst (v := (2 : Int32)) hx hb dL_law_739 (by decide) ?_
  refine lv_iadd hx hb dL_law_740 ?_
  refine lawS X hW (arg_in (j := 2) (by omega) hL) dL_law_741 ?_
  refine lawC X hW [.int (xs (nI i + (1 : Int32)).toNatClampNeg), .int (xs (nI i + (2 : Int32)).toNatClampNeg)] (rest := []) (m_X7_add e1) cw_X7_add tw_186 tw_461 tw_722 ⟨Nat.le_of_ble_eq_true rfl, Nat.le_of_ble_eq_true rfl⟩ rfl rfl hl.1 (Nat.le_of_ble_eq_true rfl) dL_law_742 ⟨Nat.le_of_ble_eq_true rfl, Nat.le_of_ble_eq_true rfl⟩ (fun H locs hW => ?_)
  refine lv_aload_n hx hb dL_law_745 rfl (lv_at hl 2 rfl) ?_
  refine lv_aload_n hx hb dL_law_746 rfl (lv_at hl 0 rfl) ?_
  refine lv_iload_n hx hb dL_law_747 rfl (lv_at hl 3 rfl) ?_
  refine lv_iconst (v := (1 : Int32)) hx hb dL_law_748 (by decide) ?_
  refine lv_iadd hx hb dL_law_749 ?_
  refine lawS X hW (arg_in (j := 1) (by omega) hL) dL_law_750 ?_
  refine lv_aload_n hx hb dL_law_751 rfl (lv_at hl 0 rfl) ?_
  refine lv_iload_n hx hb dL_law_752 rfl (lv_at hl 3 rfl) ?_
  refine lv_iconst (v := (2 : Int32)) hx hb dL_law_753 (by decide) ?_
  refine lv_iadd hx hb dL_law_754 ?_
  refine lawS X hW (arg_in (j := 2) (by omega) hL) dL_law_755 ?_
  refine lawM X hW [.int (xs (nI i + (1 : Int32)).toNatClampNeg), .int (xs (nI i + (2 : Int32)).toNatClampNeg)] (rest := [.int r]) (m_X8_add e2) cw_X8_add tw_327 tw_584 tw_795 ⟨Nat.le_of_ble_eq_true rfl, Nat.le_of_ble_eq_true rfl⟩ rfl rfl hl.1 (Nat.le_of_ble_eq_true rfl) dL_law_756 ⟨Nat.le_of_ble_eq_true rfl, Nat.le_of_ble_eq_true rfl⟩ (fun H locs hW => ?_)
  refine lv_icmp_eq (tgt := 1520) hx hb dL_law_759 (by decide) (fun _ => ?_) (fun c9 => absurd rfl c9)
  exact kk S' M' H locs e3 hW
set_option maxHeartbeats 4000000 in
set_option maxRecDepth 100000 in
theorem case_16 (X : Lw D cI cP cB cA tL tC p s m meth c b L xs) (hL : L ≤ 384) {i : Nat} (hi : i + 6 ≤ L) {S M : Stt} {H : Heap} {locs : List Loc} {ls : Array Slot} (hR : Rel S M) (hW : Wd D cI cP cB cA s S M H locs) (hl : lv_has ls 4 [(0, .ref b), (1, .ref (aC s.heap.size 0)), (2, .ref (aM s.heap.size 0)), (3, .int (nI i))]) (kk : Nxt p l e s m below meth c D cI cP cB cA b ls) : W p l e room_1 s m #[Value.ref b] below meth c H locs 98 1876 (lw_Z below #[Value.ref b] s) (F0 m 764 ls []) := by
  have hx := X.1.1.1
  have hb := X.1.1.2.1
  obtain ⟨r, S', M', e1, e2, e3⟩ := sim_rip  S M hR
  refine lv_aload_n hx hb dL_law_764 rfl (lv_at hl 1 rfl) ?_
  refine lawC X hW [] (rest := []) (m_X7_rip e1) cw_X7_rip tw_188 tw_462 tw_723 ⟨Nat.le_of_ble_eq_true rfl, Nat.le_of_ble_eq_true rfl⟩ rfl rfl hl.1 (Nat.le_of_ble_eq_true rfl) dL_law_765 ⟨Nat.le_of_ble_eq_true rfl, Nat.le_of_ble_eq_true rfl⟩ (fun H locs hW => ?_)
  refine lv_aload_n hx hb dL_law_768 rfl (lv_at hl 2 rfl) ?_
  refine lawM X hW [] (rest := [.int r]) (m_X8_rip e2) cw_X8_rip tw_328 tw_585 tw_796 ⟨Nat.le_of_ble_eq_true rfl, Nat.le_of_ble_eq_true rfl⟩ rfl rfl hl.1 (Nat.le_of_ble_eq_true rfl) dL_law_769 ⟨Nat.le_of_ble_eq_true rfl, Nat.le_of_ble_eq_true rfl⟩ (fun H locs hW => ?_)
  refine lv_icmp_eq (tgt := 1520) hx hb dL_law_772 (by decide) (fun _ => ?_) (fun c9 => absurd rfl c9)
  exact kk S' M' H locs e3 hW
set_option maxHeartbeats 4000000 in
set_option maxRecDepth 100000 in
theorem case_17 (X : Lw D cI cP cB cA tL tC p s m meth c b L xs) (hL : L ≤ 384) {i : Nat} (hi : i + 6 ≤ L) {S M : Stt} {H : Heap} {locs : List Loc} {ls : Array Slot} (hR : Rel S M) (hW : Wd D cI cP cB cA s S M H locs) (hl : lv_has ls 4 [(0, .ref b), (1, .ref (aC s.heap.size 0)), (2, .ref (aM s.heap.size 0)), (3, .int (nI i))]) (kk : Nxt p l e s m below meth c D cI cP cB cA b ls) : W p l e room_1 s m #[Value.ref b] below meth c H locs 98 1876 (lw_Z below #[Value.ref b] s) (F0 m 777 ls []) := by
  have hx := X.1.1.1
  have hb := X.1.1.2.1
  obtain ⟨r, S', M', e1, e2, e3⟩ := sim_keep (xs (nI i + (1 : Int32)).toNatClampNeg) S M hR
  refine lv_aload_n hx hb dL_law_777 rfl (lv_at hl 1 rfl) ?_
  refine lv_aload_n hx hb dL_law_778 rfl (lv_at hl 0 rfl) ?_
  refine lv_iload_n hx hb dL_law_779 rfl (lv_at hl 3 rfl) ?_
  refine lv_iconst (v := (1 : Int32)) hx hb dL_law_780 (by decide) ?_
  refine lv_iadd hx hb dL_law_781 ?_
  refine lawS X hW (arg_in (j := 1) (by omega) hL) dL_law_782 ?_
  refine lawC X hW [.int (xs (nI i + (1 : Int32)).toNatClampNeg)] (rest := []) (m_X7_keep e1) cw_X7_keep tw_190 tw_464 tw_724 ⟨Nat.le_of_ble_eq_true rfl, Nat.le_of_ble_eq_true rfl⟩ rfl rfl hl.1 (Nat.le_of_ble_eq_true rfl) dL_law_783 ⟨Nat.le_of_ble_eq_true rfl, Nat.le_of_ble_eq_true rfl⟩ (fun H locs hW => ?_)
  refine lv_aload_n hx hb dL_law_786 rfl (lv_at hl 2 rfl) ?_
  refine lv_aload_n hx hb dL_law_787 rfl (lv_at hl 0 rfl) ?_
  refine lv_iload_n hx hb dL_law_788 rfl (lv_at hl 3 rfl) ?_
  refine lv_iconst (v := (1 : Int32)) hx hb dL_law_789 (by decide) ?_
  refine lv_iadd hx hb dL_law_790 ?_
  refine lawS X hW (arg_in (j := 1) (by omega) hL) dL_law_791 ?_
  refine lawM X hW [.int (xs (nI i + (1 : Int32)).toNatClampNeg)] (rest := [.int r]) (m_X8_keep e2) cw_X8_keep tw_329 tw_586 tw_797 ⟨Nat.le_of_ble_eq_true rfl, Nat.le_of_ble_eq_true rfl⟩ rfl rfl hl.1 (Nat.le_of_ble_eq_true rfl) dL_law_792 ⟨Nat.le_of_ble_eq_true rfl, Nat.le_of_ble_eq_true rfl⟩ (fun H locs hW => ?_)
  refine lv_icmp_eq (tgt := 1520) hx hb dL_law_795 (by decide) (fun _ => ?_) (fun c9 => absurd rfl c9)
  exact kk S' M' H locs e3 hW
set_option maxHeartbeats 4000000 in
set_option maxRecDepth 100000 in
theorem case_18 (X : Lw D cI cP cB cA tL tC p s m meth c b L xs) (hL : L ≤ 384) {i : Nat} (hi : i + 6 ≤ L) {S M : Stt} {H : Heap} {locs : List Loc} {ls : Array Slot} (hR : Rel S M) (hW : Wd D cI cP cB cA s S M H locs) (hl : lv_has ls 4 [(0, .ref b), (1, .ref (aC s.heap.size 0)), (2, .ref (aM s.heap.size 0)), (3, .int (nI i))]) (kk : Nxt p l e s m below meth c D cI cP cB cA b ls) : W p l e room_1 s m #[Value.ref b] below meth c H locs 98 1876 (lw_Z below #[Value.ref b] s) (F0 m 800 ls []) := by
  have hx := X.1.1.1
  have hb := X.1.1.2.1
  obtain ⟨r, S', M', e1, e2, e3⟩ := sim_on (xs (nI i + (1 : Int32)).toNatClampNeg) S M hR
  refine lv_aload_n hx hb dL_law_800 rfl (lv_at hl 1 rfl) ?_
  refine lv_aload_n hx hb dL_law_801 rfl (lv_at hl 0 rfl) ?_
  refine lv_iload_n hx hb dL_law_802 rfl (lv_at hl 3 rfl) ?_
  refine lv_iconst (v := (1 : Int32)) hx hb dL_law_803 (by decide) ?_
  refine lv_iadd hx hb dL_law_804 ?_
  refine lawS X hW (arg_in (j := 1) (by omega) hL) dL_law_805 ?_
  refine lawC X hW [.int (xs (nI i + (1 : Int32)).toNatClampNeg)] (rest := []) (m_X7_on e1) cw_X7_on tw_192 tw_466 tw_725 ⟨Nat.le_of_ble_eq_true rfl, Nat.le_of_ble_eq_true rfl⟩ rfl rfl hl.1 (Nat.le_of_ble_eq_true rfl) dL_law_806 ⟨Nat.le_of_ble_eq_true rfl, Nat.le_of_ble_eq_true rfl⟩ (fun H locs hW => ?_)
  refine lv_aload_n hx hb dL_law_809 rfl (lv_at hl 2 rfl) ?_
  refine lv_aload_n hx hb dL_law_810 rfl (lv_at hl 0 rfl) ?_
  refine lv_iload_n hx hb dL_law_811 rfl (lv_at hl 3 rfl) ?_
  refine lv_iconst (v := (1 : Int32)) hx hb dL_law_812 (by decide) ?_
  refine lv_iadd hx hb dL_law_813 ?_
  refine lawS X hW (arg_in (j := 1) (by omega) hL) dL_law_814 ?_
  refine lawM X hW [.int (xs (nI i + (1 : Int32)).toNatClampNeg)] (rest := [.int r]) (m_X8_on e2) cw_X8_on tw_330 tw_587 tw_798 ⟨Nat.le_of_ble_eq_true rfl, Nat.le_of_ble_eq_true rfl⟩ rfl rfl hl.1 (Nat.le_of_ble_eq_true rfl) dL_law_815 ⟨Nat.le_of_ble_eq_true rfl, Nat.le_of_ble_eq_true rfl⟩ (fun H locs hW => ?_)
  refine lv_icmp_eq (tgt := 1520) hx hb dL_law_818 (by decide) (fun _ => ?_) (fun c9 => absurd rfl c9)
  exact kk S' M' H locs e3 hW
set_option maxHeartbeats 4000000 in
set_option maxRecDepth 100000 in
theorem case_19 (X : Lw D cI cP cB cA tL tC p s m meth c b L xs) (hL : L ≤ 384) {i : Nat} (hi : i + 6 ≤ L) {S M : Stt} {H : Heap} {locs : List Loc} {ls : Array Slot} (hR : Rel S M) (hW : Wd D cI cP cB cA s S M H locs) (hl : lv_has ls 4 [(0, .ref b), (1, .ref (aC s.heap.size 0)), (2, .ref (aM s.heap.size 0)), (3, .int (nI i))]) (kk : Nxt p l e s m below meth c D cI cP cB cA b ls) : W p l e room_1 s m #[Value.ref b] below meth c H locs 98 1876 (lw_Z below #[Value.ref b] s) (F0 m 823 ls []) := by
  have hx := X.1.1.1
  have hb := X.1.1.2.1
  obtain ⟨r, S', M', e1, e2, e3⟩ := sim_binds (xs (nI i + (1 : Int32)).toNatClampNeg) S M hR
  refine lv_aload_n hx hb dL_law_823 rfl (lv_at hl 1 rfl) ?_
  refine lv_aload_n hx hb dL_law_824 rfl (lv_at hl 0 rfl) ?_
  refine lv_iload_n hx hb dL_law_825 rfl (lv_at hl 3 rfl) ?_
  refine lv_iconst (v := (1 : Int32)) hx hb dL_law_826 (by decide) ?_
  refine lv_iadd hx hb dL_law_827 ?_
  refine lawS X hW (arg_in (j := 1) (by omega) hL) dL_law_828 ?_
  refine lawC X hW [.int (xs (nI i + (1 : Int32)).toNatClampNeg)] (rest := []) (m_X7_binds e1) cw_X7_binds tw_193 tw_467 tw_726 ⟨Nat.le_of_ble_eq_true rfl, Nat.le_of_ble_eq_true rfl⟩ rfl rfl hl.1 (Nat.le_of_ble_eq_true rfl) dL_law_829 ⟨Nat.le_of_ble_eq_true rfl, Nat.le_of_ble_eq_true rfl⟩ (fun H locs hW => ?_)
  refine lv_aload_n hx hb dL_law_832 rfl (lv_at hl 2 rfl) ?_
  refine lv_aload_n hx hb dL_law_833 rfl (lv_at hl 0 rfl) ?_
  refine lv_iload_n hx hb dL_law_834 rfl (lv_at hl 3 rfl) ?_
  refine lv_iconst (v := (1 : Int32)) hx hb dL_law_835 (by decide) ?_
  refine lv_iadd hx hb dL_law_836 ?_
  refine lawS X hW (arg_in (j := 1) (by omega) hL) dL_law_837 ?_
  refine lawM X hW [.int (xs (nI i + (1 : Int32)).toNatClampNeg)] (rest := [.int r]) (m_X8_binds e2) cw_X8_binds tw_316 tw_573 tw_789 ⟨Nat.le_of_ble_eq_true rfl, Nat.le_of_ble_eq_true rfl⟩ rfl rfl hl.1 (Nat.le_of_ble_eq_true rfl) dL_law_838 ⟨Nat.le_of_ble_eq_true rfl, Nat.le_of_ble_eq_true rfl⟩ (fun H locs hW => ?_)
  refine lv_icmp_eq (tgt := 1520) hx hb dL_law_841 (by decide) (fun _ => ?_) (fun c9 => absurd rfl c9)
  exact kk S' M' H locs e3 hW
set_option maxHeartbeats 4000000 in
set_option maxRecDepth 100000 in
theorem case_20 (X : Lw D cI cP cB cA tL tC p s m meth c b L xs) (hL : L ≤ 384) {i : Nat} (hi : i + 6 ≤ L) {S M : Stt} {H : Heap} {locs : List Loc} {ls : Array Slot} (hR : Rel S M) (hW : Wd D cI cP cB cA s S M H locs) (hl : lv_has ls 4 [(0, .ref b), (1, .ref (aC s.heap.size 0)), (2, .ref (aM s.heap.size 0)), (3, .int (nI i))]) (kk : Nxt p l e s m below meth c D cI cP cB cA b ls) : W p l e room_1 s m #[Value.ref b] below meth c H locs 98 1876 (lw_Z below #[Value.ref b] s) (F0 m 846 ls []) := by
  have hx := X.1.1.1
  have hb := X.1.1.2.1
  obtain ⟨r, S', M', e1, e2, e3⟩ := sim_means (xs (nI i + (1 : Int32)).toNatClampNeg) (xs (nI i + (2 : Int32)).toNatClampNeg) S M hR
  refine lv_aload_n hx hb dL_law_846 rfl (lv_at hl 1 rfl) ?_
  refine lv_aload_n hx hb dL_law_847 rfl (lv_at hl 0 rfl) ?_
  refine lv_iload_n hx hb dL_law_848 rfl (lv_at hl 3 rfl) ?_
  refine lv_iconst (v := (1 : Int32)) hx hb dL_law_849 (by decide) ?_
  refine lv_iadd hx hb dL_law_850 ?_
  refine lawS X hW (arg_in (j := 1) (by omega) hL) dL_law_851 ?_
  refine lv_aload_n hx hb dL_law_852 rfl (lv_at hl 0 rfl) ?_
  refine lv_iload_n hx hb dL_law_853 rfl (lv_at hl 3 rfl) ?_
  refine lv_iconst (v := (2 : Int32)) hx hb dL_law_854 (by decide) ?_
  refine lv_iadd hx hb dL_law_855 ?_
  refine lawS X hW (arg_in (j := 2) (by omega) hL) dL_law_856 ?_
  refine lawC X hW [.int (xs (nI i + (1 : Int32)).toNatClampNeg), .int (xs (nI i + (2 : Int32)).toNatClampNeg)] (rest := []) (m_X7_means e1) cw_X7_means tw_196 tw_470 tw_727 ⟨Nat.le_of_ble_eq_true rfl, Nat.le_of_ble_eq_true rfl⟩ rfl rfl hl.1 (Nat.le_of_ble_eq_true rfl) dL_law_857 ⟨Nat.le_of_ble_eq_true rfl, Nat.le_of_ble_eq_true rfl⟩ (fun H locs hW => ?_)
  refine lv_aload_n hx hb dL_law_860 rfl (lv_at hl 2 rfl) ?_
  refine lv_aload_n hx hb dL_law_861 rfl (lv_at hl 0 rfl) ?_
  refine lv_iload_n hx hb dL_law_862 rfl (lv_at hl 3 rfl) ?_
  refine lv_iconst (v := (1 : Int32)) hx hb dL_law_863 (by decide) ?_
  refine lv_iadd hx hb dL_law_864 ?_
  refine lawS X hW (arg_in (j := 1) (by omega) hL) dL_law_865 ?_
  refine lv_aload_n hx hb dL_law_866 rfl (lv_at hl 0 rfl) ?_
  refine lv_iload_n hx hb dL_law_867 rfl (lv_at hl 3 rfl) ?_
  refine lv_iconst (v := (2 : Int32)) hx hb dL_law_868 (by decide) ?_
  refine lv_iadd hx hb dL_law_869 ?_
  refine lawS X hW (arg_in (j := 2) (by omega) hL) dL_law_870 ?_
  refine lawM X hW [.int (xs (nI i + (1 : Int32)).toNatClampNeg), .int (xs (nI i + (2 : Int32)).toNatClampNeg)] (rest := [.int r]) (m_X8_means e2) cw_X8_means tw_331 tw_588 tw_800 ⟨Nat.le_of_ble_eq_true rfl, Nat.le_of_ble_eq_true rfl⟩ rfl rfl hl.1 (Nat.le_of_ble_eq_true rfl) dL_law_871 ⟨Nat.le_of_ble_eq_true rfl, Nat.le_of_ble_eq_true rfl⟩ (fun H locs hW => ?_)
  refine lv_icmp_eq (tgt := 1520) hx hb dL_law_874 (by decide) (fun _ => ?_) (fun c9 => absurd rfl c9)
  exact kk S' M' H locs e3 hW
set_option maxHeartbeats 4000000 in
set_option maxRecDepth 100000 in
theorem case_21 (X : Lw D cI cP cB cA tL tC p s m meth c b L xs) (hL : L ≤ 384) {i : Nat} (hi : i + 6 ≤ L) {S M : Stt} {H : Heap} {locs : List Loc} {ls : Array Slot} (hR : Rel S M) (hW : Wd D cI cP cB cA s S M H locs) (hl : lv_has ls 4 [(0, .ref b), (1, .ref (aC s.heap.size 0)), (2, .ref (aM s.heap.size 0)), (3, .int (nI i))]) (kk : Nxt p l e s m below meth c D cI cP cB cA b ls) : W p l e room_1 s m #[Value.ref b] below meth c H locs 98 1876 (lw_Z below #[Value.ref b] s) (F0 m 879 ls []) := by
  have hx := X.1.1.1
  have hb := X.1.1.2.1
  obtain ⟨r, S', M', e1, e2, e3⟩ := sim_meanings (xs (nI i + (1 : Int32)).toNatClampNeg) S M hR
  refine lv_aload_n hx hb dL_law_879 rfl (lv_at hl 1 rfl) ?_
  refine lv_aload_n hx hb dL_law_880 rfl (lv_at hl 0 rfl) ?_
  refine lv_iload_n hx hb dL_law_881 rfl (lv_at hl 3 rfl) ?_
  refine lv_iconst (v := (1 : Int32)) hx hb dL_law_882 (by decide) ?_
  refine lv_iadd hx hb dL_law_883 ?_
  refine lawS X hW (arg_in (j := 1) (by omega) hL) dL_law_884 ?_
  refine lawC X hW [.int (xs (nI i + (1 : Int32)).toNatClampNeg)] (rest := []) (m_X7_meanings e1) cw_X7_meanings tw_199 tw_472 tw_728 ⟨Nat.le_of_ble_eq_true rfl, Nat.le_of_ble_eq_true rfl⟩ rfl rfl hl.1 (Nat.le_of_ble_eq_true rfl) dL_law_885 ⟨Nat.le_of_ble_eq_true rfl, Nat.le_of_ble_eq_true rfl⟩ (fun H locs hW => ?_)
  refine lv_aload_n hx hb dL_law_888 rfl (lv_at hl 2 rfl) ?_
  refine lv_aload_n hx hb dL_law_889 rfl (lv_at hl 0 rfl) ?_
  refine lv_iload_n hx hb dL_law_890 rfl (lv_at hl 3 rfl) ?_
  refine lv_iconst (v := (1 : Int32)) hx hb dL_law_891 (by decide) ?_
  refine lv_iadd hx hb dL_law_892 ?_
  refine lawS X hW (arg_in (j := 1) (by omega) hL) dL_law_893 ?_
  refine lawM X hW [.int (xs (nI i + (1 : Int32)).toNatClampNeg)] (rest := [.int r]) (m_X8_meanings e2) cw_X8_meanings tw_334 tw_591 tw_801 ⟨Nat.le_of_ble_eq_true rfl, Nat.le_of_ble_eq_true rfl⟩ rfl rfl hl.1 (Nat.le_of_ble_eq_true rfl) dL_law_894 ⟨Nat.le_of_ble_eq_true rfl, Nat.le_of_ble_eq_true rfl⟩ (fun H locs hW => ?_)
  refine lv_icmp_eq (tgt := 1520) hx hb dL_law_897 (by decide) (fun _ => ?_) (fun c9 => absurd rfl c9)
  exact kk S' M' H locs e3 hW
set_option maxHeartbeats 4000000 in
set_option maxRecDepth 100000 in
theorem case_22 (X : Lw D cI cP cB cA tL tC p s m meth c b L xs) (hL : L ≤ 384) {i : Nat} (hi : i + 6 ≤ L) {S M : Stt} {H : Heap} {locs : List Loc} {ls : Array Slot} (hR : Rel S M) (hW : Wd D cI cP cB cA s S M H locs) (hl : lv_has ls 4 [(0, .ref b), (1, .ref (aC s.heap.size 0)), (2, .ref (aM s.heap.size 0)), (3, .int (nI i))]) (kk : Nxt p l e s m below meth c D cI cP cB cA b ls) : W p l e room_1 s m #[Value.ref b] below meth c H locs 98 1876 (lw_Z below #[Value.ref b] s) (F0 m 902 ls []) := by
  have hx := X.1.1.1
  have hb := X.1.1.2.1
  obtain ⟨r, S', M', e1, e2, e3⟩ := sim_never  S M hR
  refine lv_aload_n hx hb dL_law_902 rfl (lv_at hl 1 rfl) ?_
  refine lawC X hW [] (rest := []) (m_X7_never e1) cw_X7_never tw_201 tw_473 tw_729 ⟨Nat.le_of_ble_eq_true rfl, Nat.le_of_ble_eq_true rfl⟩ rfl rfl hl.1 (Nat.le_of_ble_eq_true rfl) dL_law_903 ⟨Nat.le_of_ble_eq_true rfl, Nat.le_of_ble_eq_true rfl⟩ (fun H locs hW => ?_)
  refine lv_aload_n hx hb dL_law_906 rfl (lv_at hl 2 rfl) ?_
  refine lawM X hW [] (rest := [.int r]) (m_X8_never e2) cw_X8_never tw_335 tw_592 tw_803 ⟨Nat.le_of_ble_eq_true rfl, Nat.le_of_ble_eq_true rfl⟩ rfl rfl hl.1 (Nat.le_of_ble_eq_true rfl) dL_law_907 ⟨Nat.le_of_ble_eq_true rfl, Nat.le_of_ble_eq_true rfl⟩ (fun H locs hW => ?_)
  refine lv_icmp_eq (tgt := 1520) hx hb dL_law_910 (by decide) (fun _ => ?_) (fun c9 => absurd rfl c9)
  exact kk S' M' H locs e3 hW
set_option maxHeartbeats 4000000 in
set_option maxRecDepth 100000 in
theorem case_23 (X : Lw D cI cP cB cA tL tC p s m meth c b L xs) (hL : L ≤ 384) {i : Nat} (hi : i + 6 ≤ L) {S M : Stt} {H : Heap} {locs : List Loc} {ls : Array Slot} (hR : Rel S M) (hW : Wd D cI cP cB cA s S M H locs) (hl : lv_has ls 4 [(0, .ref b), (1, .ref (aC s.heap.size 0)), (2, .ref (aM s.heap.size 0)), (3, .int (nI i))]) (kk : Nxt p l e s m below meth c D cI cP cB cA b ls) : W p l e room_1 s m #[Value.ref b] below meth c H locs 98 1876 (lw_Z below #[Value.ref b] s) (F0 m 915 ls []) := by
  have hx := X.1.1.1
  have hb := X.1.1.2.1
  obtain ⟨r, S', M', e1, e2, e3⟩ := sim_verdict (xs (nI i + (1 : Int32)).toNatClampNeg) (xs (nI i + (2 : Int32)).toNatClampNeg) S M hR
  refine lv_aload_n hx hb dL_law_915 rfl (lv_at hl 1 rfl) ?_
  refine lv_aload_n hx hb dL_law_916 rfl (lv_at hl 0 rfl) ?_
  refine lv_iload_n hx hb dL_law_917 rfl (lv_at hl 3 rfl) ?_
  refine lv_iconst (v := (1 : Int32)) hx hb dL_law_918 (by decide) ?_
  refine lv_iadd hx hb dL_law_919 ?_
  refine lawS X hW (arg_in (j := 1) (by omega) hL) dL_law_920 ?_
  refine lv_aload_n hx hb dL_law_921 rfl (lv_at hl 0 rfl) ?_
  refine lv_iload_n hx hb dL_law_922 rfl (lv_at hl 3 rfl) ?_
  refine lv_iconst (v := (2 : Int32)) hx hb dL_law_923 (by decide) ?_
  refine lv_iadd hx hb dL_law_924 ?_
  refine lawS X hW (arg_in (j := 2) (by omega) hL) dL_law_925 ?_
  refine lawC X hW [.int (xs (nI i + (1 : Int32)).toNatClampNeg), .int (xs (nI i + (2 : Int32)).toNatClampNeg)] (rest := []) (m_X7_verdict e1) cw_X7_verdict tw_203 tw_475 tw_730 ⟨Nat.le_of_ble_eq_true rfl, Nat.le_of_ble_eq_true rfl⟩ rfl rfl hl.1 (Nat.le_of_ble_eq_true rfl) dL_law_926 ⟨Nat.le_of_ble_eq_true rfl, Nat.le_of_ble_eq_true rfl⟩ (fun H locs hW => ?_)
  refine lv_aload_n hx hb dL_law_929 rfl (lv_at hl 2 rfl) ?_
  refine lv_aload_n hx hb dL_law_930 rfl (lv_at hl 0 rfl) ?_
  refine lv_iload_n hx hb dL_law_931 rfl (lv_at hl 3 rfl) ?_
  refine lv_iconst (v := (1 : Int32)) hx hb dL_law_932 (by decide) ?_
  refine lv_iadd hx hb dL_law_933 ?_
  refine lawS X hW (arg_in (j := 1) (by omega) hL) dL_law_934 ?_
  refine lv_aload_n hx hb dL_law_935 rfl (lv_at hl 0 rfl) ?_
  refine lv_iload_n hx hb dL_law_936 rfl (lv_at hl 3 rfl) ?_
  refine lv_iconst (v := (2 : Int32)) hx hb dL_law_937 (by decide) ?_
  refine lv_iadd hx hb dL_law_938 ?_
  refine lawS X hW (arg_in (j := 2) (by omega) hL) dL_law_939 ?_
  refine lawM X hW [.int (xs (nI i + (1 : Int32)).toNatClampNeg), .int (xs (nI i + (2 : Int32)).toNatClampNeg)] (rest := [.int r]) (m_X8_verdict e2) cw_X8_verdict tw_337 tw_594 tw_808 ⟨Nat.le_of_ble_eq_true rfl, Nat.le_of_ble_eq_true rfl⟩ rfl rfl hl.1 (Nat.le_of_ble_eq_true rfl) dL_law_940 ⟨Nat.le_of_ble_eq_true rfl, Nat.le_of_ble_eq_true rfl⟩ (fun H locs hW => ?_)
  refine lv_icmp_eq (tgt := 1520) hx hb dL_law_943 (by decide) (fun _ => ?_) (fun c9 => absurd rfl c9)
  exact kk S' M' H locs e3 hW
set_option maxHeartbeats 4000000 in
set_option maxRecDepth 100000 in
theorem case_24 (X : Lw D cI cP cB cA tL tC p s m meth c b L xs) (hL : L ≤ 384) {i : Nat} (hi : i + 6 ≤ L) {S M : Stt} {H : Heap} {locs : List Loc} {ls : Array Slot} (hR : Rel S M) (hW : Wd D cI cP cB cA s S M H locs) (hl : lv_has ls 4 [(0, .ref b), (1, .ref (aC s.heap.size 0)), (2, .ref (aM s.heap.size 0)), (3, .int (nI i))]) (kk : Nxt p l e s m below meth c D cI cP cB cA b ls) : W p l e room_1 s m #[Value.ref b] below meth c H locs 98 1876 (lw_Z below #[Value.ref b] s) (F0 m 948 ls []) := by
  have hx := X.1.1.1
  have hb := X.1.1.2.1
  obtain ⟨r, S', M', e1, e2, e3⟩ := sim_judge (xs (nI i + (1 : Int32)).toNatClampNeg) (xs (nI i + (2 : Int32)).toNatClampNeg) (xs (nI i + (3 : Int32)).toNatClampNeg) S M hR
  refine lv_aload_n hx hb dL_law_948 rfl (lv_at hl 1 rfl) ?_
  refine lv_aload_n hx hb dL_law_949 rfl (lv_at hl 0 rfl) ?_
  refine lv_iload_n hx hb dL_law_950 rfl (lv_at hl 3 rfl) ?_
  refine lv_iconst (v := (1 : Int32)) hx hb dL_law_951 (by decide) ?_
  refine lv_iadd hx hb dL_law_952 ?_
  refine lawS X hW (arg_in (j := 1) (by omega) hL) dL_law_953 ?_
  refine lv_aload_n hx hb dL_law_954 rfl (lv_at hl 0 rfl) ?_
  refine lv_iload_n hx hb dL_law_955 rfl (lv_at hl 3 rfl) ?_
  refine lv_iconst (v := (2 : Int32)) hx hb dL_law_956 (by decide) ?_
  refine lv_iadd hx hb dL_law_957 ?_
  refine lawS X hW (arg_in (j := 2) (by omega) hL) dL_law_958 ?_
  refine lv_aload_n hx hb dL_law_959 rfl (lv_at hl 0 rfl) ?_
  refine lv_iload_n hx hb dL_law_960 rfl (lv_at hl 3 rfl) ?_
  refine lv_iconst (v := (3 : Int32)) hx hb dL_law_961 (by decide) ?_
  refine lv_iadd hx hb dL_law_962 ?_
  refine lawS X hW (arg_in (j := 3) (by omega) hL) dL_law_963 ?_
  refine lawC X hW [.int (xs (nI i + (1 : Int32)).toNatClampNeg), .int (xs (nI i + (2 : Int32)).toNatClampNeg), .int (xs (nI i + (3 : Int32)).toNatClampNeg)] (rest := []) (m_X7_judge e1) cw_X7_judge tw_214 tw_483 tw_731 ⟨Nat.le_of_ble_eq_true rfl, Nat.le_of_ble_eq_true rfl⟩ rfl rfl hl.1 (Nat.le_of_ble_eq_true rfl) dL_law_964 ⟨Nat.le_of_ble_eq_true rfl, Nat.le_of_ble_eq_true rfl⟩ (fun H locs hW => ?_)
  refine lv_aload_n hx hb dL_law_967 rfl (lv_at hl 2 rfl) ?_
  refine lv_aload_n hx hb dL_law_968 rfl (lv_at hl 0 rfl) ?_
  refine lv_iload_n hx hb dL_law_969 rfl (lv_at hl 3 rfl) ?_
  refine lv_iconst (v := (1 : Int32)) hx hb dL_law_970 (by decide) ?_
  refine lv_iadd hx hb dL_law_971 ?_
  refine lawS X hW (arg_in (j := 1) (by omega) hL) dL_law_972 ?_
  refine lv_aload_n hx hb dL_law_973 rfl (lv_at hl 0 rfl) ?_
  refine lv_iload_n hx hb dL_law_974 rfl (lv_at hl 3 rfl) ?_
  refine lv_iconst (v := (2 : Int32)) hx hb dL_law_975 (by decide) ?_
  refine lv_iadd hx hb dL_law_976 ?_
  refine lawS X hW (arg_in (j := 2) (by omega) hL) dL_law_977 ?_
  refine lv_aload_n hx hb dL_law_978 rfl (lv_at hl 0 rfl) ?_
  refine lv_iload_n hx hb dL_law_979 rfl (lv_at hl 3 rfl) ?_
  refine lv_iconst (v := (3 : Int32)) hx hb dL_law_980 (by decide) ?_
  refine lv_iadd hx hb dL_law_981 ?_
  refine lawS X hW (arg_in (j := 3) (by omega) hL) dL_law_982 ?_
  refine lawM X hW [.int (xs (nI i + (1 : Int32)).toNatClampNeg), .int (xs (nI i + (2 : Int32)).toNatClampNeg), .int (xs (nI i + (3 : Int32)).toNatClampNeg)] (rest := [.int r]) (m_X8_judge e2) cw_X8_judge tw_344 tw_601 tw_809 ⟨Nat.le_of_ble_eq_true rfl, Nat.le_of_ble_eq_true rfl⟩ rfl rfl hl.1 (Nat.le_of_ble_eq_true rfl) dL_law_983 ⟨Nat.le_of_ble_eq_true rfl, Nat.le_of_ble_eq_true rfl⟩ (fun H locs hW => ?_)
  refine lv_icmp_eq (tgt := 1520) hx hb dL_law_986 (by decide) (fun _ => ?_) (fun c9 => absurd rfl c9)
  exact kk S' M' H locs e3 hW
set_option maxHeartbeats 4000000 in
set_option maxRecDepth 100000 in
theorem case_25 (X : Lw D cI cP cB cA tL tC p s m meth c b L xs) (hL : L ≤ 384) {i : Nat} (hi : i + 6 ≤ L) {S M : Stt} {H : Heap} {locs : List Loc} {ls : Array Slot} (hR : Rel S M) (hW : Wd D cI cP cB cA s S M H locs) (hl : lv_has ls 4 [(0, .ref b), (1, .ref (aC s.heap.size 0)), (2, .ref (aM s.heap.size 0)), (3, .int (nI i))]) (kk : Nxt p l e s m below meth c D cI cP cB cA b ls) : W p l e room_1 s m #[Value.ref b] below meth c H locs 98 1876 (lw_Z below #[Value.ref b] s) (F0 m 991 ls []) := by
  have hx := X.1.1.1
  have hb := X.1.1.2.1
  obtain ⟨r, S', M', e1, e2, e3⟩ := sim_odds (xs (nI i + (1 : Int32)).toNatClampNeg) (xs (nI i + (2 : Int32)).toNatClampNeg) S M hR
  refine lv_aload_n hx hb dL_law_991 rfl (lv_at hl 1 rfl) ?_
  refine lv_aload_n hx hb dL_law_992 rfl (lv_at hl 0 rfl) ?_
  refine lv_iload_n hx hb dL_law_993 rfl (lv_at hl 3 rfl) ?_
  refine lv_iconst (v := (1 : Int32)) hx hb dL_law_994 (by decide) ?_
  refine lv_iadd hx hb dL_law_995 ?_
  refine lawS X hW (arg_in (j := 1) (by omega) hL) dL_law_996 ?_
  refine lv_aload_n hx hb dL_law_997 rfl (lv_at hl 0 rfl) ?_
  refine lv_iload_n hx hb dL_law_998 rfl (lv_at hl 3 rfl) ?_
  refine lv_iconst (v := (2 : Int32)) hx hb dL_law_999 (by decide) ?_
  refine lv_iadd hx hb dL_law_1000 ?_
  refine lawS X hW (arg_in (j := 2) (by omega) hL) dL_law_1001 ?_
  refine lawC X hW [.int (xs (nI i + (1 : Int32)).toNatClampNeg), .int (xs (nI i + (2 : Int32)).toNatClampNeg)] (rest := []) (m_X7_odds e1) cw_X7_odds tw_216 tw_485 tw_732 ⟨Nat.le_of_ble_eq_true rfl, Nat.le_of_ble_eq_true rfl⟩ rfl rfl hl.1 (Nat.le_of_ble_eq_true rfl) dL_law_1002 ⟨Nat.le_of_ble_eq_true rfl, Nat.le_of_ble_eq_true rfl⟩ (fun H locs hW => ?_)
  refine lv_aload_n hx hb dL_law_1005 rfl (lv_at hl 2 rfl) ?_
  refine lv_aload_n hx hb dL_law_1006 rfl (lv_at hl 0 rfl) ?_
  refine lv_iload_n hx hb dL_law_1007 rfl (lv_at hl 3 rfl) ?_
  refine lv_iconst (v := (1 : Int32)) hx hb dL_law_1008 (by decide) ?_
  refine lv_iadd hx hb dL_law_1009 ?_
  refine lawS X hW (arg_in (j := 1) (by omega) hL) dL_law_1010 ?_
  refine lv_aload_n hx hb dL_law_1011 rfl (lv_at hl 0 rfl) ?_
  refine lv_iload_n hx hb dL_law_1012 rfl (lv_at hl 3 rfl) ?_
  refine lv_iconst (v := (2 : Int32)) hx hb dL_law_1013 (by decide) ?_
  refine lv_iadd hx hb dL_law_1014 ?_
  refine lawS X hW (arg_in (j := 2) (by omega) hL) dL_law_1015 ?_
  refine lawM X hW [.int (xs (nI i + (1 : Int32)).toNatClampNeg), .int (xs (nI i + (2 : Int32)).toNatClampNeg)] (rest := [.int r]) (m_X8_odds e2) cw_X8_odds tw_345 tw_602 tw_810 ⟨Nat.le_of_ble_eq_true rfl, Nat.le_of_ble_eq_true rfl⟩ rfl rfl hl.1 (Nat.le_of_ble_eq_true rfl) dL_law_1016 ⟨Nat.le_of_ble_eq_true rfl, Nat.le_of_ble_eq_true rfl⟩ (fun H locs hW => ?_)
  refine lv_icmp_eq (tgt := 1520) hx hb dL_law_1019 (by decide) (fun _ => ?_) (fun c9 => absurd rfl c9)
  exact kk S' M' H locs e3 hW
set_option maxHeartbeats 4000000 in
set_option maxRecDepth 100000 in
theorem case_26 (X : Lw D cI cP cB cA tL tC p s m meth c b L xs) (hL : L ≤ 384) {i : Nat} (hi : i + 6 ≤ L) {S M : Stt} {H : Heap} {locs : List Loc} {ls : Array Slot} (hR : Rel S M) (hW : Wd D cI cP cB cA s S M H locs) (hl : lv_has ls 4 [(0, .ref b), (1, .ref (aC s.heap.size 0)), (2, .ref (aM s.heap.size 0)), (3, .int (nI i))]) (kk : Nxt p l e s m below meth c D cI cP cB cA b ls) : W p l e room_1 s m #[Value.ref b] below meth c H locs 98 1876 (lw_Z below #[Value.ref b] s) (F0 m 1024 ls []) := by
  have hx := X.1.1.1
  have hb := X.1.1.2.1
  obtain ⟨r, S', M', e1, e2, e3⟩ := sim_waits (xs (nI i + (1 : Int32)).toNatClampNeg) S M hR
  refine lv_aload_n hx hb dL_law_1024 rfl (lv_at hl 1 rfl) ?_
  refine lv_aload_n hx hb dL_law_1025 rfl (lv_at hl 0 rfl) ?_
  refine lv_iload_n hx hb dL_law_1026 rfl (lv_at hl 3 rfl) ?_
  refine lv_iconst (v := (1 : Int32)) hx hb dL_law_1027 (by decide) ?_
  refine lv_iadd hx hb dL_law_1028 ?_
  refine lawS X hW (arg_in (j := 1) (by omega) hL) dL_law_1029 ?_
  refine lawC X hW [.int (xs (nI i + (1 : Int32)).toNatClampNeg)] (rest := []) (m_X7_waits e1) cw_X7_waits tw_218 tw_487 tw_733 ⟨Nat.le_of_ble_eq_true rfl, Nat.le_of_ble_eq_true rfl⟩ rfl rfl hl.1 (Nat.le_of_ble_eq_true rfl) dL_law_1030 ⟨Nat.le_of_ble_eq_true rfl, Nat.le_of_ble_eq_true rfl⟩ (fun H locs hW => ?_)
  refine lv_aload_n hx hb dL_law_1033 rfl (lv_at hl 2 rfl) ?_
  refine lv_aload_n hx hb dL_law_1034 rfl (lv_at hl 0 rfl) ?_
  refine lv_iload_n hx hb dL_law_1035 rfl (lv_at hl 3 rfl) ?_
  refine lv_iconst (v := (1 : Int32)) hx hb dL_law_1036 (by decide) ?_
  refine lv_iadd hx hb dL_law_1037 ?_
  refine lawS X hW (arg_in (j := 1) (by omega) hL) dL_law_1038 ?_
  refine lawM X hW [.int (xs (nI i + (1 : Int32)).toNatClampNeg)] (rest := [.int r]) (m_X8_waits e2) cw_X8_waits tw_346 tw_603 tw_812 ⟨Nat.le_of_ble_eq_true rfl, Nat.le_of_ble_eq_true rfl⟩ rfl rfl hl.1 (Nat.le_of_ble_eq_true rfl) dL_law_1039 ⟨Nat.le_of_ble_eq_true rfl, Nat.le_of_ble_eq_true rfl⟩ (fun H locs hW => ?_)
  refine lv_icmp_eq (tgt := 1520) hx hb dL_law_1042 (by decide) (fun _ => ?_) (fun c9 => absurd rfl c9)
  exact kk S' M' H locs e3 hW
set_option maxHeartbeats 4000000 in
set_option maxRecDepth 100000 in
theorem case_27 (X : Lw D cI cP cB cA tL tC p s m meth c b L xs) (hL : L ≤ 384) {i : Nat} (hi : i + 6 ≤ L) {S M : Stt} {H : Heap} {locs : List Loc} {ls : Array Slot} (hR : Rel S M) (hW : Wd D cI cP cB cA s S M H locs) (hl : lv_has ls 4 [(0, .ref b), (1, .ref (aC s.heap.size 0)), (2, .ref (aM s.heap.size 0)), (3, .int (nI i))]) (kk : Nxt p l e s m below meth c D cI cP cB cA b ls) : W p l e room_1 s m #[Value.ref b] below meth c H locs 98 1876 (lw_Z below #[Value.ref b] s) (F0 m 1047 ls []) := by
  have hx := X.1.1.1
  have hb := X.1.1.2.1
  obtain ⟨r, S', M', e1, e2, e3⟩ := sim_all  S M hR
  refine lv_aload_n hx hb dL_law_1047 rfl (lv_at hl 1 rfl) ?_
  refine lawC X hW [] (rest := []) (m_X7_all e1) cw_X7_all tw_220 tw_489 tw_734 ⟨Nat.le_of_ble_eq_true rfl, Nat.le_of_ble_eq_true rfl⟩ rfl rfl hl.1 (Nat.le_of_ble_eq_true rfl) dL_law_1048 ⟨Nat.le_of_ble_eq_true rfl, Nat.le_of_ble_eq_true rfl⟩ (fun H locs hW => ?_)
  refine lv_aload_n hx hb dL_law_1051 rfl (lv_at hl 2 rfl) ?_
  refine lawM X hW [] (rest := [.int r]) (m_X8_all e2) cw_X8_all tw_348 tw_605 tw_814 ⟨Nat.le_of_ble_eq_true rfl, Nat.le_of_ble_eq_true rfl⟩ rfl rfl hl.1 (Nat.le_of_ble_eq_true rfl) dL_law_1052 ⟨Nat.le_of_ble_eq_true rfl, Nat.le_of_ble_eq_true rfl⟩ (fun H locs hW => ?_)
  refine lv_icmp_eq (tgt := 1520) hx hb dL_law_1055 (by decide) (fun _ => ?_) (fun c9 => absurd rfl c9)
  exact kk S' M' H locs e3 hW
set_option maxHeartbeats 4000000 in
set_option maxRecDepth 100000 in
theorem case_28 (X : Lw D cI cP cB cA tL tC p s m meth c b L xs) (hL : L ≤ 384) {i : Nat} (hi : i + 6 ≤ L) {S M : Stt} {H : Heap} {locs : List Loc} {ls : Array Slot} (hR : Rel S M) (hW : Wd D cI cP cB cA s S M H locs) (hl : lv_has ls 4 [(0, .ref b), (1, .ref (aC s.heap.size 0)), (2, .ref (aM s.heap.size 0)), (3, .int (nI i))]) (kk : Nxt p l e s m below meth c D cI cP cB cA b ls) : W p l e room_1 s m #[Value.ref b] below meth c H locs 98 1876 (lw_Z below #[Value.ref b] s) (F0 m 1060 ls []) := by
  have hx := X.1.1.1
  have hb := X.1.1.2.1
  obtain ⟨r, S', M', e1, e2, e3⟩ := sim_free (xs (nI i + (1 : Int32)).toNatClampNeg) (xs (nI i + (2 : Int32)).toNatClampNeg) S M hR
  refine lv_aload_n hx hb dL_law_1060 rfl (lv_at hl 1 rfl) ?_
  refine lv_aload_n hx hb dL_law_1061 rfl (lv_at hl 0 rfl) ?_
  refine lv_iload_n hx hb dL_law_1062 rfl (lv_at hl 3 rfl) ?_
  refine lv_iconst (v := (1 : Int32)) hx hb dL_law_1063 (by decide) ?_
  refine lv_iadd hx hb dL_law_1064 ?_
  refine lawS X hW (arg_in (j := 1) (by omega) hL) dL_law_1065 ?_
  refine lv_aload_n hx hb dL_law_1066 rfl (lv_at hl 0 rfl) ?_
  refine lv_iload_n hx hb dL_law_1067 rfl (lv_at hl 3 rfl) ?_
  refine lv_iconst (v := (2 : Int32)) hx hb dL_law_1068 (by decide) ?_
  refine lv_iadd hx hb dL_law_1069 ?_
  refine lawS X hW (arg_in (j := 2) (by omega) hL) dL_law_1070 ?_
  refine lawC X hW [.int (xs (nI i + (1 : Int32)).toNatClampNeg), .int (xs (nI i + (2 : Int32)).toNatClampNeg)] (rest := []) (m_X7_free e1) cw_X7_free tw_225 tw_491 tw_735 ⟨Nat.le_of_ble_eq_true rfl, Nat.le_of_ble_eq_true rfl⟩ rfl rfl hl.1 (Nat.le_of_ble_eq_true rfl) dL_law_1071 ⟨Nat.le_of_ble_eq_true rfl, Nat.le_of_ble_eq_true rfl⟩ (fun H locs hW => ?_)
  refine lv_aload_n hx hb dL_law_1074 rfl (lv_at hl 2 rfl) ?_
  refine lv_aload_n hx hb dL_law_1075 rfl (lv_at hl 0 rfl) ?_
  refine lv_iload_n hx hb dL_law_1076 rfl (lv_at hl 3 rfl) ?_
  refine lv_iconst (v := (1 : Int32)) hx hb dL_law_1077 (by decide) ?_
  refine lv_iadd hx hb dL_law_1078 ?_
  refine lawS X hW (arg_in (j := 1) (by omega) hL) dL_law_1079 ?_
  refine lv_aload_n hx hb dL_law_1080 rfl (lv_at hl 0 rfl) ?_
  refine lv_iload_n hx hb dL_law_1081 rfl (lv_at hl 3 rfl) ?_
  refine lv_iconst (v := (2 : Int32)) hx hb dL_law_1082 (by decide) ?_
  refine lv_iadd hx hb dL_law_1083 ?_
  refine lawS X hW (arg_in (j := 2) (by omega) hL) dL_law_1084 ?_
  refine lawM X hW [.int (xs (nI i + (1 : Int32)).toNatClampNeg), .int (xs (nI i + (2 : Int32)).toNatClampNeg)] (rest := [.int r]) (m_X8_free e2) cw_X8_free tw_350 tw_607 tw_816 ⟨Nat.le_of_ble_eq_true rfl, Nat.le_of_ble_eq_true rfl⟩ rfl rfl hl.1 (Nat.le_of_ble_eq_true rfl) dL_law_1085 ⟨Nat.le_of_ble_eq_true rfl, Nat.le_of_ble_eq_true rfl⟩ (fun H locs hW => ?_)
  refine lv_icmp_eq (tgt := 1520) hx hb dL_law_1088 (by decide) (fun _ => ?_) (fun c9 => absurd rfl c9)
  exact kk S' M' H locs e3 hW
set_option maxHeartbeats 4000000 in
set_option maxRecDepth 100000 in
theorem case_29 (X : Lw D cI cP cB cA tL tC p s m meth c b L xs) (hL : L ≤ 384) {i : Nat} (hi : i + 6 ≤ L) {S M : Stt} {H : Heap} {locs : List Loc} {ls : Array Slot} (hR : Rel S M) (hW : Wd D cI cP cB cA s S M H locs) (hl : lv_has ls 4 [(0, .ref b), (1, .ref (aC s.heap.size 0)), (2, .ref (aM s.heap.size 0)), (3, .int (nI i))]) (kk : Nxt p l e s m below meth c D cI cP cB cA b ls) : W p l e room_1 s m #[Value.ref b] below meth c H locs 98 1876 (lw_Z below #[Value.ref b] s) (F0 m 1093 ls []) := by
  have hx := X.1.1.1
  have hb := X.1.1.2.1
  obtain ⟨r, S', M', e1, e2, e3⟩ := sim_deeds (xs (nI i + (1 : Int32)).toNatClampNeg) (xs (nI i + (2 : Int32)).toNatClampNeg) S M hR
  refine lv_aload_n hx hb dL_law_1093 rfl (lv_at hl 1 rfl) ?_
  refine lv_aload_n hx hb dL_law_1094 rfl (lv_at hl 0 rfl) ?_
  refine lv_iload_n hx hb dL_law_1095 rfl (lv_at hl 3 rfl) ?_
  refine lv_iconst (v := (1 : Int32)) hx hb dL_law_1096 (by decide) ?_
  refine lv_iadd hx hb dL_law_1097 ?_
  refine lawS X hW (arg_in (j := 1) (by omega) hL) dL_law_1098 ?_
  refine lv_aload_n hx hb dL_law_1099 rfl (lv_at hl 0 rfl) ?_
  refine lv_iload_n hx hb dL_law_1100 rfl (lv_at hl 3 rfl) ?_
  refine lv_iconst (v := (2 : Int32)) hx hb dL_law_1101 (by decide) ?_
  refine lv_iadd hx hb dL_law_1102 ?_
  refine lawS X hW (arg_in (j := 2) (by omega) hL) dL_law_1103 ?_
  refine lawC X hW [.int (xs (nI i + (1 : Int32)).toNatClampNeg), .int (xs (nI i + (2 : Int32)).toNatClampNeg)] (rest := []) (m_X7_deeds e1) cw_X7_deeds tw_226 tw_492 tw_736 ⟨Nat.le_of_ble_eq_true rfl, Nat.le_of_ble_eq_true rfl⟩ rfl rfl hl.1 (Nat.le_of_ble_eq_true rfl) dL_law_1104 ⟨Nat.le_of_ble_eq_true rfl, Nat.le_of_ble_eq_true rfl⟩ (fun H locs hW => ?_)
  refine lv_aload_n hx hb dL_law_1107 rfl (lv_at hl 2 rfl) ?_
  refine lv_aload_n hx hb dL_law_1108 rfl (lv_at hl 0 rfl) ?_
  refine lv_iload_n hx hb dL_law_1109 rfl (lv_at hl 3 rfl) ?_
  refine lv_iconst (v := (1 : Int32)) hx hb dL_law_1110 (by decide) ?_
  refine lv_iadd hx hb dL_law_1111 ?_
  refine lawS X hW (arg_in (j := 1) (by omega) hL) dL_law_1112 ?_
  refine lv_aload_n hx hb dL_law_1113 rfl (lv_at hl 0 rfl) ?_
  refine lv_iload_n hx hb dL_law_1114 rfl (lv_at hl 3 rfl) ?_
  refine lv_iconst (v := (2 : Int32)) hx hb dL_law_1115 (by decide) ?_
  refine lv_iadd hx hb dL_law_1116 ?_
  refine lawS X hW (arg_in (j := 2) (by omega) hL) dL_law_1117 ?_
  refine lawM X hW [.int (xs (nI i + (1 : Int32)).toNatClampNeg), .int (xs (nI i + (2 : Int32)).toNatClampNeg)] (rest := [.int r]) (m_X8_deeds e2) cw_X8_deeds tw_352 tw_609 tw_819 ⟨Nat.le_of_ble_eq_true rfl, Nat.le_of_ble_eq_true rfl⟩ rfl rfl hl.1 (Nat.le_of_ble_eq_true rfl) dL_law_1118 ⟨Nat.le_of_ble_eq_true rfl, Nat.le_of_ble_eq_true rfl⟩ (fun H locs hW => ?_)
  refine lv_icmp_eq (tgt := 1520) hx hb dL_law_1121 (by decide) (fun _ => ?_) (fun c9 => absurd rfl c9)
  exact kk S' M' H locs e3 hW
set_option maxHeartbeats 4000000 in
set_option maxRecDepth 100000 in
theorem case_30 (X : Lw D cI cP cB cA tL tC p s m meth c b L xs) (hL : L ≤ 384) {i : Nat} (hi : i + 6 ≤ L) {S M : Stt} {H : Heap} {locs : List Loc} {ls : Array Slot} (hR : Rel S M) (hW : Wd D cI cP cB cA s S M H locs) (hl : lv_has ls 4 [(0, .ref b), (1, .ref (aC s.heap.size 0)), (2, .ref (aM s.heap.size 0)), (3, .int (nI i))]) (kk : Nxt p l e s m below meth c D cI cP cB cA b ls) : W p l e room_1 s m #[Value.ref b] below meth c H locs 98 1876 (lw_Z below #[Value.ref b] s) (F0 m 1126 ls []) := by
  have hx := X.1.1.1
  have hb := X.1.1.2.1
  obtain ⟨r, S', M', e1, e2, e3⟩ := sim_order (xs (nI i + (1 : Int32)).toNatClampNeg) (xs (nI i + (2 : Int32)).toNatClampNeg) S M hR
  refine lv_aload_n hx hb dL_law_1126 rfl (lv_at hl 1 rfl) ?_
  refine lv_aload_n hx hb dL_law_1127 rfl (lv_at hl 0 rfl) ?_
  refine lv_iload_n hx hb dL_law_1128 rfl (lv_at hl 3 rfl) ?_
  refine lv_iconst (v := (1 : Int32)) hx hb dL_law_1129 (by decide) ?_
  refine lv_iadd hx hb dL_law_1130 ?_
  refine lawS X hW (arg_in (j := 1) (by omega) hL) dL_law_1131 ?_
  refine lv_aload_n hx hb dL_law_1132 rfl (lv_at hl 0 rfl) ?_
  refine lv_iload_n hx hb dL_law_1133 rfl (lv_at hl 3 rfl) ?_
  refine lv_iconst (v := (2 : Int32)) hx hb dL_law_1134 (by decide) ?_
  refine lv_iadd hx hb dL_law_1135 ?_
  refine lawS X hW (arg_in (j := 2) (by omega) hL) dL_law_1136 ?_
  refine lawC X hW [.int (xs (nI i + (1 : Int32)).toNatClampNeg), .int (xs (nI i + (2 : Int32)).toNatClampNeg)] (rest := []) (m_X7_order e1) cw_X7_order tw_239 tw_499 tw_737 ⟨Nat.le_of_ble_eq_true rfl, Nat.le_of_ble_eq_true rfl⟩ rfl rfl hl.1 (Nat.le_of_ble_eq_true rfl) dL_law_1137 ⟨Nat.le_of_ble_eq_true rfl, Nat.le_of_ble_eq_true rfl⟩ (fun H locs hW => ?_)
  refine lv_aload_n hx hb dL_law_1140 rfl (lv_at hl 2 rfl) ?_
  refine lv_aload_n hx hb dL_law_1141 rfl (lv_at hl 0 rfl) ?_
  refine lv_iload_n hx hb dL_law_1142 rfl (lv_at hl 3 rfl) ?_
  refine lv_iconst (v := (1 : Int32)) hx hb dL_law_1143 (by decide) ?_
  refine lv_iadd hx hb dL_law_1144 ?_
  refine lawS X hW (arg_in (j := 1) (by omega) hL) dL_law_1145 ?_
  refine lv_aload_n hx hb dL_law_1146 rfl (lv_at hl 0 rfl) ?_
  refine lv_iload_n hx hb dL_law_1147 rfl (lv_at hl 3 rfl) ?_
  refine lv_iconst (v := (2 : Int32)) hx hb dL_law_1148 (by decide) ?_
  refine lv_iadd hx hb dL_law_1149 ?_
  refine lawS X hW (arg_in (j := 2) (by omega) hL) dL_law_1150 ?_
  refine lawM X hW [.int (xs (nI i + (1 : Int32)).toNatClampNeg), .int (xs (nI i + (2 : Int32)).toNatClampNeg)] (rest := [.int r]) (m_X8_order e2) cw_X8_order tw_356 tw_612 tw_821 ⟨Nat.le_of_ble_eq_true rfl, Nat.le_of_ble_eq_true rfl⟩ rfl rfl hl.1 (Nat.le_of_ble_eq_true rfl) dL_law_1151 ⟨Nat.le_of_ble_eq_true rfl, Nat.le_of_ble_eq_true rfl⟩ (fun H locs hW => ?_)
  refine lv_icmp_eq (tgt := 1520) hx hb dL_law_1154 (by decide) (fun _ => ?_) (fun c9 => absurd rfl c9)
  exact kk S' M' H locs e3 hW
set_option maxHeartbeats 4000000 in
set_option maxRecDepth 100000 in
theorem case_31 (X : Lw D cI cP cB cA tL tC p s m meth c b L xs) (hL : L ≤ 384) {i : Nat} (hi : i + 6 ≤ L) {S M : Stt} {H : Heap} {locs : List Loc} {ls : Array Slot} (hR : Rel S M) (hW : Wd D cI cP cB cA s S M H locs) (hl : lv_has ls 4 [(0, .ref b), (1, .ref (aC s.heap.size 0)), (2, .ref (aM s.heap.size 0)), (3, .int (nI i))]) (kk : Nxt p l e s m below meth c D cI cP cB cA b ls) : W p l e room_1 s m #[Value.ref b] below meth c H locs 98 1876 (lw_Z below #[Value.ref b] s) (F0 m 1159 ls []) := by
  have hx := X.1.1.1
  have hb := X.1.1.2.1
  obtain ⟨r, S', M', e1, e2, e3⟩ := sim_flips (xs (nI i + (1 : Int32)).toNatClampNeg) S M hR
  refine lv_aload_n hx hb dL_law_1159 rfl (lv_at hl 1 rfl) ?_
  refine lv_aload_n hx hb dL_law_1160 rfl (lv_at hl 0 rfl) ?_
  refine lv_iload_n hx hb dL_law_1161 rfl (lv_at hl 3 rfl) ?_
  refine lv_iconst (v := (1 : Int32)) hx hb dL_law_1162 (by decide) ?_
  refine lv_iadd hx hb dL_law_1163 ?_
  refine lawS X hW (arg_in (j := 1) (by omega) hL) dL_law_1164 ?_
  refine lawC X hW [.int (xs (nI i + (1 : Int32)).toNatClampNeg)] (rest := []) (m_X7_flips e1) cw_X7_flips tw_244 tw_503 tw_738 ⟨Nat.le_of_ble_eq_true rfl, Nat.le_of_ble_eq_true rfl⟩ rfl rfl hl.1 (Nat.le_of_ble_eq_true rfl) dL_law_1165 ⟨Nat.le_of_ble_eq_true rfl, Nat.le_of_ble_eq_true rfl⟩ (fun H locs hW => ?_)
  refine lv_aload_n hx hb dL_law_1168 rfl (lv_at hl 2 rfl) ?_
  refine lv_aload_n hx hb dL_law_1169 rfl (lv_at hl 0 rfl) ?_
  refine lv_iload_n hx hb dL_law_1170 rfl (lv_at hl 3 rfl) ?_
  refine lv_iconst (v := (1 : Int32)) hx hb dL_law_1171 (by decide) ?_
  refine lv_iadd hx hb dL_law_1172 ?_
  refine lawS X hW (arg_in (j := 1) (by omega) hL) dL_law_1173 ?_
  refine lawM X hW [.int (xs (nI i + (1 : Int32)).toNatClampNeg)] (rest := [.int r]) (m_X8_flips e2) cw_X8_flips tw_358 tw_615 tw_823 ⟨Nat.le_of_ble_eq_true rfl, Nat.le_of_ble_eq_true rfl⟩ rfl rfl hl.1 (Nat.le_of_ble_eq_true rfl) dL_law_1174 ⟨Nat.le_of_ble_eq_true rfl, Nat.le_of_ble_eq_true rfl⟩ (fun H locs hW => ?_)
  refine lv_icmp_eq (tgt := 1520) hx hb dL_law_1177 (by decide) (fun _ => ?_) (fun c9 => absurd rfl c9)
  exact kk S' M' H locs e3 hW
set_option maxHeartbeats 4000000 in
set_option maxRecDepth 100000 in
theorem case_32 (X : Lw D cI cP cB cA tL tC p s m meth c b L xs) (hL : L ≤ 384) {i : Nat} (hi : i + 6 ≤ L) {S M : Stt} {H : Heap} {locs : List Loc} {ls : Array Slot} (hR : Rel S M) (hW : Wd D cI cP cB cA s S M H locs) (hl : lv_has ls 4 [(0, .ref b), (1, .ref (aC s.heap.size 0)), (2, .ref (aM s.heap.size 0)), (3, .int (nI i))]) (kk : Nxt p l e s m below meth c D cI cP cB cA b ls) : W p l e room_1 s m #[Value.ref b] below meth c H locs 98 1876 (lw_Z below #[Value.ref b] s) (F0 m 1182 ls []) := by
  have hx := X.1.1.1
  have hb := X.1.1.2.1
  obtain ⟨r, S', M', e1, e2, e3⟩ := sim_flip (xs (nI i + (1 : Int32)).toNatClampNeg) (xs (nI i + (2 : Int32)).toNatClampNeg) S M hR
  refine lv_aload_n hx hb dL_law_1182 rfl (lv_at hl 1 rfl) ?_
  refine lv_aload_n hx hb dL_law_1183 rfl (lv_at hl 0 rfl) ?_
  refine lv_iload_n hx hb dL_law_1184 rfl (lv_at hl 3 rfl) ?_
  refine lv_iconst (v := (1 : Int32)) hx hb dL_law_1185 (by decide) ?_
  refine lv_iadd hx hb dL_law_1186 ?_
  refine lawS X hW (arg_in (j := 1) (by omega) hL) dL_law_1187 ?_
  refine lv_aload_n hx hb dL_law_1188 rfl (lv_at hl 0 rfl) ?_
  refine lv_iload_n hx hb dL_law_1189 rfl (lv_at hl 3 rfl) ?_
  refine lv_iconst (v := (2 : Int32)) hx hb dL_law_1190 (by decide) ?_
  refine lv_iadd hx hb dL_law_1191 ?_
  refine lawS X hW (arg_in (j := 2) (by omega) hL) dL_law_1192 ?_
  refine lawC X hW [.int (xs (nI i + (1 : Int32)).toNatClampNeg), .int (xs (nI i + (2 : Int32)).toNatClampNeg)] (rest := []) (m_X7_flip e1) cw_X7_flip tw_247 tw_506 tw_739 ⟨Nat.le_of_ble_eq_true rfl, Nat.le_of_ble_eq_true rfl⟩ rfl rfl hl.1 (Nat.le_of_ble_eq_true rfl) dL_law_1193 ⟨Nat.le_of_ble_eq_true rfl, Nat.le_of_ble_eq_true rfl⟩ (fun H locs hW => ?_)
  refine lv_aload_n hx hb dL_law_1196 rfl (lv_at hl 2 rfl) ?_
  refine lv_aload_n hx hb dL_law_1197 rfl (lv_at hl 0 rfl) ?_
  refine lv_iload_n hx hb dL_law_1198 rfl (lv_at hl 3 rfl) ?_
  refine lv_iconst (v := (1 : Int32)) hx hb dL_law_1199 (by decide) ?_
  refine lv_iadd hx hb dL_law_1200 ?_
  refine lawS X hW (arg_in (j := 1) (by omega) hL) dL_law_1201 ?_
  refine lv_aload_n hx hb dL_law_1202 rfl (lv_at hl 0 rfl) ?_
  refine lv_iload_n hx hb dL_law_1203 rfl (lv_at hl 3 rfl) ?_
  refine lv_iconst (v := (2 : Int32)) hx hb dL_law_1204 (by decide) ?_
  refine lv_iadd hx hb dL_law_1205 ?_
  refine lawS X hW (arg_in (j := 2) (by omega) hL) dL_law_1206 ?_
  refine lawM X hW [.int (xs (nI i + (1 : Int32)).toNatClampNeg), .int (xs (nI i + (2 : Int32)).toNatClampNeg)] (rest := [.int r]) (m_X8_flip e2) cw_X8_flip tw_360 tw_617 tw_824 ⟨Nat.le_of_ble_eq_true rfl, Nat.le_of_ble_eq_true rfl⟩ rfl rfl hl.1 (Nat.le_of_ble_eq_true rfl) dL_law_1207 ⟨Nat.le_of_ble_eq_true rfl, Nat.le_of_ble_eq_true rfl⟩ (fun H locs hW => ?_)
  refine lv_icmp_eq (tgt := 1520) hx hb dL_law_1210 (by decide) (fun _ => ?_) (fun c9 => absurd rfl c9)
  exact kk S' M' H locs e3 hW
set_option maxHeartbeats 4000000 in
set_option maxRecDepth 100000 in
theorem case_33 (X : Lw D cI cP cB cA tL tC p s m meth c b L xs) (hL : L ≤ 384) {i : Nat} (hi : i + 6 ≤ L) {S M : Stt} {H : Heap} {locs : List Loc} {ls : Array Slot} (hR : Rel S M) (hW : Wd D cI cP cB cA s S M H locs) (hl : lv_has ls 4 [(0, .ref b), (1, .ref (aC s.heap.size 0)), (2, .ref (aM s.heap.size 0)), (3, .int (nI i))]) (kk : Nxt p l e s m below meth c D cI cP cB cA b ls) : W p l e room_1 s m #[Value.ref b] below meth c H locs 98 1876 (lw_Z below #[Value.ref b] s) (F0 m 1215 ls []) := by
  have hx := X.1.1.1
  have hb := X.1.1.2.1
  obtain ⟨r, S', M', e1, e2, e3⟩ := sim_most  S M hR
  refine lv_aload_n hx hb dL_law_1215 rfl (lv_at hl 1 rfl) ?_
  refine lawC X hW [] (rest := []) (m_X7_most e1) cw_X7_most tw_249 tw_508 tw_740 ⟨Nat.le_of_ble_eq_true rfl, Nat.le_of_ble_eq_true rfl⟩ rfl rfl hl.1 (Nat.le_of_ble_eq_true rfl) dL_law_1216 ⟨Nat.le_of_ble_eq_true rfl, Nat.le_of_ble_eq_true rfl⟩ (fun H locs hW => ?_)
  refine lv_aload_n hx hb dL_law_1219 rfl (lv_at hl 2 rfl) ?_
  refine lawM X hW [] (rest := [.int r]) (m_X8_most e2) cw_X8_most tw_361 tw_618 tw_825 ⟨Nat.le_of_ble_eq_true rfl, Nat.le_of_ble_eq_true rfl⟩ rfl rfl hl.1 (Nat.le_of_ble_eq_true rfl) dL_law_1220 ⟨Nat.le_of_ble_eq_true rfl, Nat.le_of_ble_eq_true rfl⟩ (fun H locs hW => ?_)
  refine lv_icmp_eq (tgt := 1520) hx hb dL_law_1223 (by decide) (fun _ => ?_) (fun c9 => absurd rfl c9)
  exact kk S' M' H locs e3 hW
set_option maxHeartbeats 4000000 in
set_option maxRecDepth 100000 in
theorem case_34 (X : Lw D cI cP cB cA tL tC p s m meth c b L xs) (hL : L ≤ 384) {i : Nat} (hi : i + 6 ≤ L) {S M : Stt} {H : Heap} {locs : List Loc} {ls : Array Slot} (hR : Rel S M) (hW : Wd D cI cP cB cA s S M H locs) (hl : lv_has ls 4 [(0, .ref b), (1, .ref (aC s.heap.size 0)), (2, .ref (aM s.heap.size 0)), (3, .int (nI i))]) (kk : Nxt p l e s m below meth c D cI cP cB cA b ls) : W p l e room_1 s m #[Value.ref b] below meth c H locs 98 1876 (lw_Z below #[Value.ref b] s) (F0 m 1228 ls []) := by
  have hx := X.1.1.1
  have hb := X.1.1.2.1
  obtain ⟨r, S', M', e1, e2, e3⟩ := sim_matter (xs (nI i + (1 : Int32)).toNatClampNeg) (xs (nI i + (2 : Int32)).toNatClampNeg) S M hR
  refine lv_aload_n hx hb dL_law_1228 rfl (lv_at hl 1 rfl) ?_
  refine lv_aload_n hx hb dL_law_1229 rfl (lv_at hl 0 rfl) ?_
  refine lv_iload_n hx hb dL_law_1230 rfl (lv_at hl 3 rfl) ?_
  refine lv_iconst (v := (1 : Int32)) hx hb dL_law_1231 (by decide) ?_
  refine lv_iadd hx hb dL_law_1232 ?_
  refine lawS X hW (arg_in (j := 1) (by omega) hL) dL_law_1233 ?_
  refine lv_aload_n hx hb dL_law_1234 rfl (lv_at hl 0 rfl) ?_
  refine lv_iload_n hx hb dL_law_1235 rfl (lv_at hl 3 rfl) ?_
  refine lv_iconst (v := (2 : Int32)) hx hb dL_law_1236 (by decide) ?_
  refine lv_iadd hx hb dL_law_1237 ?_
  refine lawS X hW (arg_in (j := 2) (by omega) hL) dL_law_1238 ?_
  refine lawC X hW [.int (xs (nI i + (1 : Int32)).toNatClampNeg), .int (xs (nI i + (2 : Int32)).toNatClampNeg)] (rest := []) (m_X7_matter e1) cw_X7_matter tw_250 tw_509 tw_741 ⟨Nat.le_of_ble_eq_true rfl, Nat.le_of_ble_eq_true rfl⟩ rfl rfl hl.1 (Nat.le_of_ble_eq_true rfl) dL_law_1239 ⟨Nat.le_of_ble_eq_true rfl, Nat.le_of_ble_eq_true rfl⟩ (fun H locs hW => ?_)
  refine lv_aload_n hx hb dL_law_1242 rfl (lv_at hl 2 rfl) ?_
  refine lv_aload_n hx hb dL_law_1243 rfl (lv_at hl 0 rfl) ?_
  refine lv_iload_n hx hb dL_law_1244 rfl (lv_at hl 3 rfl) ?_
  refine lv_iconst (v := (1 : Int32)) hx hb dL_law_1245 (by decide) ?_
  refine lv_iadd hx hb dL_law_1246 ?_
  refine lawS X hW (arg_in (j := 1) (by omega) hL) dL_law_1247 ?_
  refine lv_aload_n hx hb dL_law_1248 rfl (lv_at hl 0 rfl) ?_
  refine lv_iload_n hx hb dL_law_1249 rfl (lv_at hl 3 rfl) ?_
  refine lv_iconst (v := (2 : Int32)) hx hb dL_law_1250 (by decide) ?_
  refine lv_iadd hx hb dL_law_1251 ?_
  refine lawS X hW (arg_in (j := 2) (by omega) hL) dL_law_1252 ?_
  refine lawM X hW [.int (xs (nI i + (1 : Int32)).toNatClampNeg), .int (xs (nI i + (2 : Int32)).toNatClampNeg)] (rest := [.int r]) (m_X8_matter e2) cw_X8_matter tw_362 tw_619 tw_826 ⟨Nat.le_of_ble_eq_true rfl, Nat.le_of_ble_eq_true rfl⟩ rfl rfl hl.1 (Nat.le_of_ble_eq_true rfl) dL_law_1253 ⟨Nat.le_of_ble_eq_true rfl, Nat.le_of_ble_eq_true rfl⟩ (fun H locs hW => ?_)
  refine lv_icmp_eq (tgt := 1520) hx hb dL_law_1256 (by decide) (fun _ => ?_) (fun c9 => absurd rfl c9)
  exact kk S' M' H locs e3 hW
set_option maxHeartbeats 4000000 in
set_option maxRecDepth 100000 in
theorem case_35 (X : Lw D cI cP cB cA tL tC p s m meth c b L xs) (hL : L ≤ 384) {i : Nat} (hi : i + 6 ≤ L) {S M : Stt} {H : Heap} {locs : List Loc} {ls : Array Slot} (hR : Rel S M) (hW : Wd D cI cP cB cA s S M H locs) (hl : lv_has ls 4 [(0, .ref b), (1, .ref (aC s.heap.size 0)), (2, .ref (aM s.heap.size 0)), (3, .int (nI i))]) (kk : Nxt p l e s m below meth c D cI cP cB cA b ls) : W p l e room_1 s m #[Value.ref b] below meth c H locs 98 1876 (lw_Z below #[Value.ref b] s) (F0 m 1261 ls []) := by
  have hx := X.1.1.1
  have hb := X.1.1.2.1
  obtain ⟨r, S', M', e1, e2, e3⟩ := sim_best (xs (nI i + (1 : Int32)).toNatClampNeg) S M hR
  refine lv_aload_n hx hb dL_law_1261 rfl (lv_at hl 1 rfl) ?_
  refine lv_aload_n hx hb dL_law_1262 rfl (lv_at hl 0 rfl) ?_
  refine lv_iload_n hx hb dL_law_1263 rfl (lv_at hl 3 rfl) ?_
  refine lv_iconst (v := (1 : Int32)) hx hb dL_law_1264 (by decide) ?_
  refine lv_iadd hx hb dL_law_1265 ?_
  refine lawS X hW (arg_in (j := 1) (by omega) hL) dL_law_1266 ?_
  refine lawC X hW [.int (xs (nI i + (1 : Int32)).toNatClampNeg)] (rest := []) (m_X7_best e1) cw_X7_best tw_253 tw_512 tw_742 ⟨Nat.le_of_ble_eq_true rfl, Nat.le_of_ble_eq_true rfl⟩ rfl rfl hl.1 (Nat.le_of_ble_eq_true rfl) dL_law_1267 ⟨Nat.le_of_ble_eq_true rfl, Nat.le_of_ble_eq_true rfl⟩ (fun H locs hW => ?_)
  refine lv_aload_n hx hb dL_law_1270 rfl (lv_at hl 2 rfl) ?_
  refine lv_aload_n hx hb dL_law_1271 rfl (lv_at hl 0 rfl) ?_
  refine lv_iload_n hx hb dL_law_1272 rfl (lv_at hl 3 rfl) ?_
  refine lv_iconst (v := (1 : Int32)) hx hb dL_law_1273 (by decide) ?_
  refine lv_iadd hx hb dL_law_1274 ?_
  refine lawS X hW (arg_in (j := 1) (by omega) hL) dL_law_1275 ?_
  refine lawM X hW [.int (xs (nI i + (1 : Int32)).toNatClampNeg)] (rest := [.int r]) (m_X8_best e2) cw_X8_best tw_363 tw_620 tw_830 ⟨Nat.le_of_ble_eq_true rfl, Nat.le_of_ble_eq_true rfl⟩ rfl rfl hl.1 (Nat.le_of_ble_eq_true rfl) dL_law_1276 ⟨Nat.le_of_ble_eq_true rfl, Nat.le_of_ble_eq_true rfl⟩ (fun H locs hW => ?_)
  refine lv_icmp_eq (tgt := 1520) hx hb dL_law_1279 (by decide) (fun _ => ?_) (fun c9 => absurd rfl c9)
  exact kk S' M' H locs e3 hW
set_option maxHeartbeats 4000000 in
set_option maxRecDepth 100000 in
theorem case_36 (X : Lw D cI cP cB cA tL tC p s m meth c b L xs) (hL : L ≤ 384) {i : Nat} (hi : i + 6 ≤ L) {S M : Stt} {H : Heap} {locs : List Loc} {ls : Array Slot} (hR : Rel S M) (hW : Wd D cI cP cB cA s S M H locs) (hl : lv_has ls 4 [(0, .ref b), (1, .ref (aC s.heap.size 0)), (2, .ref (aM s.heap.size 0)), (3, .int (nI i))]) (kk : Nxt p l e s m below meth c D cI cP cB cA b ls) : W p l e room_1 s m #[Value.ref b] below meth c H locs 98 1876 (lw_Z below #[Value.ref b] s) (F0 m 1284 ls []) := by
  have hx := X.1.1.1
  have hb := X.1.1.2.1
  obtain ⟨r, S', M', e1, e2, e3⟩ := sim_front  S M hR
  refine lv_aload_n hx hb dL_law_1284 rfl (lv_at hl 1 rfl) ?_
  refine lawC X hW [] (rest := []) (m_X7_front e1) cw_X7_front tw_261 tw_516 tw_743 ⟨Nat.le_of_ble_eq_true rfl, Nat.le_of_ble_eq_true rfl⟩ rfl rfl hl.1 (Nat.le_of_ble_eq_true rfl) dL_law_1285 ⟨Nat.le_of_ble_eq_true rfl, Nat.le_of_ble_eq_true rfl⟩ (fun H locs hW => ?_)
  refine lv_aload_n hx hb dL_law_1288 rfl (lv_at hl 2 rfl) ?_
  refine lawM X hW [] (rest := [.int r]) (m_X8_front e2) cw_X8_front tw_367 tw_624 tw_831 ⟨Nat.le_of_ble_eq_true rfl, Nat.le_of_ble_eq_true rfl⟩ rfl rfl hl.1 (Nat.le_of_ble_eq_true rfl) dL_law_1289 ⟨Nat.le_of_ble_eq_true rfl, Nat.le_of_ble_eq_true rfl⟩ (fun H locs hW => ?_)
  refine lv_icmp_eq (tgt := 1520) hx hb dL_law_1292 (by decide) (fun _ => ?_) (fun c9 => absurd rfl c9)
  exact kk S' M' H locs e3 hW
set_option maxHeartbeats 4000000 in
set_option maxRecDepth 100000 in
theorem case_37 (X : Lw D cI cP cB cA tL tC p s m meth c b L xs) (hL : L ≤ 384) {i : Nat} (hi : i + 6 ≤ L) {S M : Stt} {H : Heap} {locs : List Loc} {ls : Array Slot} (hR : Rel S M) (hW : Wd D cI cP cB cA s S M H locs) (hl : lv_has ls 4 [(0, .ref b), (1, .ref (aC s.heap.size 0)), (2, .ref (aM s.heap.size 0)), (3, .int (nI i))]) (kk : Nxt p l e s m below meth c D cI cP cB cA b ls) : W p l e room_1 s m #[Value.ref b] below meth c H locs 98 1876 (lw_Z below #[Value.ref b] s) (F0 m 1297 ls []) := by
  have hx := X.1.1.1
  have hb := X.1.1.2.1
  obtain ⟨r, S', M', e1, e2, e3⟩ := sim_meant (xs (nI i + (1 : Int32)).toNatClampNeg) S M hR
  refine lv_aload_n hx hb dL_law_1297 rfl (lv_at hl 1 rfl) ?_
  refine lv_aload_n hx hb dL_law_1298 rfl (lv_at hl 0 rfl) ?_
  refine lv_iload_n hx hb dL_law_1299 rfl (lv_at hl 3 rfl) ?_
  refine lv_iconst (v := (1 : Int32)) hx hb dL_law_1300 (by decide) ?_
  refine lv_iadd hx hb dL_law_1301 ?_
  refine lawS X hW (arg_in (j := 1) (by omega) hL) dL_law_1302 ?_
  refine lawC X hW [.int (xs (nI i + (1 : Int32)).toNatClampNeg)] (rest := []) (m_X7_meant e1) cw_X7_meant tw_263 tw_518 tw_744 ⟨Nat.le_of_ble_eq_true rfl, Nat.le_of_ble_eq_true rfl⟩ rfl rfl hl.1 (Nat.le_of_ble_eq_true rfl) dL_law_1303 ⟨Nat.le_of_ble_eq_true rfl, Nat.le_of_ble_eq_true rfl⟩ (fun H locs hW => ?_)
  refine lv_aload_n hx hb dL_law_1306 rfl (lv_at hl 2 rfl) ?_
  refine lv_aload_n hx hb dL_law_1307 rfl (lv_at hl 0 rfl) ?_
  refine lv_iload_n hx hb dL_law_1308 rfl (lv_at hl 3 rfl) ?_
  refine lv_iconst (v := (1 : Int32)) hx hb dL_law_1309 (by decide) ?_
  refine lv_iadd hx hb dL_law_1310 ?_
  refine lawS X hW (arg_in (j := 1) (by omega) hL) dL_law_1311 ?_
  refine lawM X hW [.int (xs (nI i + (1 : Int32)).toNatClampNeg)] (rest := [.int r]) (m_X8_meant e2) cw_X8_meant tw_368 tw_625 tw_832 ⟨Nat.le_of_ble_eq_true rfl, Nat.le_of_ble_eq_true rfl⟩ rfl rfl hl.1 (Nat.le_of_ble_eq_true rfl) dL_law_1312 ⟨Nat.le_of_ble_eq_true rfl, Nat.le_of_ble_eq_true rfl⟩ (fun H locs hW => ?_)
  refine lv_icmp_eq (tgt := 1520) hx hb dL_law_1315 (by decide) (fun _ => ?_) (fun c9 => absurd rfl c9)
  exact kk S' M' H locs e3 hW
set_option maxHeartbeats 4000000 in
set_option maxRecDepth 100000 in
theorem case_38 (X : Lw D cI cP cB cA tL tC p s m meth c b L xs) (hL : L ≤ 384) {i : Nat} (hi : i + 6 ≤ L) {S M : Stt} {H : Heap} {locs : List Loc} {ls : Array Slot} (hR : Rel S M) (hW : Wd D cI cP cB cA s S M H locs) (hl : lv_has ls 4 [(0, .ref b), (1, .ref (aC s.heap.size 0)), (2, .ref (aM s.heap.size 0)), (3, .int (nI i))]) (kk : Nxt p l e s m below meth c D cI cP cB cA b ls) : W p l e room_1 s m #[Value.ref b] below meth c H locs 98 1876 (lw_Z below #[Value.ref b] s) (F0 m 1320 ls []) := by
  have hx := X.1.1.1
  have hb := X.1.1.2.1
  obtain ⟨r, S', M', e1, e2, e3⟩ := sim_kinds (xs (nI i + (1 : Int32)).toNatClampNeg) (xs (nI i + (2 : Int32)).toNatClampNeg) (xs (nI i + (3 : Int32)).toNatClampNeg) (xs (nI i + (4 : Int32)).toNatClampNeg) S M hR
  refine lv_aload_n hx hb dL_law_1320 rfl (lv_at hl 1 rfl) ?_
  refine lv_aload_n hx hb dL_law_1321 rfl (lv_at hl 0 rfl) ?_
  refine lv_iload_n hx hb dL_law_1322 rfl (lv_at hl 3 rfl) ?_
  refine lv_iconst (v := (1 : Int32)) hx hb dL_law_1323 (by decide) ?_
  refine lv_iadd hx hb dL_law_1324 ?_
  refine lawS X hW (arg_in (j := 1) (by omega) hL) dL_law_1325 ?_
  refine lv_aload_n hx hb dL_law_1326 rfl (lv_at hl 0 rfl) ?_
  refine lv_iload_n hx hb dL_law_1327 rfl (lv_at hl 3 rfl) ?_
  refine lv_iconst (v := (2 : Int32)) hx hb dL_law_1328 (by decide) ?_
  refine lv_iadd hx hb dL_law_1329 ?_
  refine lawS X hW (arg_in (j := 2) (by omega) hL) dL_law_1330 ?_
  refine lv_aload_n hx hb dL_law_1331 rfl (lv_at hl 0 rfl) ?_
  refine lv_iload_n hx hb dL_law_1332 rfl (lv_at hl 3 rfl) ?_
  refine lv_iconst (v := (3 : Int32)) hx hb dL_law_1333 (by decide) ?_
  refine lv_iadd hx hb dL_law_1334 ?_
  refine lawS X hW (arg_in (j := 3) (by omega) hL) dL_law_1335 ?_
  refine lv_aload_n hx hb dL_law_1336 rfl (lv_at hl 0 rfl) ?_
  refine lv_iload_n hx hb dL_law_1337 rfl (lv_at hl 3 rfl) ?_
  refine lv_iconst (v := (4 : Int32)) hx hb dL_law_1338 (by decide) ?_
  refine lv_iadd hx hb dL_law_1339 ?_
  refine lawS X hW (arg_in (j := 4) (by omega) hL) dL_law_1340 ?_
  refine lawC X hW [.int (xs (nI i + (1 : Int32)).toNatClampNeg), .int (xs (nI i + (2 : Int32)).toNatClampNeg), .int (xs (nI i + (3 : Int32)).toNatClampNeg), .int (xs (nI i + (4 : Int32)).toNatClampNeg)] (rest := []) (m_X7_kinds e1) cw_X7_kinds tw_267 tw_521 tw_745 ⟨Nat.le_of_ble_eq_true rfl, Nat.le_of_ble_eq_true rfl⟩ rfl rfl hl.1 (Nat.le_of_ble_eq_true rfl) dL_law_1341 ⟨Nat.le_of_ble_eq_true rfl, Nat.le_of_ble_eq_true rfl⟩ (fun H locs hW => ?_)
  refine lv_aload_n hx hb dL_law_1344 rfl (lv_at hl 2 rfl) ?_
  refine lv_aload_n hx hb dL_law_1345 rfl (lv_at hl 0 rfl) ?_
  refine lv_iload_n hx hb dL_law_1346 rfl (lv_at hl 3 rfl) ?_
  refine lv_iconst (v := (1 : Int32)) hx hb dL_law_1347 (by decide) ?_
  refine lv_iadd hx hb dL_law_1348 ?_
  refine lawS X hW (arg_in (j := 1) (by omega) hL) dL_law_1349 ?_
  refine lv_aload_n hx hb dL_law_1350 rfl (lv_at hl 0 rfl) ?_
  refine lv_iload_n hx hb dL_law_1351 rfl (lv_at hl 3 rfl) ?_
  refine lv_iconst (v := (2 : Int32)) hx hb dL_law_1352 (by decide) ?_
  refine lv_iadd hx hb dL_law_1353 ?_
  refine lawS X hW (arg_in (j := 2) (by omega) hL) dL_law_1354 ?_
  refine lv_aload_n hx hb dL_law_1355 rfl (lv_at hl 0 rfl) ?_
  refine lv_iload_n hx hb dL_law_1356 rfl (lv_at hl 3 rfl) ?_
  refine lv_iconst (v := (3 : Int32)) hx hb dL_law_1357 (by decide) ?_
  refine lv_iadd hx hb dL_law_1358 ?_
  refine lawS X hW (arg_in (j := 3) (by omega) hL) dL_law_1359 ?_
  refine lv_aload_n hx hb dL_law_1360 rfl (lv_at hl 0 rfl) ?_
  refine lv_iload_n hx hb dL_law_1361 rfl (lv_at hl 3 rfl) ?_
  refine lv_iconst (v := (4 : Int32)) hx hb dL_law_1362 (by decide) ?_
  refine lv_iadd hx hb dL_law_1363 ?_
  refine lawS X hW (arg_in (j := 4) (by omega) hL) dL_law_1364 ?_
  refine lawM X hW [.int (xs (nI i + (1 : Int32)).toNatClampNeg), .int (xs (nI i + (2 : Int32)).toNatClampNeg), .int (xs (nI i + (3 : Int32)).toNatClampNeg), .int (xs (nI i + (4 : Int32)).toNatClampNeg)] (rest := [.int r]) (m_X8_kinds e2) cw_X8_kinds tw_369 tw_626 tw_833 ⟨Nat.le_of_ble_eq_true rfl, Nat.le_of_ble_eq_true rfl⟩ rfl rfl hl.1 (Nat.le_of_ble_eq_true rfl) dL_law_1365 ⟨Nat.le_of_ble_eq_true rfl, Nat.le_of_ble_eq_true rfl⟩ (fun H locs hW => ?_)
  refine lv_icmp_eq (tgt := 1520) hx hb dL_law_1368 (by decide) (fun _ => ?_) (fun c9 => absurd rfl c9)
  exact kk S' M' H locs e3 hW
set_option maxHeartbeats 4000000 in
set_option maxRecDepth 100000 in
theorem case_39 (X : Lw D cI cP cB cA tL tC p s m meth c b L xs) (hL : L ≤ 384) {i : Nat} (hi : i + 6 ≤ L) {S M : Stt} {H : Heap} {locs : List Loc} {ls : Array Slot} (hR : Rel S M) (hW : Wd D cI cP cB cA s S M H locs) (hl : lv_has ls 4 [(0, .ref b), (1, .ref (aC s.heap.size 0)), (2, .ref (aM s.heap.size 0)), (3, .int (nI i))]) (kk : Nxt p l e s m below meth c D cI cP cB cA b ls) : W p l e room_1 s m #[Value.ref b] below meth c H locs 98 1876 (lw_Z below #[Value.ref b] s) (F0 m 1373 ls []) := by
  have hx := X.1.1.1
  have hb := X.1.1.2.1
  obtain ⟨r, S', M', e1, e2, e3⟩ := sim_lots (xs (nI i + (1 : Int32)).toNatClampNeg) (xs (nI i + (2 : Int32)).toNatClampNeg) S M hR
  refine lv_aload_n hx hb dL_law_1373 rfl (lv_at hl 1 rfl) ?_
  refine lv_aload_n hx hb dL_law_1374 rfl (lv_at hl 0 rfl) ?_
  refine lv_iload_n hx hb dL_law_1375 rfl (lv_at hl 3 rfl) ?_
  refine lv_iconst (v := (1 : Int32)) hx hb dL_law_1376 (by decide) ?_
  refine lv_iadd hx hb dL_law_1377 ?_
  refine lawS X hW (arg_in (j := 1) (by omega) hL) dL_law_1378 ?_
  refine lv_aload_n hx hb dL_law_1379 rfl (lv_at hl 0 rfl) ?_
  refine lv_iload_n hx hb dL_law_1380 rfl (lv_at hl 3 rfl) ?_
  refine lv_iconst (v := (2 : Int32)) hx hb dL_law_1381 (by decide) ?_
  refine lv_iadd hx hb dL_law_1382 ?_
  refine lawS X hW (arg_in (j := 2) (by omega) hL) dL_law_1383 ?_
  refine lawC X hW [.int (xs (nI i + (1 : Int32)).toNatClampNeg), .int (xs (nI i + (2 : Int32)).toNatClampNeg)] (rest := []) (m_X7_lots e1) cw_X7_lots tw_270 tw_523 tw_746 ⟨Nat.le_of_ble_eq_true rfl, Nat.le_of_ble_eq_true rfl⟩ rfl rfl hl.1 (Nat.le_of_ble_eq_true rfl) dL_law_1384 ⟨Nat.le_of_ble_eq_true rfl, Nat.le_of_ble_eq_true rfl⟩ (fun H locs hW => ?_)
  refine lv_aload_n hx hb dL_law_1387 rfl (lv_at hl 2 rfl) ?_
  refine lv_aload_n hx hb dL_law_1388 rfl (lv_at hl 0 rfl) ?_
  refine lv_iload_n hx hb dL_law_1389 rfl (lv_at hl 3 rfl) ?_
  refine lv_iconst (v := (1 : Int32)) hx hb dL_law_1390 (by decide) ?_
  refine lv_iadd hx hb dL_law_1391 ?_
  refine lawS X hW (arg_in (j := 1) (by omega) hL) dL_law_1392 ?_
  refine lv_aload_n hx hb dL_law_1393 rfl (lv_at hl 0 rfl) ?_
  refine lv_iload_n hx hb dL_law_1394 rfl (lv_at hl 3 rfl) ?_
  refine lv_iconst (v := (2 : Int32)) hx hb dL_law_1395 (by decide) ?_
  refine lv_iadd hx hb dL_law_1396 ?_
  refine lawS X hW (arg_in (j := 2) (by omega) hL) dL_law_1397 ?_
  refine lawM X hW [.int (xs (nI i + (1 : Int32)).toNatClampNeg), .int (xs (nI i + (2 : Int32)).toNatClampNeg)] (rest := [.int r]) (m_X8_lots e2) cw_X8_lots tw_370 tw_627 tw_834 ⟨Nat.le_of_ble_eq_true rfl, Nat.le_of_ble_eq_true rfl⟩ rfl rfl hl.1 (Nat.le_of_ble_eq_true rfl) dL_law_1398 ⟨Nat.le_of_ble_eq_true rfl, Nat.le_of_ble_eq_true rfl⟩ (fun H locs hW => ?_)
  refine lv_icmp_eq (tgt := 1520) hx hb dL_law_1401 (by decide) (fun _ => ?_) (fun c9 => absurd rfl c9)
  exact kk S' M' H locs e3 hW
set_option maxHeartbeats 4000000 in
set_option maxRecDepth 100000 in
theorem case_40 (X : Lw D cI cP cB cA tL tC p s m meth c b L xs) (hL : L ≤ 384) {i : Nat} (hi : i + 6 ≤ L) {S M : Stt} {H : Heap} {locs : List Loc} {ls : Array Slot} (hR : Rel S M) (hW : Wd D cI cP cB cA s S M H locs) (hl : lv_has ls 4 [(0, .ref b), (1, .ref (aC s.heap.size 0)), (2, .ref (aM s.heap.size 0)), (3, .int (nI i))]) (kk : Nxt p l e s m below meth c D cI cP cB cA b ls) : W p l e room_1 s m #[Value.ref b] below meth c H locs 98 1876 (lw_Z below #[Value.ref b] s) (F0 m 1406 ls []) := by
  have hx := X.1.1.1
  have hb := X.1.1.2.1
  obtain ⟨r, S', M', e1, e2, e3⟩ := sim_asked  S M hR
  refine lv_aload_n hx hb dL_law_1406 rfl (lv_at hl 1 rfl) ?_
  refine lawC X hW [] (rest := []) (m_X7_asked e1) cw_X7_asked tw_271 tw_529 tw_747 ⟨Nat.le_of_ble_eq_true rfl, Nat.le_of_ble_eq_true rfl⟩ rfl rfl hl.1 (Nat.le_of_ble_eq_true rfl) dL_law_1407 ⟨Nat.le_of_ble_eq_true rfl, Nat.le_of_ble_eq_true rfl⟩ (fun H locs hW => ?_)
  refine lv_aload_n hx hb dL_law_1410 rfl (lv_at hl 2 rfl) ?_
  refine lawM X hW [] (rest := [.int r]) (m_X8_asked e2) cw_X8_asked tw_371 tw_633 tw_835 ⟨Nat.le_of_ble_eq_true rfl, Nat.le_of_ble_eq_true rfl⟩ rfl rfl hl.1 (Nat.le_of_ble_eq_true rfl) dL_law_1411 ⟨Nat.le_of_ble_eq_true rfl, Nat.le_of_ble_eq_true rfl⟩ (fun H locs hW => ?_)
  refine lv_icmp_eq (tgt := 1520) hx hb dL_law_1414 (by decide) (fun _ => ?_) (fun c9 => absurd rfl c9)
  exact kk S' M' H locs e3 hW
set_option maxHeartbeats 4000000 in
set_option maxRecDepth 100000 in
theorem case_41 (X : Lw D cI cP cB cA tL tC p s m meth c b L xs) (hL : L ≤ 384) {i : Nat} (hi : i + 6 ≤ L) {S M : Stt} {H : Heap} {locs : List Loc} {ls : Array Slot} (hR : Rel S M) (hW : Wd D cI cP cB cA s S M H locs) (hl : lv_has ls 4 [(0, .ref b), (1, .ref (aC s.heap.size 0)), (2, .ref (aM s.heap.size 0)), (3, .int (nI i))]) (kk : Nxt p l e s m below meth c D cI cP cB cA b ls) : W p l e room_1 s m #[Value.ref b] below meth c H locs 98 1876 (lw_Z below #[Value.ref b] s) (F0 m 1419 ls []) := by
  have hx := X.1.1.1
  have hb := X.1.1.2.1
  obtain ⟨r, S', M', e1, e2, e3⟩ := sim_upper  S M hR
  refine lv_aload_n hx hb dL_law_1419 rfl (lv_at hl 1 rfl) ?_
  refine lawCL X hW [] (rest := []) (m_X7_upper e1) cw_X7_upper tw_272 tw_530 tw_748 ⟨Nat.le_of_ble_eq_true rfl, Nat.le_of_ble_eq_true rfl⟩ rfl rfl hl.1 (Nat.le_of_ble_eq_true rfl) dL_law_1420 ⟨Nat.le_of_ble_eq_true rfl, Nat.le_of_ble_eq_true rfl⟩ (fun H locs hW => ?_)
  refine lv_aload_n hx hb dL_law_1423 rfl (lv_at hl 2 rfl) ?_
  refine lawML X hW [] (rest := [.long r]) (m_X8_upper e2) cw_X8_upper tw_372 tw_634 tw_836 ⟨Nat.le_of_ble_eq_true rfl, Nat.le_of_ble_eq_true rfl⟩ rfl rfl hl.1 (Nat.le_of_ble_eq_true rfl) dL_law_1424 ⟨Nat.le_of_ble_eq_true rfl, Nat.le_of_ble_eq_true rfl⟩ (fun H locs hW => ?_)
  refine W.lcmp hx hb dL_law_1427 ?_
  refine lv_if_eq (tgt := 1520) hx hb dL_law_1428 (by decide) (fun _ => ?_) (fun c9 => absurd (lg_self _) c9)
  exact kk S' M' H locs e3 hW
set_option maxHeartbeats 4000000 in
set_option maxRecDepth 100000 in
theorem case_42 (X : Lw D cI cP cB cA tL tC p s m meth c b L xs) (hL : L ≤ 384) {i : Nat} (hi : i + 6 ≤ L) {S M : Stt} {H : Heap} {locs : List Loc} {ls : Array Slot} (hR : Rel S M) (hW : Wd D cI cP cB cA s S M H locs) (hl : lv_has ls 4 [(0, .ref b), (1, .ref (aC s.heap.size 0)), (2, .ref (aM s.heap.size 0)), (3, .int (nI i))]) (kk : Nxt p l e s m below meth c D cI cP cB cA b ls) : W p l e room_1 s m #[Value.ref b] below meth c H locs 98 1876 (lw_Z below #[Value.ref b] s) (F0 m 1433 ls []) := by
  have hx := X.1.1.1
  have hb := X.1.1.2.1
  obtain ⟨r, S', M', e1, e2, e3⟩ := sim_lower  S M hR
  refine lv_aload_n hx hb dL_law_1433 rfl (lv_at hl 1 rfl) ?_
  refine lawCL X hW [] (rest := []) (m_X7_lower e1) cw_X7_lower tw_273 tw_531 tw_749 ⟨Nat.le_of_ble_eq_true rfl, Nat.le_of_ble_eq_true rfl⟩ rfl rfl hl.1 (Nat.le_of_ble_eq_true rfl) dL_law_1434 ⟨Nat.le_of_ble_eq_true rfl, Nat.le_of_ble_eq_true rfl⟩ (fun H locs hW => ?_)
  refine lv_aload_n hx hb dL_law_1437 rfl (lv_at hl 2 rfl) ?_
  refine lawML X hW [] (rest := [.long r]) (m_X8_lower e2) cw_X8_lower tw_373 tw_635 tw_837 ⟨Nat.le_of_ble_eq_true rfl, Nat.le_of_ble_eq_true rfl⟩ rfl rfl hl.1 (Nat.le_of_ble_eq_true rfl) dL_law_1438 ⟨Nat.le_of_ble_eq_true rfl, Nat.le_of_ble_eq_true rfl⟩ (fun H locs hW => ?_)
  refine W.lcmp hx hb dL_law_1441 ?_
  refine lv_if_eq (tgt := 1520) hx hb dL_law_1442 (by decide) (fun _ => ?_) (fun c9 => absurd (lg_self _) c9)
  exact kk S' M' H locs e3 hW
set_option maxHeartbeats 4000000 in
set_option maxRecDepth 100000 in
theorem case_43 (X : Lw D cI cP cB cA tL tC p s m meth c b L xs) (hL : L ≤ 384) {i : Nat} (hi : i + 6 ≤ L) {S M : Stt} {H : Heap} {locs : List Loc} {ls : Array Slot} (hR : Rel S M) (hW : Wd D cI cP cB cA s S M H locs) (hl : lv_has ls 4 [(0, .ref b), (1, .ref (aC s.heap.size 0)), (2, .ref (aM s.heap.size 0)), (3, .int (nI i))]) (kk : Nxt p l e s m below meth c D cI cP cB cA b ls) : W p l e room_1 s m #[Value.ref b] below meth c H locs 98 1876 (lw_Z below #[Value.ref b] s) (F0 m 1447 ls []) := by
  have hx := X.1.1.1
  have hb := X.1.1.2.1
  obtain ⟨r, S', M', e1, e2, e3⟩ := sim_count (xs (nI i + (1 : Int32)).toNatClampNeg) S M hR
  refine lv_aload_n hx hb dL_law_1447 rfl (lv_at hl 1 rfl) ?_
  refine lv_aload_n hx hb dL_law_1448 rfl (lv_at hl 0 rfl) ?_
  refine lv_iload_n hx hb dL_law_1449 rfl (lv_at hl 3 rfl) ?_
  refine lv_iconst (v := (1 : Int32)) hx hb dL_law_1450 (by decide) ?_
  refine lv_iadd hx hb dL_law_1451 ?_
  refine lawS X hW (arg_in (j := 1) (by omega) hL) dL_law_1452 ?_
  refine lawC X hW [.int (xs (nI i + (1 : Int32)).toNatClampNeg)] (rest := []) (m_X7_count e1) cw_X7_count tw_274 tw_532 tw_750 ⟨Nat.le_of_ble_eq_true rfl, Nat.le_of_ble_eq_true rfl⟩ rfl rfl hl.1 (Nat.le_of_ble_eq_true rfl) dL_law_1453 ⟨Nat.le_of_ble_eq_true rfl, Nat.le_of_ble_eq_true rfl⟩ (fun H locs hW => ?_)
  refine lv_aload_n hx hb dL_law_1456 rfl (lv_at hl 2 rfl) ?_
  refine lv_aload_n hx hb dL_law_1457 rfl (lv_at hl 0 rfl) ?_
  refine lv_iload_n hx hb dL_law_1458 rfl (lv_at hl 3 rfl) ?_
  refine lv_iconst (v := (1 : Int32)) hx hb dL_law_1459 (by decide) ?_
  refine lv_iadd hx hb dL_law_1460 ?_
  refine lawS X hW (arg_in (j := 1) (by omega) hL) dL_law_1461 ?_
  refine lawM X hW [.int (xs (nI i + (1 : Int32)).toNatClampNeg)] (rest := [.int r]) (m_X8_count e2) cw_X8_count tw_374 tw_636 tw_839 ⟨Nat.le_of_ble_eq_true rfl, Nat.le_of_ble_eq_true rfl⟩ rfl rfl hl.1 (Nat.le_of_ble_eq_true rfl) dL_law_1462 ⟨Nat.le_of_ble_eq_true rfl, Nat.le_of_ble_eq_true rfl⟩ (fun H locs hW => ?_)
  refine lv_icmp_eq (tgt := 1520) hx hb dL_law_1465 (by decide) (fun _ => ?_) (fun c9 => absurd rfl c9)
  exact kk S' M' H locs e3 hW
set_option maxHeartbeats 4000000 in
set_option maxRecDepth 100000 in
theorem case_44 (X : Lw D cI cP cB cA tL tC p s m meth c b L xs) (hL : L ≤ 384) {i : Nat} (hi : i + 6 ≤ L) {S M : Stt} {H : Heap} {locs : List Loc} {ls : Array Slot} (hR : Rel S M) (hW : Wd D cI cP cB cA s S M H locs) (hl : lv_has ls 4 [(0, .ref b), (1, .ref (aC s.heap.size 0)), (2, .ref (aM s.heap.size 0)), (3, .int (nI i))]) (kk : Nxt p l e s m below meth c D cI cP cB cA b ls) : W p l e room_1 s m #[Value.ref b] below meth c H locs 98 1876 (lw_Z below #[Value.ref b] s) (F0 m 1470 ls []) := by
  have hx := X.1.1.1
  have hb := X.1.1.2.1
  obtain ⟨r, S', M', e1, e2, e3⟩ := sim_finding  S M hR
  refine lv_aload_n hx hb dL_law_1470 rfl (lv_at hl 1 rfl) ?_
  refine lawC X hW [] (rest := []) (m_X7_finding e1) cw_X7_finding tw_279 tw_536 tw_751 ⟨Nat.le_of_ble_eq_true rfl, Nat.le_of_ble_eq_true rfl⟩ rfl rfl hl.1 (Nat.le_of_ble_eq_true rfl) dL_law_1471 ⟨Nat.le_of_ble_eq_true rfl, Nat.le_of_ble_eq_true rfl⟩ (fun H locs hW => ?_)
  refine lv_aload_n hx hb dL_law_1474 rfl (lv_at hl 2 rfl) ?_
  refine lawM X hW [] (rest := [.int r]) (m_X8_finding e2) cw_X8_finding tw_376 tw_638 tw_840 ⟨Nat.le_of_ble_eq_true rfl, Nat.le_of_ble_eq_true rfl⟩ rfl rfl hl.1 (Nat.le_of_ble_eq_true rfl) dL_law_1475 ⟨Nat.le_of_ble_eq_true rfl, Nat.le_of_ble_eq_true rfl⟩ (fun H locs hW => ?_)
  refine lv_icmp_eq (tgt := 1520) hx hb dL_law_1478 (by decide) (fun _ => ?_) (fun c9 => absurd rfl c9)
  exact kk S' M' H locs e3 hW
set_option maxHeartbeats 4000000 in
set_option maxRecDepth 100000 in
theorem case_45 (X : Lw D cI cP cB cA tL tC p s m meth c b L xs) (hL : L ≤ 384) {i : Nat} (hi : i + 6 ≤ L) {S M : Stt} {H : Heap} {locs : List Loc} {ls : Array Slot} (hR : Rel S M) (hW : Wd D cI cP cB cA s S M H locs) (hl : lv_has ls 4 [(0, .ref b), (1, .ref (aC s.heap.size 0)), (2, .ref (aM s.heap.size 0)), (3, .int (nI i))]) (kk : Nxt p l e s m below meth c D cI cP cB cA b ls) : W p l e room_1 s m #[Value.ref b] below meth c H locs 98 1876 (lw_Z below #[Value.ref b] s) (F0 m 1483 ls []) := by
  have hx := X.1.1.1
  have hb := X.1.1.2.1
  obtain ⟨r, S', M', e1, e2, e3⟩ := sim_findings (xs (nI i + (1 : Int32)).toNatClampNeg) S M hR
  refine lv_aload_n hx hb dL_law_1483 rfl (lv_at hl 1 rfl) ?_
  refine lv_aload_n hx hb dL_law_1484 rfl (lv_at hl 0 rfl) ?_
  refine lv_iload_n hx hb dL_law_1485 rfl (lv_at hl 3 rfl) ?_
  refine lv_iconst (v := (1 : Int32)) hx hb dL_law_1486 (by decide) ?_
  refine lv_iadd hx hb dL_law_1487 ?_
  refine lawS X hW (arg_in (j := 1) (by omega) hL) dL_law_1488 ?_
  refine lawC X hW [.int (xs (nI i + (1 : Int32)).toNatClampNeg)] (rest := []) (m_X7_findings e1) cw_X7_findings tw_280 tw_537 tw_752 ⟨Nat.le_of_ble_eq_true rfl, Nat.le_of_ble_eq_true rfl⟩ rfl rfl hl.1 (Nat.le_of_ble_eq_true rfl) dL_law_1489 ⟨Nat.le_of_ble_eq_true rfl, Nat.le_of_ble_eq_true rfl⟩ (fun H locs hW => ?_)
  refine lv_aload_n hx hb dL_law_1492 rfl (lv_at hl 2 rfl) ?_
  refine lv_aload_n hx hb dL_law_1493 rfl (lv_at hl 0 rfl) ?_
  refine lv_iload_n hx hb dL_law_1494 rfl (lv_at hl 3 rfl) ?_
  refine lv_iconst (v := (1 : Int32)) hx hb dL_law_1495 (by decide) ?_
  refine lv_iadd hx hb dL_law_1496 ?_
  refine lawS X hW (arg_in (j := 1) (by omega) hL) dL_law_1497 ?_
  refine lawM X hW [.int (xs (nI i + (1 : Int32)).toNatClampNeg)] (rest := [.int r]) (m_X8_findings e2) cw_X8_findings tw_377 tw_639 tw_841 ⟨Nat.le_of_ble_eq_true rfl, Nat.le_of_ble_eq_true rfl⟩ rfl rfl hl.1 (Nat.le_of_ble_eq_true rfl) dL_law_1498 ⟨Nat.le_of_ble_eq_true rfl, Nat.le_of_ble_eq_true rfl⟩ (fun H locs hW => ?_)
  refine lv_icmp_eq (tgt := 1520) hx hb dL_law_1501 (by decide) (fun _ => ?_) (fun c9 => absurd rfl c9)
  exact kk S' M' H locs e3 hW
set_option maxHeartbeats 4000000 in
set_option maxRecDepth 100000 in
theorem case_46 (X : Lw D cI cP cB cA tL tC p s m meth c b L xs) (hL : L ≤ 384) {i : Nat} (hi : i + 6 ≤ L) {S M : Stt} {H : Heap} {locs : List Loc} {ls : Array Slot} (hR : Rel S M) (hW : Wd D cI cP cB cA s S M H locs) (hl : lv_has ls 4 [(0, .ref b), (1, .ref (aC s.heap.size 0)), (2, .ref (aM s.heap.size 0)), (3, .int (nI i))]) (kk : Nxt p l e s m below meth c D cI cP cB cA b ls) : W p l e room_1 s m #[Value.ref b] below meth c H locs 98 1876 (lw_Z below #[Value.ref b] s) (F0 m 1506 ls []) := by
  have hx := X.1.1.1
  have hb := X.1.1.2.1
  obtain ⟨r, S', M', e1, e2, e3⟩ := sim_digest  S M hR
  refine lv_aload_n hx hb dL_law_1506 rfl (lv_at hl 1 rfl) ?_
  refine lawCL X hW [] (rest := []) (m_X7_digest e1) cw_X7_digest tw_281 tw_538 tw_753 ⟨Nat.le_of_ble_eq_true rfl, Nat.le_of_ble_eq_true rfl⟩ rfl rfl hl.1 (Nat.le_of_ble_eq_true rfl) dL_law_1507 ⟨Nat.le_of_ble_eq_true rfl, Nat.le_of_ble_eq_true rfl⟩ (fun H locs hW => ?_)
  refine lv_aload_n hx hb dL_law_1510 rfl (lv_at hl 2 rfl) ?_
  refine lawML X hW [] (rest := [.long r]) (m_X8_digest e2) cw_X8_digest tw_378 tw_640 tw_843 ⟨Nat.le_of_ble_eq_true rfl, Nat.le_of_ble_eq_true rfl⟩ rfl rfl hl.1 (Nat.le_of_ble_eq_true rfl) dL_law_1511 ⟨Nat.le_of_ble_eq_true rfl, Nat.le_of_ble_eq_true rfl⟩ (fun H locs hW => ?_)
  refine W.lcmp hx hb dL_law_1514 ?_
  refine lv_if_eq (tgt := 1520) hx hb dL_law_1515 (by decide) (fun _ => ?_) (fun c9 => absurd (lg_self _) c9)
  exact kk S' M' H locs e3 hW
end LAWK
