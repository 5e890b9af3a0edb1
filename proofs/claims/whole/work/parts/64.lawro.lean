section LAW
variable {p : Program} {l : Launch} {e : Env} {s : State} {m : MethodId} {below : List Frame} {meth : Method} {c_ : Code} {D : va_G} {cs : Nat → ClassId} {q : Nat → Nat} {b L : Nat} {xs : Nat → Int32} {i : Nat} {ls : Array Slot}
set_option maxHeartbeats 4000000 in
set_option maxRecDepth 100000 in
/-- the law calls promised -/
theorem lw_promised (hF : LFix p s m meth c_ D cs q b L xs i ls) (K : LCont p l e s m b below meth c_ D cs q ls) {F : Nat → Nat → Int32} {n c : Nat} {g : Int32} {up lo : Int64} {H : Heap} {locs : List Loc} (hI : Inv F n c) (hP : va_P D vwCl (LW q cs F n c g up lo) H) (hD : va_D (fun k => s.heap.size ≤ k) (LW q cs F n c g up lo)) (hS : va_S (fun k => s.heap.size ≤ k) s.heap H locs) : W p l e room_1 s m #[Value.ref b] below meth c_ H locs 100 9404 (lw_Z below #[Value.ref b] s) (F0 m 259 ls []) := by
  obtain ⟨hx, hb, hml, hown, hts, hX, hbl, hK, hN, hi, hL, hl⟩ := hF
  have hA : ∀ k : Nat, s.heap.size ≤ k → (fun k : Nat => s.heap.size ≤ k) k := fun _ h => h
  have hbA : ¬ (fun k : Nat => s.heap.size ≤ k) b := Nat.not_le.mpr hbl
  refine lv_aload_n hx hb dL_law_259 rfl (lv_at hl 1 rfl) ?_
  refine lv_aload_n hx hb dL_law_260 rfl (lv_at hl 0 rfl) ?_
  refine lv_iload_n hx hb dL_law_261 rfl (lv_at hl 3 rfl) ?_
  refine lv_iconst (v := 1) hx hb dL_law_262 (by decide) ?_
  refine lv_iadd hx hb dL_law_263 ?_
  refine va_sld hx hb hX hbl hbA hS (lw_in1 hi hL) dL_law_264 ?_
  refine lv_aload_n hx hb dL_law_265 rfl (lv_at hl 0 rfl) ?_
  refine lv_iload_n hx hb dL_law_266 rfl (lv_at hl 3 rfl) ?_
  refine lv_iconst (v := 2) hx hb dL_law_267 (by decide) ?_
  refine lv_iadd hx hb dL_law_268 ?_
  refine va_sld hx hb hX hbl hbA hS (lw_in2 hi hL) dL_law_269 ?_
  have hPx := lwX hP
  refine roVi (As := [.int (xs (nI i + 1).toNatClampNeg), .int (xs (nI i + 2).toNatClampNeg)]) (rest := []) (v := aPromised F n (xs (nI i + 1).toNatClampNeg) (xs (nI i + 2).toNatClampNeg)) (wc := xW q cs F n c g) ⟨hx, hb, hml, hown, hts⟩ (c_X4_promised l D cs q F n c g (xs (nI i + 1).toNatClampNeg) (xs (nI i + 2).toNatClampNeg) hI) (cwV 2 hts gL_law_X4_promised rfl rfl rfl (by decide +kernel) ⟨Nat.le_of_ble_eq_true rfl, Nat.le_of_ble_eq_true rfl⟩) hPx hK hN 0 rfl rfl rfl hl.1 rfl (Nat.le_of_ble_eq_true rfl) dL_law_270 ⟨Nat.le_of_ble_eq_true rfl, Nat.le_of_ble_eq_true rfl⟩ ?_
  refine lv_aload_n hx hb dL_law_273 rfl (lv_at hl 2 rfl) ?_
  refine lv_aload_n hx hb dL_law_274 rfl (lv_at hl 0 rfl) ?_
  refine lv_iload_n hx hb dL_law_275 rfl (lv_at hl 3 rfl) ?_
  refine lv_iconst (v := 1) hx hb dL_law_276 (by decide) ?_
  refine lv_iadd hx hb dL_law_277 ?_
  refine va_sld hx hb hX hbl hbA hS (lw_in1 hi hL) dL_law_278 ?_
  refine lv_aload_n hx hb dL_law_279 rfl (lv_at hl 0 rfl) ?_
  refine lv_iload_n hx hb dL_law_280 rfl (lv_at hl 3 rfl) ?_
  refine lv_iconst (v := 2) hx hb dL_law_281 (by decide) ?_
  refine lv_iadd hx hb dL_law_282 ?_
  refine va_sld hx hb hX hbl hbA hS (lw_in2 hi hL) dL_law_283 ?_
  have hPm := va_P_l (va_P_r hP)
  refine roVi (As := [.int (xs (nI i + 1).toNatClampNeg), .int (xs (nI i + 2).toNatClampNeg)]) (rest := [.int (aPromised F n (xs (nI i + 1).toNatClampNeg) (xs (nI i + 2).toNatClampNeg))]) (v := aPromised F n (xs (nI i + 1).toNatClampNeg) (xs (nI i + 2).toNatClampNeg)) (wc := mW q cs F n c g up lo) ⟨hx, hb, hml, hown, hts⟩ (c_X5_promised l D cs q F n c g up lo (xs (nI i + 1).toNatClampNeg) (xs (nI i + 2).toNatClampNeg) hI) (cwV 2 hts gL_law_X5_promised rfl rfl rfl (by decide +kernel) ⟨Nat.le_of_ble_eq_true rfl, Nat.le_of_ble_eq_true rfl⟩) hPm hK hN 0 rfl rfl rfl hl.1 rfl (Nat.le_of_ble_eq_true rfl) dL_law_284 ⟨Nat.le_of_ble_eq_true rfl, Nat.le_of_ble_eq_true rfl⟩ ?_
  refine lv_icmp_eq (tgt := 971) hx hb dL_law_287 (by decide) (fun c_1 => ?_) (fun c_1 => ?_)
  · exact K F n c g up lo H locs hI hP hD hS
  · exact absurd (by first | exact rfl | exact (rfl).symm) c_1

set_option maxHeartbeats 4000000 in
set_option maxRecDepth 100000 in
/-- the law calls last -/
theorem lw_last (hF : LFix p s m meth c_ D cs q b L xs i ls) (K : LCont p l e s m b below meth c_ D cs q ls) {F : Nat → Nat → Int32} {n c : Nat} {g : Int32} {up lo : Int64} {H : Heap} {locs : List Loc} (hI : Inv F n c) (hP : va_P D vwCl (LW q cs F n c g up lo) H) (hD : va_D (fun k => s.heap.size ≤ k) (LW q cs F n c g up lo)) (hS : va_S (fun k => s.heap.size ≤ k) s.heap H locs) : W p l e room_1 s m #[Value.ref b] below meth c_ H locs 100 9404 (lw_Z below #[Value.ref b] s) (F0 m 292 ls []) := by
  obtain ⟨hx, hb, hml, hown, hts, hX, hbl, hK, hN, hi, hL, hl⟩ := hF
  have hA : ∀ k : Nat, s.heap.size ≤ k → (fun k : Nat => s.heap.size ≤ k) k := fun _ h => h
  have hbA : ¬ (fun k : Nat => s.heap.size ≤ k) b := Nat.not_le.mpr hbl
  refine lv_aload_n hx hb dL_law_292 rfl (lv_at hl 1 rfl) ?_
  refine lv_aload_n hx hb dL_law_293 rfl (lv_at hl 0 rfl) ?_
  refine lv_iload_n hx hb dL_law_294 rfl (lv_at hl 3 rfl) ?_
  refine lv_iconst (v := 1) hx hb dL_law_295 (by decide) ?_
  refine lv_iadd hx hb dL_law_296 ?_
  refine va_sld hx hb hX hbl hbA hS (lw_in1 hi hL) dL_law_297 ?_
  have hPx := lwX hP
  refine roVi (As := [.int (xs (nI i + 1).toNatClampNeg)]) (rest := []) (v := if hasT n (xs (nI i + 1).toNatClampNeg) = true then sLast F (ix (xs (nI i + 1).toNatClampNeg)) else -2) (wc := xW q cs F n c g) ⟨hx, hb, hml, hown, hts⟩ (c_X4_last l D cs q F n c g (xs (nI i + 1).toNatClampNeg) hI) (cwV 1 hts gL_law_X4_last rfl rfl rfl (by decide +kernel) ⟨Nat.le_of_ble_eq_true rfl, Nat.le_of_ble_eq_true rfl⟩) hPx hK hN 0 rfl rfl rfl hl.1 rfl (Nat.le_of_ble_eq_true rfl) dL_law_298 ⟨Nat.le_of_ble_eq_true rfl, Nat.le_of_ble_eq_true rfl⟩ ?_
  refine lv_aload_n hx hb dL_law_301 rfl (lv_at hl 2 rfl) ?_
  refine lv_aload_n hx hb dL_law_302 rfl (lv_at hl 0 rfl) ?_
  refine lv_iload_n hx hb dL_law_303 rfl (lv_at hl 3 rfl) ?_
  refine lv_iconst (v := 1) hx hb dL_law_304 (by decide) ?_
  refine lv_iadd hx hb dL_law_305 ?_
  refine va_sld hx hb hX hbl hbA hS (lw_in1 hi hL) dL_law_306 ?_
  have hPm := va_P_l (va_P_r hP)
  refine roVi (As := [.int (xs (nI i + 1).toNatClampNeg)]) (rest := [.int (if hasT n (xs (nI i + 1).toNatClampNeg) = true then sLast F (ix (xs (nI i + 1).toNatClampNeg)) else -2)]) (v := if hasT n (xs (nI i + 1).toNatClampNeg) = true then lsK F (ix (xs (nI i + 1).toNatClampNeg)) 121 else -2) (wc := mW q cs F n c g up lo) ⟨hx, hb, hml, hown, hts⟩ (c_X5_last l D cs q F n c g up lo (xs (nI i + 1).toNatClampNeg) hI) (cwV 1 hts gL_law_X5_last rfl rfl rfl (by decide +kernel) ⟨Nat.le_of_ble_eq_true rfl, Nat.le_of_ble_eq_true rfl⟩) hPm hK hN 0 rfl rfl rfl hl.1 rfl (Nat.le_of_ble_eq_true rfl) dL_law_307 ⟨Nat.le_of_ble_eq_true rfl, Nat.le_of_ble_eq_true rfl⟩ ?_
  refine lv_icmp_eq (tgt := 971) hx hb dL_law_310 (by decide) (fun c_1 => ?_) (fun c_1 => ?_)
  · exact K F n c g up lo H locs hI hP hD hS
  · exact absurd (by first | exact e_last hI _ | exact (e_last hI _).symm) c_1

set_option maxHeartbeats 4000000 in
set_option maxRecDepth 100000 in
/-- the law calls about -/
theorem lw_about (hF : LFix p s m meth c_ D cs q b L xs i ls) (K : LCont p l e s m b below meth c_ D cs q ls) {F : Nat → Nat → Int32} {n c : Nat} {g : Int32} {up lo : Int64} {H : Heap} {locs : List Loc} (hI : Inv F n c) (hP : va_P D vwCl (LW q cs F n c g up lo) H) (hD : va_D (fun k => s.heap.size ≤ k) (LW q cs F n c g up lo)) (hS : va_S (fun k => s.heap.size ≤ k) s.heap H locs) : W p l e room_1 s m #[Value.ref b] below meth c_ H locs 100 9404 (lw_Z below #[Value.ref b] s) (F0 m 378 ls []) := by
  obtain ⟨hx, hb, hml, hown, hts, hX, hbl, hK, hN, hi, hL, hl⟩ := hF
  have hA : ∀ k : Nat, s.heap.size ≤ k → (fun k : Nat => s.heap.size ≤ k) k := fun _ h => h
  have hbA : ¬ (fun k : Nat => s.heap.size ≤ k) b := Nat.not_le.mpr hbl
  refine lv_aload_n hx hb dL_law_378 rfl (lv_at hl 1 rfl) ?_
  refine lv_aload_n hx hb dL_law_379 rfl (lv_at hl 0 rfl) ?_
  refine lv_iload_n hx hb dL_law_380 rfl (lv_at hl 3 rfl) ?_
  refine lv_iconst (v := 1) hx hb dL_law_381 (by decide) ?_
  refine lv_iadd hx hb dL_law_382 ?_
  refine va_sld hx hb hX hbl hbA hS (lw_in1 hi hL) dL_law_383 ?_
  refine lv_aload_n hx hb dL_law_384 rfl (lv_at hl 0 rfl) ?_
  refine lv_iload_n hx hb dL_law_385 rfl (lv_at hl 3 rfl) ?_
  refine lv_iconst (v := 2) hx hb dL_law_386 (by decide) ?_
  refine lv_iadd hx hb dL_law_387 ?_
  refine va_sld hx hb hX hbl hbA hS (lw_in2 hi hL) dL_law_388 ?_
  have hPx := lwX hP
  refine roVi (As := [.int (xs (nI i + 1).toNatClampNeg), .int (xs (nI i + 2).toNatClampNeg)]) (rest := []) (v := aAbout F c (xs (nI i + 1).toNatClampNeg) (xs (nI i + 2).toNatClampNeg)) (wc := xW q cs F n c g) ⟨hx, hb, hml, hown, hts⟩ (c_X4_about l D cs q F n c g (xs (nI i + 1).toNatClampNeg) (xs (nI i + 2).toNatClampNeg) hI) (cwV 2 hts gL_law_X4_about rfl rfl rfl (by decide +kernel) ⟨Nat.le_of_ble_eq_true rfl, Nat.le_of_ble_eq_true rfl⟩) hPx hK hN 0 rfl rfl rfl hl.1 rfl (Nat.le_of_ble_eq_true rfl) dL_law_389 ⟨Nat.le_of_ble_eq_true rfl, Nat.le_of_ble_eq_true rfl⟩ ?_
  refine lv_aload_n hx hb dL_law_392 rfl (lv_at hl 2 rfl) ?_
  refine lv_aload_n hx hb dL_law_393 rfl (lv_at hl 0 rfl) ?_
  refine lv_iload_n hx hb dL_law_394 rfl (lv_at hl 3 rfl) ?_
  refine lv_iconst (v := 1) hx hb dL_law_395 (by decide) ?_
  refine lv_iadd hx hb dL_law_396 ?_
  refine va_sld hx hb hX hbl hbA hS (lw_in1 hi hL) dL_law_397 ?_
  refine lv_aload_n hx hb dL_law_398 rfl (lv_at hl 0 rfl) ?_
  refine lv_iload_n hx hb dL_law_399 rfl (lv_at hl 3 rfl) ?_
  refine lv_iconst (v := 2) hx hb dL_law_400 (by decide) ?_
  refine lv_iadd hx hb dL_law_401 ?_
  refine va_sld hx hb hX hbl hbA hS (lw_in2 hi hL) dL_law_402 ?_
  have hPm := va_P_l (va_P_r hP)
  refine roVi (As := [.int (xs (nI i + 1).toNatClampNeg), .int (xs (nI i + 2).toNatClampNeg)]) (rest := [.int (aAbout F c (xs (nI i + 1).toNatClampNeg) (xs (nI i + 2).toNatClampNeg))]) (v := aAbout F c (xs (nI i + 1).toNatClampNeg) (xs (nI i + 2).toNatClampNeg)) (wc := mW q cs F n c g up lo) ⟨hx, hb, hml, hown, hts⟩ (c_X5_about l D cs q F n c g up lo (xs (nI i + 1).toNatClampNeg) (xs (nI i + 2).toNatClampNeg) hI) (cwV 2 hts gL_law_X5_about rfl rfl rfl (by decide +kernel) ⟨Nat.le_of_ble_eq_true rfl, Nat.le_of_ble_eq_true rfl⟩) hPm hK hN 0 rfl rfl rfl hl.1 rfl (Nat.le_of_ble_eq_true rfl) dL_law_403 ⟨Nat.le_of_ble_eq_true rfl, Nat.le_of_ble_eq_true rfl⟩ ?_
  refine lv_icmp_eq (tgt := 971) hx hb dL_law_406 (by decide) (fun c_1 => ?_) (fun c_1 => ?_)
  · exact K F n c g up lo H locs hI hP hD hS
  · exact absurd (by first | exact rfl | exact (rfl).symm) c_1

set_option maxHeartbeats 4000000 in
set_option maxRecDepth 100000 in
/-- the law calls table -/
theorem lw_table (hF : LFix p s m meth c_ D cs q b L xs i ls) (K : LCont p l e s m b below meth c_ D cs q ls) {F : Nat → Nat → Int32} {n c : Nat} {g : Int32} {up lo : Int64} {H : Heap} {locs : List Loc} (hI : Inv F n c) (hP : va_P D vwCl (LW q cs F n c g up lo) H) (hD : va_D (fun k => s.heap.size ≤ k) (LW q cs F n c g up lo)) (hS : va_S (fun k => s.heap.size ≤ k) s.heap H locs) : W p l e room_1 s m #[Value.ref b] below meth c_ H locs 100 9404 (lw_Z below #[Value.ref b] s) (F0 m 411 ls []) := by
  obtain ⟨hx, hb, hml, hown, hts, hX, hbl, hK, hN, hi, hL, hl⟩ := hF
  have hA : ∀ k : Nat, s.heap.size ≤ k → (fun k : Nat => s.heap.size ≤ k) k := fun _ h => h
  have hbA : ¬ (fun k : Nat => s.heap.size ≤ k) b := Nat.not_le.mpr hbl
  refine lv_aload_n hx hb dL_law_411 rfl (lv_at hl 1 rfl) ?_
  refine lv_aload_n hx hb dL_law_412 rfl (lv_at hl 0 rfl) ?_
  refine lv_iload_n hx hb dL_law_413 rfl (lv_at hl 3 rfl) ?_
  refine lv_iconst (v := 1) hx hb dL_law_414 (by decide) ?_
  refine lv_iadd hx hb dL_law_415 ?_
  refine va_sld hx hb hX hbl hbA hS (lw_in1 hi hL) dL_law_416 ?_
  refine lv_aload_n hx hb dL_law_417 rfl (lv_at hl 0 rfl) ?_
  refine lv_iload_n hx hb dL_law_418 rfl (lv_at hl 3 rfl) ?_
  refine lv_iconst (v := 2) hx hb dL_law_419 (by decide) ?_
  refine lv_iadd hx hb dL_law_420 ?_
  refine va_sld hx hb hX hbl hbA hS (lw_in2 hi hL) dL_law_421 ?_
  refine lv_aload_n hx hb dL_law_422 rfl (lv_at hl 0 rfl) ?_
  refine lv_iload_n hx hb dL_law_423 rfl (lv_at hl 3 rfl) ?_
  refine lv_iconst (v := 3) hx hb dL_law_424 (by decide) ?_
  refine lv_iadd hx hb dL_law_425 ?_
  refine va_sld hx hb hX hbl hbA hS (lw_in3 hi hL) dL_law_426 ?_
  have hPx := lwX hP
  refine roVi (As := [.int (xs (nI i + 1).toNatClampNeg), .int (xs (nI i + 2).toNatClampNeg), .int (xs (nI i + 3).toNatClampNeg)]) (rest := []) (v := r3 (rg (xs (nI i + 1).toNatClampNeg) 0 119) (rg (xs (nI i + 2).toNatClampNeg) 0 300) (rg (xs (nI i + 3).toNatClampNeg) 0 300) (ctI (sTab F (xs (nI i + 1).toNatClampNeg) (xs (nI i + 2).toNatClampNeg) (xs (nI i + 3).toNatClampNeg)) c)) (wc := xW q cs F n c g) ⟨hx, hb, hml, hown, hts⟩ (c_X4_table l D cs q F n c g (xs (nI i + 1).toNatClampNeg) (xs (nI i + 2).toNatClampNeg) (xs (nI i + 3).toNatClampNeg) hI) (cwV 3 hts gL_law_X4_table rfl rfl rfl (by decide +kernel) ⟨Nat.le_of_ble_eq_true rfl, Nat.le_of_ble_eq_true rfl⟩) hPx hK hN 0 rfl rfl rfl hl.1 rfl (Nat.le_of_ble_eq_true rfl) dL_law_427 ⟨Nat.le_of_ble_eq_true rfl, Nat.le_of_ble_eq_true rfl⟩ ?_
  refine lv_aload_n hx hb dL_law_430 rfl (lv_at hl 2 rfl) ?_
  refine lv_aload_n hx hb dL_law_431 rfl (lv_at hl 0 rfl) ?_
  refine lv_iload_n hx hb dL_law_432 rfl (lv_at hl 3 rfl) ?_
  refine lv_iconst (v := 1) hx hb dL_law_433 (by decide) ?_
  refine lv_iadd hx hb dL_law_434 ?_
  refine va_sld hx hb hX hbl hbA hS (lw_in1 hi hL) dL_law_435 ?_
  refine lv_aload_n hx hb dL_law_436 rfl (lv_at hl 0 rfl) ?_
  refine lv_iload_n hx hb dL_law_437 rfl (lv_at hl 3 rfl) ?_
  refine lv_iconst (v := 2) hx hb dL_law_438 (by decide) ?_
  refine lv_iadd hx hb dL_law_439 ?_
  refine va_sld hx hb hX hbl hbA hS (lw_in2 hi hL) dL_law_440 ?_
  refine lv_aload_n hx hb dL_law_441 rfl (lv_at hl 0 rfl) ?_
  refine lv_iload_n hx hb dL_law_442 rfl (lv_at hl 3 rfl) ?_
  refine lv_iconst (v := 3) hx hb dL_law_443 (by decide) ?_
  refine lv_iadd hx hb dL_law_444 ?_
  refine va_sld hx hb hX hbl hbA hS (lw_in3 hi hL) dL_law_445 ?_
  have hPm := va_P_l (va_P_r hP)
  refine roVi (As := [.int (xs (nI i + 1).toNatClampNeg), .int (xs (nI i + 2).toNatClampNeg), .int (xs (nI i + 3).toNatClampNeg)]) (rest := [.int (r3 (rg (xs (nI i + 1).toNatClampNeg) 0 119) (rg (xs (nI i + 2).toNatClampNeg) 0 300) (rg (xs (nI i + 3).toNatClampNeg) 0 300) (ctI (sTab F (xs (nI i + 1).toNatClampNeg) (xs (nI i + 2).toNatClampNeg) (xs (nI i + 3).toNatClampNeg)) c))]) (v := r3 (rg (xs (nI i + 1).toNatClampNeg) 0 119) (rg (xs (nI i + 2).toNatClampNeg) 0 300) (rg (xs (nI i + 3).toNatClampNeg) 0 300) (ctI (sTabM F (xs (nI i + 1).toNatClampNeg) (xs (nI i + 2).toNatClampNeg) (xs (nI i + 3).toNatClampNeg)) c)) (wc := mW q cs F n c g up lo) ⟨hx, hb, hml, hown, hts⟩ (c_X5_table l D cs q F n c g up lo (xs (nI i + 1).toNatClampNeg) (xs (nI i + 2).toNatClampNeg) (xs (nI i + 3).toNatClampNeg) hI) (cwV 3 hts gL_law_X5_table rfl rfl rfl (by decide +kernel) ⟨Nat.le_of_ble_eq_true rfl, Nat.le_of_ble_eq_true rfl⟩) hPm hK hN 0 rfl rfl rfl hl.1 rfl (Nat.le_of_ble_eq_true rfl) dL_law_446 ⟨Nat.le_of_ble_eq_true rfl, Nat.le_of_ble_eq_true rfl⟩ ?_
  refine lv_icmp_eq (tgt := 971) hx hb dL_law_449 (by decide) (fun c_1 => ?_) (fun c_1 => ?_)
  · exact K F n c g up lo H locs hI hP hD hS
  · exact absurd (by first | exact congrArg (r3 _ _ _) (e_table hI _ _ _) | exact (congrArg (r3 _ _ _) (e_table hI _ _ _)).symm) c_1

set_option maxHeartbeats 4000000 in
set_option maxRecDepth 100000 in
/-- the law calls exposed -/
theorem lw_exposed (hF : LFix p s m meth c_ D cs q b L xs i ls) (K : LCont p l e s m b below meth c_ D cs q ls) {F : Nat → Nat → Int32} {n c : Nat} {g : Int32} {up lo : Int64} {H : Heap} {locs : List Loc} (hI : Inv F n c) (hP : va_P D vwCl (LW q cs F n c g up lo) H) (hD : va_D (fun k => s.heap.size ≤ k) (LW q cs F n c g up lo)) (hS : va_S (fun k => s.heap.size ≤ k) s.heap H locs) : W p l e room_1 s m #[Value.ref b] below meth c_ H locs 100 9404 (lw_Z below #[Value.ref b] s) (F0 m 454 ls []) := by
  obtain ⟨hx, hb, hml, hown, hts, hX, hbl, hK, hN, hi, hL, hl⟩ := hF
  have hA : ∀ k : Nat, s.heap.size ≤ k → (fun k : Nat => s.heap.size ≤ k) k := fun _ h => h
  have hbA : ¬ (fun k : Nat => s.heap.size ≤ k) b := Nat.not_le.mpr hbl
  refine lv_aload_n hx hb dL_law_454 rfl (lv_at hl 1 rfl) ?_
  refine lv_aload_n hx hb dL_law_455 rfl (lv_at hl 0 rfl) ?_
  refine lv_iload_n hx hb dL_law_456 rfl (lv_at hl 3 rfl) ?_
  refine lv_iconst (v := 1) hx hb dL_law_457 (by decide) ?_
  refine lv_iadd hx hb dL_law_458 ?_
  refine va_sld hx hb hX hbl hbA hS (lw_in1 hi hL) dL_law_459 ?_
  refine lv_aload_n hx hb dL_law_460 rfl (lv_at hl 0 rfl) ?_
  refine lv_iload_n hx hb dL_law_461 rfl (lv_at hl 3 rfl) ?_
  refine lv_iconst (v := 2) hx hb dL_law_462 (by decide) ?_
  refine lv_iadd hx hb dL_law_463 ?_
  refine va_sld hx hb hX hbl hbA hS (lw_in2 hi hL) dL_law_464 ?_
  have hPx := lwX hP
  refine roVi (As := [.int (xs (nI i + 1).toNatClampNeg), .int (xs (nI i + 2).toNatClampNeg)]) (rest := []) (v := r2 (rg (xs (nI i + 1).toNatClampNeg) 0 300) (rg (xs (nI i + 2).toNatClampNeg) 0 300) (ctI (sExp F (xs (nI i + 1).toNatClampNeg) (xs (nI i + 2).toNatClampNeg)) n)) (wc := xW q cs F n c g) ⟨hx, hb, hml, hown, hts⟩ (c_X4_exposed l D cs q F n c g (xs (nI i + 1).toNatClampNeg) (xs (nI i + 2).toNatClampNeg) hI) (cwV 2 hts gL_law_X4_exposed rfl rfl rfl (by decide +kernel) ⟨Nat.le_of_ble_eq_true rfl, Nat.le_of_ble_eq_true rfl⟩) hPx hK hN 0 rfl rfl rfl hl.1 rfl (Nat.le_of_ble_eq_true rfl) dL_law_465 ⟨Nat.le_of_ble_eq_true rfl, Nat.le_of_ble_eq_true rfl⟩ ?_
  refine lv_aload_n hx hb dL_law_468 rfl (lv_at hl 2 rfl) ?_
  refine lv_aload_n hx hb dL_law_469 rfl (lv_at hl 0 rfl) ?_
  refine lv_iload_n hx hb dL_law_470 rfl (lv_at hl 3 rfl) ?_
  refine lv_iconst (v := 1) hx hb dL_law_471 (by decide) ?_
  refine lv_iadd hx hb dL_law_472 ?_
  refine va_sld hx hb hX hbl hbA hS (lw_in1 hi hL) dL_law_473 ?_
  refine lv_aload_n hx hb dL_law_474 rfl (lv_at hl 0 rfl) ?_
  refine lv_iload_n hx hb dL_law_475 rfl (lv_at hl 3 rfl) ?_
  refine lv_iconst (v := 2) hx hb dL_law_476 (by decide) ?_
  refine lv_iadd hx hb dL_law_477 ?_
  refine va_sld hx hb hX hbl hbA hS (lw_in2 hi hL) dL_law_478 ?_
  have hPm := va_P_l (va_P_r hP)
  refine roVi (As := [.int (xs (nI i + 1).toNatClampNeg), .int (xs (nI i + 2).toNatClampNeg)]) (rest := [.int (r2 (rg (xs (nI i + 1).toNatClampNeg) 0 300) (rg (xs (nI i + 2).toNatClampNeg) 0 300) (ctI (sExp F (xs (nI i + 1).toNatClampNeg) (xs (nI i + 2).toNatClampNeg)) n))]) (v := r2 (rg (xs (nI i + 1).toNatClampNeg) 0 300) (rg (xs (nI i + 2).toNatClampNeg) 0 300) (ctI (sExp F (xs (nI i + 1).toNatClampNeg) (xs (nI i + 2).toNatClampNeg)) n)) (wc := mW q cs F n c g up lo) ⟨hx, hb, hml, hown, hts⟩ (c_X5_exposed l D cs q F n c g up lo (xs (nI i + 1).toNatClampNeg) (xs (nI i + 2).toNatClampNeg) hI) (cwV 2 hts gL_law_X5_exposed rfl rfl rfl (by decide +kernel) ⟨Nat.le_of_ble_eq_true rfl, Nat.le_of_ble_eq_true rfl⟩) hPm hK hN 0 rfl rfl rfl hl.1 rfl (Nat.le_of_ble_eq_true rfl) dL_law_479 ⟨Nat.le_of_ble_eq_true rfl, Nat.le_of_ble_eq_true rfl⟩ ?_
  refine lv_icmp_eq (tgt := 971) hx hb dL_law_482 (by decide) (fun c_1 => ?_) (fun c_1 => ?_)
  · exact K F n c g up lo H locs hI hP hD hS
  · exact absurd (by first | exact rfl | exact (rfl).symm) c_1

set_option maxHeartbeats 4000000 in
set_option maxRecDepth 100000 in
/-- the law calls rate -/
theorem lw_rate (hF : LFix p s m meth c_ D cs q b L xs i ls) (K : LCont p l e s m b below meth c_ D cs q ls) {F : Nat → Nat → Int32} {n c : Nat} {g : Int32} {up lo : Int64} {H : Heap} {locs : List Loc} (hI : Inv F n c) (hP : va_P D vwCl (LW q cs F n c g up lo) H) (hD : va_D (fun k => s.heap.size ≤ k) (LW q cs F n c g up lo)) (hS : va_S (fun k => s.heap.size ≤ k) s.heap H locs) : W p l e room_1 s m #[Value.ref b] below meth c_ H locs 100 9404 (lw_Z below #[Value.ref b] s) (F0 m 487 ls []) := by
  obtain ⟨hx, hb, hml, hown, hts, hX, hbl, hK, hN, hi, hL, hl⟩ := hF
  have hA : ∀ k : Nat, s.heap.size ≤ k → (fun k : Nat => s.heap.size ≤ k) k := fun _ h => h
  have hbA : ¬ (fun k : Nat => s.heap.size ≤ k) b := Nat.not_le.mpr hbl
  refine lv_aload_n hx hb dL_law_487 rfl (lv_at hl 1 rfl) ?_
  refine lv_aload_n hx hb dL_law_488 rfl (lv_at hl 0 rfl) ?_
  refine lv_iload_n hx hb dL_law_489 rfl (lv_at hl 3 rfl) ?_
  refine lv_iconst (v := 1) hx hb dL_law_490 (by decide) ?_
  refine lv_iadd hx hb dL_law_491 ?_
  refine va_sld hx hb hX hbl hbA hS (lw_in1 hi hL) dL_law_492 ?_
  refine lv_aload_n hx hb dL_law_493 rfl (lv_at hl 0 rfl) ?_
  refine lv_iload_n hx hb dL_law_494 rfl (lv_at hl 3 rfl) ?_
  refine lv_iconst (v := 2) hx hb dL_law_495 (by decide) ?_
  refine lv_iadd hx hb dL_law_496 ?_
  refine va_sld hx hb hX hbl hbA hS (lw_in2 hi hL) dL_law_497 ?_
  refine lv_aload_n hx hb dL_law_498 rfl (lv_at hl 0 rfl) ?_
  refine lv_iload_n hx hb dL_law_499 rfl (lv_at hl 3 rfl) ?_
  refine lv_iconst (v := 3) hx hb dL_law_500 (by decide) ?_
  refine lv_iadd hx hb dL_law_501 ?_
  refine va_sld hx hb hX hbl hbA hS (lw_in3 hi hL) dL_law_502 ?_
  have hPx := lwX hP
  refine roVi (As := [.int (xs (nI i + 1).toNatClampNeg), .int (xs (nI i + 2).toNatClampNeg), .int (xs (nI i + 3).toNatClampNeg)]) (rest := []) (v := aRate F n c (sAge F (xs (nI i + 1).toNatClampNeg) (xs (nI i + 2).toNatClampNeg)) (xs (nI i + 1).toNatClampNeg) (xs (nI i + 2).toNatClampNeg) (xs (nI i + 3).toNatClampNeg)) (wc := xW q cs F n c g) ⟨hx, hb, hml, hown, hts⟩ (c_X4_rate l D cs q F n c g (xs (nI i + 1).toNatClampNeg) (xs (nI i + 2).toNatClampNeg) (xs (nI i + 3).toNatClampNeg) hI) (cwV 3 hts gL_law_X4_rate rfl rfl rfl (by decide +kernel) ⟨Nat.le_of_ble_eq_true rfl, Nat.le_of_ble_eq_true rfl⟩) hPx hK hN 0 rfl rfl rfl hl.1 rfl (Nat.le_of_ble_eq_true rfl) dL_law_503 ⟨Nat.le_of_ble_eq_true rfl, Nat.le_of_ble_eq_true rfl⟩ ?_
  refine lv_aload_n hx hb dL_law_506 rfl (lv_at hl 2 rfl) ?_
  refine lv_aload_n hx hb dL_law_507 rfl (lv_at hl 0 rfl) ?_
  refine lv_iload_n hx hb dL_law_508 rfl (lv_at hl 3 rfl) ?_
  refine lv_iconst (v := 1) hx hb dL_law_509 (by decide) ?_
  refine lv_iadd hx hb dL_law_510 ?_
  refine va_sld hx hb hX hbl hbA hS (lw_in1 hi hL) dL_law_511 ?_
  refine lv_aload_n hx hb dL_law_512 rfl (lv_at hl 0 rfl) ?_
  refine lv_iload_n hx hb dL_law_513 rfl (lv_at hl 3 rfl) ?_
  refine lv_iconst (v := 2) hx hb dL_law_514 (by decide) ?_
  refine lv_iadd hx hb dL_law_515 ?_
  refine va_sld hx hb hX hbl hbA hS (lw_in2 hi hL) dL_law_516 ?_
  refine lv_aload_n hx hb dL_law_517 rfl (lv_at hl 0 rfl) ?_
  refine lv_iload_n hx hb dL_law_518 rfl (lv_at hl 3 rfl) ?_
  refine lv_iconst (v := 3) hx hb dL_law_519 (by decide) ?_
  refine lv_iadd hx hb dL_law_520 ?_
  refine va_sld hx hb hX hbl hbA hS (lw_in3 hi hL) dL_law_521 ?_
  have hPm := va_P_l (va_P_r hP)
  refine roVi (As := [.int (xs (nI i + 1).toNatClampNeg), .int (xs (nI i + 2).toNatClampNeg), .int (xs (nI i + 3).toNatClampNeg)]) (rest := [.int (aRate F n c (sAge F (xs (nI i + 1).toNatClampNeg) (xs (nI i + 2).toNatClampNeg)) (xs (nI i + 1).toNatClampNeg) (xs (nI i + 2).toNatClampNeg) (xs (nI i + 3).toNatClampNeg))]) (v := aRate F n c (sAgeM F (xs (nI i + 1).toNatClampNeg) (xs (nI i + 2).toNatClampNeg)) (xs (nI i + 1).toNatClampNeg) (xs (nI i + 2).toNatClampNeg) (xs (nI i + 3).toNatClampNeg)) (wc := mW q cs F n c g up lo) ⟨hx, hb, hml, hown, hts⟩ (c_X5_rate l D cs q F n c g up lo (xs (nI i + 1).toNatClampNeg) (xs (nI i + 2).toNatClampNeg) (xs (nI i + 3).toNatClampNeg) hI) (cwV 3 hts gL_law_X5_rate rfl rfl rfl (by decide +kernel) ⟨Nat.le_of_ble_eq_true rfl, Nat.le_of_ble_eq_true rfl⟩) hPm hK hN 0 rfl rfl rfl hl.1 rfl (Nat.le_of_ble_eq_true rfl) dL_law_522 ⟨Nat.le_of_ble_eq_true rfl, Nat.le_of_ble_eq_true rfl⟩ ?_
  refine lv_icmp_eq (tgt := 971) hx hb dL_law_525 (by decide) (fun c_1 => ?_) (fun c_1 => ?_)
  · exact K F n c g up lo H locs hI hP hD hS
  · exact absurd (by first | exact e_rate hI _ _ _ | exact (e_rate hI _ _ _).symm) c_1

set_option maxHeartbeats 4000000 in
set_option maxRecDepth 100000 in
/-- the law calls delays -/
theorem lw_delays (hF : LFix p s m meth c_ D cs q b L xs i ls) (K : LCont p l e s m b below meth c_ D cs q ls) {F : Nat → Nat → Int32} {n c : Nat} {g : Int32} {up lo : Int64} {H : Heap} {locs : List Loc} (hI : Inv F n c) (hP : va_P D vwCl (LW q cs F n c g up lo) H) (hD : va_D (fun k => s.heap.size ≤ k) (LW q cs F n c g up lo)) (hS : va_S (fun k => s.heap.size ≤ k) s.heap H locs) : W p l e room_1 s m #[Value.ref b] below meth c_ H locs 100 9404 (lw_Z below #[Value.ref b] s) (F0 m 530 ls []) := by
  obtain ⟨hx, hb, hml, hown, hts, hX, hbl, hK, hN, hi, hL, hl⟩ := hF
  have hA : ∀ k : Nat, s.heap.size ≤ k → (fun k : Nat => s.heap.size ≤ k) k := fun _ h => h
  have hbA : ¬ (fun k : Nat => s.heap.size ≤ k) b := Nat.not_le.mpr hbl
  refine lv_aload_n hx hb dL_law_530 rfl (lv_at hl 1 rfl) ?_
  refine lv_aload_n hx hb dL_law_531 rfl (lv_at hl 0 rfl) ?_
  refine lv_iload_n hx hb dL_law_532 rfl (lv_at hl 3 rfl) ?_
  refine lv_iconst (v := 1) hx hb dL_law_533 (by decide) ?_
  refine lv_iadd hx hb dL_law_534 ?_
  refine va_sld hx hb hX hbl hbA hS (lw_in1 hi hL) dL_law_535 ?_
  refine lv_aload_n hx hb dL_law_536 rfl (lv_at hl 0 rfl) ?_
  refine lv_iload_n hx hb dL_law_537 rfl (lv_at hl 3 rfl) ?_
  refine lv_iconst (v := 2) hx hb dL_law_538 (by decide) ?_
  refine lv_iadd hx hb dL_law_539 ?_
  refine va_sld hx hb hX hbl hbA hS (lw_in2 hi hL) dL_law_540 ?_
  have hPx := lwX hP
  refine roVi (As := [.int (xs (nI i + 1).toNatClampNeg), .int (xs (nI i + 2).toNatClampNeg)]) (rest := []) (v := r2 (rg (xs (nI i + 1).toNatClampNeg) 0 300) (rg (xs (nI i + 2).toNatClampNeg) 0 11) (ctI (sDel F (xs (nI i + 2).toNatClampNeg) (xs (nI i + 2).toNatClampNeg) (xs (nI i + 1).toNatClampNeg)) c)) (wc := xW q cs F n c g) ⟨hx, hb, hml, hown, hts⟩ (c_X4_delays l D cs q F n c g (xs (nI i + 1).toNatClampNeg) (xs (nI i + 2).toNatClampNeg) hI) (cwV 2 hts gL_law_X4_delays rfl rfl rfl (by decide +kernel) ⟨Nat.le_of_ble_eq_true rfl, Nat.le_of_ble_eq_true rfl⟩) hPx hK hN 0 rfl rfl rfl hl.1 rfl (Nat.le_of_ble_eq_true rfl) dL_law_541 ⟨Nat.le_of_ble_eq_true rfl, Nat.le_of_ble_eq_true rfl⟩ ?_
  refine lv_aload_n hx hb dL_law_544 rfl (lv_at hl 2 rfl) ?_
  refine lv_aload_n hx hb dL_law_545 rfl (lv_at hl 0 rfl) ?_
  refine lv_iload_n hx hb dL_law_546 rfl (lv_at hl 3 rfl) ?_
  refine lv_iconst (v := 1) hx hb dL_law_547 (by decide) ?_
  refine lv_iadd hx hb dL_law_548 ?_
  refine va_sld hx hb hX hbl hbA hS (lw_in1 hi hL) dL_law_549 ?_
  refine lv_aload_n hx hb dL_law_550 rfl (lv_at hl 0 rfl) ?_
  refine lv_iload_n hx hb dL_law_551 rfl (lv_at hl 3 rfl) ?_
  refine lv_iconst (v := 2) hx hb dL_law_552 (by decide) ?_
  refine lv_iadd hx hb dL_law_553 ?_
  refine va_sld hx hb hX hbl hbA hS (lw_in2 hi hL) dL_law_554 ?_
  have hPm := va_P_l (va_P_r hP)
  refine roVi (As := [.int (xs (nI i + 1).toNatClampNeg), .int (xs (nI i + 2).toNatClampNeg)]) (rest := [.int (r2 (rg (xs (nI i + 1).toNatClampNeg) 0 300) (rg (xs (nI i + 2).toNatClampNeg) 0 11) (ctI (sDel F (xs (nI i + 2).toNatClampNeg) (xs (nI i + 2).toNatClampNeg) (xs (nI i + 1).toNatClampNeg)) c))]) (v := r2 (rg (xs (nI i + 1).toNatClampNeg) 0 300) (rg (xs (nI i + 2).toNatClampNeg) 0 11) (ctI (sDelM F (xs (nI i + 2).toNatClampNeg) (xs (nI i + 1).toNatClampNeg)) c)) (wc := mW q cs F n c g up lo) ⟨hx, hb, hml, hown, hts⟩ (c_X5_delays l D cs q F n c g up lo (xs (nI i + 1).toNatClampNeg) (xs (nI i + 2).toNatClampNeg) hI) (cwV 2 hts gL_law_X5_delays rfl rfl rfl (by decide +kernel) ⟨Nat.le_of_ble_eq_true rfl, Nat.le_of_ble_eq_true rfl⟩) hPm hK hN 0 rfl rfl rfl hl.1 rfl (Nat.le_of_ble_eq_true rfl) dL_law_555 ⟨Nat.le_of_ble_eq_true rfl, Nat.le_of_ble_eq_true rfl⟩ ?_
  refine lv_icmp_eq (tgt := 971) hx hb dL_law_558 (by decide) (fun c_1 => ?_) (fun c_1 => ?_)
  · exact K F n c g up lo H locs hI hP hD hS
  · exact absurd (by first | exact congrArg (r2 _ _) (e_del _ _) | exact (congrArg (r2 _ _) (e_del _ _)).symm) c_1

set_option maxHeartbeats 4000000 in
set_option maxRecDepth 100000 in
/-- the law calls undone -/
theorem lw_undone (hF : LFix p s m meth c_ D cs q b L xs i ls) (K : LCont p l e s m b below meth c_ D cs q ls) {F : Nat → Nat → Int32} {n c : Nat} {g : Int32} {up lo : Int64} {H : Heap} {locs : List Loc} (hI : Inv F n c) (hP : va_P D vwCl (LW q cs F n c g up lo) H) (hD : va_D (fun k => s.heap.size ≤ k) (LW q cs F n c g up lo)) (hS : va_S (fun k => s.heap.size ≤ k) s.heap H locs) : W p l e room_1 s m #[Value.ref b] below meth c_ H locs 100 9404 (lw_Z below #[Value.ref b] s) (F0 m 563 ls []) := by
  obtain ⟨hx, hb, hml, hown, hts, hX, hbl, hK, hN, hi, hL, hl⟩ := hF
  have hA : ∀ k : Nat, s.heap.size ≤ k → (fun k : Nat => s.heap.size ≤ k) k := fun _ h => h
  have hbA : ¬ (fun k : Nat => s.heap.size ≤ k) b := Nat.not_le.mpr hbl
  refine lv_aload_n hx hb dL_law_563 rfl (lv_at hl 1 rfl) ?_
  refine lv_aload_n hx hb dL_law_564 rfl (lv_at hl 0 rfl) ?_
  refine lv_iload_n hx hb dL_law_565 rfl (lv_at hl 3 rfl) ?_
  refine lv_iconst (v := 1) hx hb dL_law_566 (by decide) ?_
  refine lv_iadd hx hb dL_law_567 ?_
  refine va_sld hx hb hX hbl hbA hS (lw_in1 hi hL) dL_law_568 ?_
  refine lv_aload_n hx hb dL_law_569 rfl (lv_at hl 0 rfl) ?_
  refine lv_iload_n hx hb dL_law_570 rfl (lv_at hl 3 rfl) ?_
  refine lv_iconst (v := 2) hx hb dL_law_571 (by decide) ?_
  refine lv_iadd hx hb dL_law_572 ?_
  refine va_sld hx hb hX hbl hbA hS (lw_in2 hi hL) dL_law_573 ?_
  have hPx := lwX hP
  refine roVi (As := [.int (xs (nI i + 1).toNatClampNeg), .int (xs (nI i + 2).toNatClampNeg)]) (rest := []) (v := aUndC F c (xs (nI i + 1).toNatClampNeg) (xs (nI i + 2).toNatClampNeg)) (wc := xW q cs F n c g) ⟨hx, hb, hml, hown, hts⟩ (c_X4_undone l D cs q F n c g (xs (nI i + 1).toNatClampNeg) (xs (nI i + 2).toNatClampNeg) hI) (cwV 2 hts gL_law_X4_undone rfl rfl rfl (by decide +kernel) ⟨Nat.le_of_ble_eq_true rfl, Nat.le_of_ble_eq_true rfl⟩) hPx hK hN 0 rfl rfl rfl hl.1 rfl (Nat.le_of_ble_eq_true rfl) dL_law_574 ⟨Nat.le_of_ble_eq_true rfl, Nat.le_of_ble_eq_true rfl⟩ ?_
  refine lv_aload_n hx hb dL_law_577 rfl (lv_at hl 2 rfl) ?_
  refine lv_aload_n hx hb dL_law_578 rfl (lv_at hl 0 rfl) ?_
  refine lv_iload_n hx hb dL_law_579 rfl (lv_at hl 3 rfl) ?_
  refine lv_iconst (v := 1) hx hb dL_law_580 (by decide) ?_
  refine lv_iadd hx hb dL_law_581 ?_
  refine va_sld hx hb hX hbl hbA hS (lw_in1 hi hL) dL_law_582 ?_
  refine lv_aload_n hx hb dL_law_583 rfl (lv_at hl 0 rfl) ?_
  refine lv_iload_n hx hb dL_law_584 rfl (lv_at hl 3 rfl) ?_
  refine lv_iconst (v := 2) hx hb dL_law_585 (by decide) ?_
  refine lv_iadd hx hb dL_law_586 ?_
  refine va_sld hx hb hX hbl hbA hS (lw_in2 hi hL) dL_law_587 ?_
  have hPm := va_P_l (va_P_r hP)
  refine roVi (As := [.int (xs (nI i + 1).toNatClampNeg), .int (xs (nI i + 2).toNatClampNeg)]) (rest := [.int (aUndC F c (xs (nI i + 1).toNatClampNeg) (xs (nI i + 2).toNatClampNeg))]) (v := aUndM F c (xs (nI i + 1).toNatClampNeg) (xs (nI i + 2).toNatClampNeg)) (wc := mW q cs F n c g up lo) ⟨hx, hb, hml, hown, hts⟩ (c_X5_undone l D cs q F n c g up lo (xs (nI i + 1).toNatClampNeg) (xs (nI i + 2).toNatClampNeg) hI) (cwV 2 hts gL_law_X5_undone rfl rfl rfl (by decide +kernel) ⟨Nat.le_of_ble_eq_true rfl, Nat.le_of_ble_eq_true rfl⟩) hPm hK hN 0 rfl rfl rfl hl.1 rfl (Nat.le_of_ble_eq_true rfl) dL_law_588 ⟨Nat.le_of_ble_eq_true rfl, Nat.le_of_ble_eq_true rfl⟩ ?_
  refine lv_icmp_eq (tgt := 971) hx hb dL_law_591 (by decide) (fun c_1 => ?_) (fun c_1 => ?_)
  · exact K F n c g up lo H locs hI hP hD hS
  · exact absurd (by first | exact e_undone hI _ _ | exact (e_undone hI _ _).symm) c_1

set_option maxHeartbeats 4000000 in
set_option maxRecDepth 100000 in
/-- the law calls payer -/
theorem lw_payer (hF : LFix p s m meth c_ D cs q b L xs i ls) (K : LCont p l e s m b below meth c_ D cs q ls) {F : Nat → Nat → Int32} {n c : Nat} {g : Int32} {up lo : Int64} {H : Heap} {locs : List Loc} (hI : Inv F n c) (hP : va_P D vwCl (LW q cs F n c g up lo) H) (hD : va_D (fun k => s.heap.size ≤ k) (LW q cs F n c g up lo)) (hS : va_S (fun k => s.heap.size ≤ k) s.heap H locs) : W p l e room_1 s m #[Value.ref b] below meth c_ H locs 100 9404 (lw_Z below #[Value.ref b] s) (F0 m 759 ls []) := by
  obtain ⟨hx, hb, hml, hown, hts, hX, hbl, hK, hN, hi, hL, hl⟩ := hF
  have hA : ∀ k : Nat, s.heap.size ≤ k → (fun k : Nat => s.heap.size ≤ k) k := fun _ h => h
  have hbA : ¬ (fun k : Nat => s.heap.size ≤ k) b := Nat.not_le.mpr hbl
  refine lv_aload_n hx hb dL_law_759 rfl (lv_at hl 1 rfl) ?_
  refine lv_aload_n hx hb dL_law_760 rfl (lv_at hl 0 rfl) ?_
  refine lv_iload_n hx hb dL_law_761 rfl (lv_at hl 3 rfl) ?_
  refine lv_iconst (v := 1) hx hb dL_law_762 (by decide) ?_
  refine lv_iadd hx hb dL_law_763 ?_
  refine va_sld hx hb hX hbl hbA hS (lw_in1 hi hL) dL_law_764 ?_
  have hPx := lwX hP
  refine roVi (As := [.int (xs (nI i + 1).toNatClampNeg)]) (rest := []) (v := aPayer F (xs (nI i + 1).toNatClampNeg)) (wc := xW q cs F n c g) ⟨hx, hb, hml, hown, hts⟩ (c_X4_payer l D cs q F n c g (xs (nI i + 1).toNatClampNeg) hI) (cwV 1 hts gL_law_X4_payer rfl rfl rfl (by decide +kernel) ⟨Nat.le_of_ble_eq_true rfl, Nat.le_of_ble_eq_true rfl⟩) hPx hK hN 0 rfl rfl rfl hl.1 rfl (Nat.le_of_ble_eq_true rfl) dL_law_765 ⟨Nat.le_of_ble_eq_true rfl, Nat.le_of_ble_eq_true rfl⟩ ?_
  refine lv_aload_n hx hb dL_law_768 rfl (lv_at hl 2 rfl) ?_
  refine lv_aload_n hx hb dL_law_769 rfl (lv_at hl 0 rfl) ?_
  refine lv_iload_n hx hb dL_law_770 rfl (lv_at hl 3 rfl) ?_
  refine lv_iconst (v := 1) hx hb dL_law_771 (by decide) ?_
  refine lv_iadd hx hb dL_law_772 ?_
  refine va_sld hx hb hX hbl hbA hS (lw_in1 hi hL) dL_law_773 ?_
  have hPm := va_P_l (va_P_r hP)
  refine roVi (As := [.int (xs (nI i + 1).toNatClampNeg)]) (rest := [.int (aPayer F (xs (nI i + 1).toNatClampNeg))]) (v := aPayer F (xs (nI i + 1).toNatClampNeg)) (wc := mW q cs F n c g up lo) ⟨hx, hb, hml, hown, hts⟩ (c_X5_payer l D cs q F n c g up lo (xs (nI i + 1).toNatClampNeg) hI) (cwV 1 hts gL_law_X5_payer rfl rfl rfl (by decide +kernel) ⟨Nat.le_of_ble_eq_true rfl, Nat.le_of_ble_eq_true rfl⟩) hPm hK hN 0 rfl rfl rfl hl.1 rfl (Nat.le_of_ble_eq_true rfl) dL_law_774 ⟨Nat.le_of_ble_eq_true rfl, Nat.le_of_ble_eq_true rfl⟩ ?_
  refine lv_icmp_eq (tgt := 971) hx hb dL_law_777 (by decide) (fun c_1 => ?_) (fun c_1 => ?_)
  · exact K F n c g up lo H locs hI hP hD hS
  · exact absurd (by first | exact rfl | exact (rfl).symm) c_1

set_option maxHeartbeats 4000000 in
set_option maxRecDepth 100000 in
/-- the law calls pays -/
theorem lw_pays (hF : LFix p s m meth c_ D cs q b L xs i ls) (K : LCont p l e s m b below meth c_ D cs q ls) {F : Nat → Nat → Int32} {n c : Nat} {g : Int32} {up lo : Int64} {H : Heap} {locs : List Loc} (hI : Inv F n c) (hP : va_P D vwCl (LW q cs F n c g up lo) H) (hD : va_D (fun k => s.heap.size ≤ k) (LW q cs F n c g up lo)) (hS : va_S (fun k => s.heap.size ≤ k) s.heap H locs) : W p l e room_1 s m #[Value.ref b] below meth c_ H locs 100 9404 (lw_Z below #[Value.ref b] s) (F0 m 782 ls []) := by
  obtain ⟨hx, hb, hml, hown, hts, hX, hbl, hK, hN, hi, hL, hl⟩ := hF
  have hA : ∀ k : Nat, s.heap.size ≤ k → (fun k : Nat => s.heap.size ≤ k) k := fun _ h => h
  have hbA : ¬ (fun k : Nat => s.heap.size ≤ k) b := Nat.not_le.mpr hbl
  refine lv_aload_n hx hb dL_law_782 rfl (lv_at hl 1 rfl) ?_
  refine lv_aload_n hx hb dL_law_783 rfl (lv_at hl 0 rfl) ?_
  refine lv_iload_n hx hb dL_law_784 rfl (lv_at hl 3 rfl) ?_
  refine lv_iconst (v := 1) hx hb dL_law_785 (by decide) ?_
  refine lv_iadd hx hb dL_law_786 ?_
  refine va_sld hx hb hX hbl hbA hS (lw_in1 hi hL) dL_law_787 ?_
  have hPx := lwX hP
  refine roVi (As := [.int (xs (nI i + 1).toNatClampNeg)]) (rest := []) (v := aPays F c (xs (nI i + 1).toNatClampNeg)) (wc := xW q cs F n c g) ⟨hx, hb, hml, hown, hts⟩ (c_X4_pays l D cs q F n c g (xs (nI i + 1).toNatClampNeg) hI) (cwV 1 hts gL_law_X4_pays rfl rfl rfl (by decide +kernel) ⟨Nat.le_of_ble_eq_true rfl, Nat.le_of_ble_eq_true rfl⟩) hPx hK hN 0 rfl rfl rfl hl.1 rfl (Nat.le_of_ble_eq_true rfl) dL_law_788 ⟨Nat.le_of_ble_eq_true rfl, Nat.le_of_ble_eq_true rfl⟩ ?_
  refine lv_aload_n hx hb dL_law_791 rfl (lv_at hl 2 rfl) ?_
  refine lv_aload_n hx hb dL_law_792 rfl (lv_at hl 0 rfl) ?_
  refine lv_iload_n hx hb dL_law_793 rfl (lv_at hl 3 rfl) ?_
  refine lv_iconst (v := 1) hx hb dL_law_794 (by decide) ?_
  refine lv_iadd hx hb dL_law_795 ?_
  refine va_sld hx hb hX hbl hbA hS (lw_in1 hi hL) dL_law_796 ?_
  have hPm := va_P_l (va_P_r hP)
  refine roVi (As := [.int (xs (nI i + 1).toNatClampNeg)]) (rest := [.int (aPays F c (xs (nI i + 1).toNatClampNeg))]) (v := aPays F c (xs (nI i + 1).toNatClampNeg)) (wc := mW q cs F n c g up lo) ⟨hx, hb, hml, hown, hts⟩ (c_X5_pays l D cs q F n c g up lo (xs (nI i + 1).toNatClampNeg) hI) (cwV 1 hts gL_law_X5_pays rfl rfl rfl (by decide +kernel) ⟨Nat.le_of_ble_eq_true rfl, Nat.le_of_ble_eq_true rfl⟩) hPm hK hN 0 rfl rfl rfl hl.1 rfl (Nat.le_of_ble_eq_true rfl) dL_law_797 ⟨Nat.le_of_ble_eq_true rfl, Nat.le_of_ble_eq_true rfl⟩ ?_
  refine lv_icmp_eq (tgt := 971) hx hb dL_law_800 (by decide) (fun c_1 => ?_) (fun c_1 => ?_)
  · exact K F n c g up lo H locs hI hP hD hS
  · exact absurd (by first | exact rfl | exact (rfl).symm) c_1

set_option maxHeartbeats 4000000 in
set_option maxRecDepth 100000 in
/-- the law calls left -/
theorem lw_left (hF : LFix p s m meth c_ D cs q b L xs i ls) (K : LCont p l e s m b below meth c_ D cs q ls) {F : Nat → Nat → Int32} {n c : Nat} {g : Int32} {up lo : Int64} {H : Heap} {locs : List Loc} (hI : Inv F n c) (hP : va_P D vwCl (LW q cs F n c g up lo) H) (hD : va_D (fun k => s.heap.size ≤ k) (LW q cs F n c g up lo)) (hS : va_S (fun k => s.heap.size ≤ k) s.heap H locs) : W p l e room_1 s m #[Value.ref b] below meth c_ H locs 100 9404 (lw_Z below #[Value.ref b] s) (F0 m 805 ls []) := by
  obtain ⟨hx, hb, hml, hown, hts, hX, hbl, hK, hN, hi, hL, hl⟩ := hF
  have hA : ∀ k : Nat, s.heap.size ≤ k → (fun k : Nat => s.heap.size ≤ k) k := fun _ h => h
  have hbA : ¬ (fun k : Nat => s.heap.size ≤ k) b := Nat.not_le.mpr hbl
  refine lv_aload_n hx hb dL_law_805 rfl (lv_at hl 1 rfl) ?_
  have hPx := lwX hP
  refine roVi (As := []) (rest := []) (v := sbI (fun j => smI (sPaid F (nI j)) c) (smI (sCost F) c) 6) (wc := xW q cs F n c g) ⟨hx, hb, hml, hown, hts⟩ (c_X4_left l D cs q F n c g  hI) (cwV 0 hts gL_law_X4_left rfl rfl rfl (by decide +kernel) ⟨Nat.le_of_ble_eq_true rfl, Nat.le_of_ble_eq_true rfl⟩) hPx hK hN 0 rfl rfl rfl hl.1 rfl (Nat.le_of_ble_eq_true rfl) dL_law_806 ⟨Nat.le_of_ble_eq_true rfl, Nat.le_of_ble_eq_true rfl⟩ ?_
  refine lv_aload_n hx hb dL_law_809 rfl (lv_at hl 2 rfl) ?_
  have hPm := va_P_l (va_P_r hP)
  refine roVi (As := []) (rest := [.int (sbI (fun j => smI (sPaid F (nI j)) c) (smI (sCost F) c) 6)]) (v := sbI (sPaid F (-1)) (smI (sCost F) c) c) (wc := mW q cs F n c g up lo) ⟨hx, hb, hml, hown, hts⟩ (c_X5_left l D cs q F n c g up lo  hI) (cwV 0 hts gL_law_X5_left rfl rfl rfl (by decide +kernel) ⟨Nat.le_of_ble_eq_true rfl, Nat.le_of_ble_eq_true rfl⟩) hPm hK hN 0 rfl rfl rfl hl.1 rfl (Nat.le_of_ble_eq_true rfl) dL_law_810 ⟨Nat.le_of_ble_eq_true rfl, Nat.le_of_ble_eq_true rfl⟩ ?_
  refine lv_icmp_eq (tgt := 971) hx hb dL_law_813 (by decide) (fun c_1 => ?_) (fun c_1 => ?_)
  · exact K F n c g up lo H locs hI hP hD hS
  · exact absurd (by first | exact e_left hI | exact (e_left hI).symm) c_1

set_option maxHeartbeats 4000000 in
set_option maxRecDepth 100000 in
/-- the law calls called -/
theorem lw_called (hF : LFix p s m meth c_ D cs q b L xs i ls) (K : LCont p l e s m b below meth c_ D cs q ls) {F : Nat → Nat → Int32} {n c : Nat} {g : Int32} {up lo : Int64} {H : Heap} {locs : List Loc} (hI : Inv F n c) (hP : va_P D vwCl (LW q cs F n c g up lo) H) (hD : va_D (fun k => s.heap.size ≤ k) (LW q cs F n c g up lo)) (hS : va_S (fun k => s.heap.size ≤ k) s.heap H locs) : W p l e room_1 s m #[Value.ref b] below meth c_ H locs 100 9404 (lw_Z below #[Value.ref b] s) (F0 m 818 ls []) := by
  obtain ⟨hx, hb, hml, hown, hts, hX, hbl, hK, hN, hi, hL, hl⟩ := hF
  have hA : ∀ k : Nat, s.heap.size ≤ k → (fun k : Nat => s.heap.size ≤ k) k := fun _ h => h
  have hbA : ¬ (fun k : Nat => s.heap.size ≤ k) b := Nat.not_le.mpr hbl
  refine lv_aload_n hx hb dL_law_818 rfl (lv_at hl 1 rfl) ?_
  refine lv_aload_n hx hb dL_law_819 rfl (lv_at hl 0 rfl) ?_
  refine lv_iload_n hx hb dL_law_820 rfl (lv_at hl 3 rfl) ?_
  refine lv_iconst (v := 1) hx hb dL_law_821 (by decide) ?_
  refine lv_iadd hx hb dL_law_822 ?_
  refine va_sld hx hb hX hbl hbA hS (lw_in1 hi hL) dL_law_823 ?_
  refine lv_aload_n hx hb dL_law_824 rfl (lv_at hl 0 rfl) ?_
  refine lv_iload_n hx hb dL_law_825 rfl (lv_at hl 3 rfl) ?_
  refine lv_iconst (v := 2) hx hb dL_law_826 (by decide) ?_
  refine lv_iadd hx hb dL_law_827 ?_
  refine va_sld hx hb hX hbl hbA hS (lw_in2 hi hL) dL_law_828 ?_
  refine lv_aload_n hx hb dL_law_829 rfl (lv_at hl 0 rfl) ?_
  refine lv_iload_n hx hb dL_law_830 rfl (lv_at hl 3 rfl) ?_
  refine lv_iconst (v := 3) hx hb dL_law_831 (by decide) ?_
  refine lv_iadd hx hb dL_law_832 ?_
  refine va_sld hx hb hX hbl hbA hS (lw_in3 hi hL) dL_law_833 ?_
  refine lv_aload_n hx hb dL_law_834 rfl (lv_at hl 0 rfl) ?_
  refine lv_iload_n hx hb dL_law_835 rfl (lv_at hl 3 rfl) ?_
  refine lv_iconst (v := 4) hx hb dL_law_836 (by decide) ?_
  refine lv_iadd hx hb dL_law_837 ?_
  refine va_sld hx hb hX hbl hbA hS (lw_in4 hi hL) dL_law_838 ?_
  have hPx := lwX hP
  refine roVi (As := [.int (xs (nI i + 1).toNatClampNeg), .int (xs (nI i + 2).toNatClampNeg), .int (xs (nI i + 3).toNatClampNeg), .int (xs (nI i + 4).toNatClampNeg)]) (rest := []) (v := if canK (xs (nI i + 1).toNatClampNeg) (xs (nI i + 2).toNatClampNeg) (xs (nI i + 3).toNatClampNeg) (xs (nI i + 4).toNatClampNeg) = true then nI (ctN (bitL (cald F n c (xs (nI i + 1).toNatClampNeg) (xs (nI i + 2).toNatClampNeg) (xs (nI i + 3).toNatClampNeg) (xs (nI i + 4).toNatClampNeg))) 64) else -2) (wc := xW q cs F n c g) ⟨hx, hb, hml, hown, hts⟩ (c_X4_called l D cs q F n c g (xs (nI i + 1).toNatClampNeg) (xs (nI i + 2).toNatClampNeg) (xs (nI i + 3).toNatClampNeg) (xs (nI i + 4).toNatClampNeg) hI) (cwV 4 hts gL_law_X4_called rfl rfl rfl (by decide +kernel) ⟨Nat.le_of_ble_eq_true rfl, Nat.le_of_ble_eq_true rfl⟩) hPx hK hN 0 rfl rfl rfl hl.1 rfl (Nat.le_of_ble_eq_true rfl) dL_law_839 ⟨Nat.le_of_ble_eq_true rfl, Nat.le_of_ble_eq_true rfl⟩ ?_
  refine lv_aload_n hx hb dL_law_842 rfl (lv_at hl 2 rfl) ?_
  refine lv_aload_n hx hb dL_law_843 rfl (lv_at hl 0 rfl) ?_
  refine lv_iload_n hx hb dL_law_844 rfl (lv_at hl 3 rfl) ?_
  refine lv_iconst (v := 1) hx hb dL_law_845 (by decide) ?_
  refine lv_iadd hx hb dL_law_846 ?_
  refine va_sld hx hb hX hbl hbA hS (lw_in1 hi hL) dL_law_847 ?_
  refine lv_aload_n hx hb dL_law_848 rfl (lv_at hl 0 rfl) ?_
  refine lv_iload_n hx hb dL_law_849 rfl (lv_at hl 3 rfl) ?_
  refine lv_iconst (v := 2) hx hb dL_law_850 (by decide) ?_
  refine lv_iadd hx hb dL_law_851 ?_
  refine va_sld hx hb hX hbl hbA hS (lw_in2 hi hL) dL_law_852 ?_
  refine lv_aload_n hx hb dL_law_853 rfl (lv_at hl 0 rfl) ?_
  refine lv_iload_n hx hb dL_law_854 rfl (lv_at hl 3 rfl) ?_
  refine lv_iconst (v := 3) hx hb dL_law_855 (by decide) ?_
  refine lv_iadd hx hb dL_law_856 ?_
  refine va_sld hx hb hX hbl hbA hS (lw_in3 hi hL) dL_law_857 ?_
  refine lv_aload_n hx hb dL_law_858 rfl (lv_at hl 0 rfl) ?_
  refine lv_iload_n hx hb dL_law_859 rfl (lv_at hl 3 rfl) ?_
  refine lv_iconst (v := 4) hx hb dL_law_860 (by decide) ?_
  refine lv_iadd hx hb dL_law_861 ?_
  refine va_sld hx hb hX hbl hbA hS (lw_in4 hi hL) dL_law_862 ?_
  have hPm := va_P_l (va_P_r hP)
  refine roVi (As := [.int (xs (nI i + 1).toNatClampNeg), .int (xs (nI i + 2).toNatClampNeg), .int (xs (nI i + 3).toNatClampNeg), .int (xs (nI i + 4).toNatClampNeg)]) (rest := [.int (if canK (xs (nI i + 1).toNatClampNeg) (xs (nI i + 2).toNatClampNeg) (xs (nI i + 3).toNatClampNeg) (xs (nI i + 4).toNatClampNeg) = true then nI (ctN (bitL (cald F n c (xs (nI i + 1).toNatClampNeg) (xs (nI i + 2).toNatClampNeg) (xs (nI i + 3).toNatClampNeg) (xs (nI i + 4).toNatClampNeg))) 64) else -2)]) (v := if canC (xs (nI i + 1).toNatClampNeg) (xs (nI i + 2).toNatClampNeg) (xs (nI i + 3).toNatClampNeg) (xs (nI i + 4).toNatClampNeg) = true then ctI (sCl F c (xs (nI i + 1).toNatClampNeg) (xs (nI i + 2).toNatClampNeg) (xs (nI i + 3).toNatClampNeg) (xs (nI i + 4).toNatClampNeg)) n else -2) (wc := mW q cs F n c g up lo) ⟨hx, hb, hml, hown, hts⟩ (c_X5_called l D cs q F n c g up lo (xs (nI i + 1).toNatClampNeg) (xs (nI i + 2).toNatClampNeg) (xs (nI i + 3).toNatClampNeg) (xs (nI i + 4).toNatClampNeg) hI) (cwV 4 hts gL_law_X5_called rfl rfl rfl (by decide +kernel) ⟨Nat.le_of_ble_eq_true rfl, Nat.le_of_ble_eq_true rfl⟩) hPm hK hN 0 rfl rfl rfl hl.1 rfl (Nat.le_of_ble_eq_true rfl) dL_law_863 ⟨Nat.le_of_ble_eq_true rfl, Nat.le_of_ble_eq_true rfl⟩ ?_
  refine lv_icmp_eq (tgt := 971) hx hb dL_law_866 (by decide) (fun c_1 => ?_) (fun c_1 => ?_)
  · exact K F n c g up lo H locs hI hP hD hS
  · exact absurd (by first | exact e_called hI _ _ _ _ | exact (e_called hI _ _ _ _).symm) c_1

set_option maxHeartbeats 4000000 in
set_option maxRecDepth 100000 in
/-- the law calls calledAt -/
theorem lw_calledAt (hF : LFix p s m meth c_ D cs q b L xs i ls) (K : LCont p l e s m b below meth c_ D cs q ls) {F : Nat → Nat → Int32} {n c : Nat} {g : Int32} {up lo : Int64} {H : Heap} {locs : List Loc} (hI : Inv F n c) (hP : va_P D vwCl (LW q cs F n c g up lo) H) (hD : va_D (fun k => s.heap.size ≤ k) (LW q cs F n c g up lo)) (hS : va_S (fun k => s.heap.size ≤ k) s.heap H locs) : W p l e room_1 s m #[Value.ref b] below meth c_ H locs 100 9404 (lw_Z below #[Value.ref b] s) (F0 m 871 ls []) := by
  obtain ⟨hx, hb, hml, hown, hts, hX, hbl, hK, hN, hi, hL, hl⟩ := hF
  have hA : ∀ k : Nat, s.heap.size ≤ k → (fun k : Nat => s.heap.size ≤ k) k := fun _ h => h
  have hbA : ¬ (fun k : Nat => s.heap.size ≤ k) b := Nat.not_le.mpr hbl
  refine lv_aload_n hx hb dL_law_871 rfl (lv_at hl 1 rfl) ?_
  refine lv_aload_n hx hb dL_law_872 rfl (lv_at hl 0 rfl) ?_
  refine lv_iload_n hx hb dL_law_873 rfl (lv_at hl 3 rfl) ?_
  refine lv_iconst (v := 1) hx hb dL_law_874 (by decide) ?_
  refine lv_iadd hx hb dL_law_875 ?_
  refine va_sld hx hb hX hbl hbA hS (lw_in1 hi hL) dL_law_876 ?_
  refine lv_aload_n hx hb dL_law_877 rfl (lv_at hl 0 rfl) ?_
  refine lv_iload_n hx hb dL_law_878 rfl (lv_at hl 3 rfl) ?_
  refine lv_iconst (v := 2) hx hb dL_law_879 (by decide) ?_
  refine lv_iadd hx hb dL_law_880 ?_
  refine va_sld hx hb hX hbl hbA hS (lw_in2 hi hL) dL_law_881 ?_
  refine lv_aload_n hx hb dL_law_882 rfl (lv_at hl 0 rfl) ?_
  refine lv_iload_n hx hb dL_law_883 rfl (lv_at hl 3 rfl) ?_
  refine lv_iconst (v := 3) hx hb dL_law_884 (by decide) ?_
  refine lv_iadd hx hb dL_law_885 ?_
  refine va_sld hx hb hX hbl hbA hS (lw_in3 hi hL) dL_law_886 ?_
  refine lv_aload_n hx hb dL_law_887 rfl (lv_at hl 0 rfl) ?_
  refine lv_iload_n hx hb dL_law_888 rfl (lv_at hl 3 rfl) ?_
  refine lv_iconst (v := 4) hx hb dL_law_889 (by decide) ?_
  refine lv_iadd hx hb dL_law_890 ?_
  refine va_sld hx hb hX hbl hbA hS (lw_in4 hi hL) dL_law_891 ?_
  refine lv_aload_n hx hb dL_law_892 rfl (lv_at hl 0 rfl) ?_
  refine lv_iload_n hx hb dL_law_893 rfl (lv_at hl 3 rfl) ?_
  refine lv_iconst (v := 5) hx hb dL_law_894 (by decide) ?_
  refine lv_iadd hx hb dL_law_895 ?_
  refine va_sld hx hb hX hbl hbA hS (lw_in5 hi hL) dL_law_896 ?_
  have hPx := lwX hP
  refine roVi (As := [.int (xs (nI i + 1).toNatClampNeg), .int (xs (nI i + 2).toNatClampNeg), .int (xs (nI i + 3).toNatClampNeg), .int (xs (nI i + 4).toNatClampNeg), .int (xs (nI i + 5).toNatClampNeg)]) (rest := []) (v := if canK (xs (nI i + 1).toNatClampNeg) (xs (nI i + 2).toNatClampNeg) (xs (nI i + 3).toNatClampNeg) (xs (nI i + 4).toNatClampNeg) = true then (if (xs (nI i + 5).toNatClampNeg) < 0 then -2 else fnd (fun j => sHas (cald F n c (xs (nI i + 1).toNatClampNeg) (xs (nI i + 2).toNatClampNeg) (xs (nI i + 3).toNatClampNeg) (xs (nI i + 4).toNatClampNeg)) (nI j)) (xs (nI i + 5).toNatClampNeg) 60) else -2) (wc := xW q cs F n c g) ⟨hx, hb, hml, hown, hts⟩ (c_X4_calledAt l D cs q F n c g (xs (nI i + 1).toNatClampNeg) (xs (nI i + 2).toNatClampNeg) (xs (nI i + 3).toNatClampNeg) (xs (nI i + 4).toNatClampNeg) (xs (nI i + 5).toNatClampNeg) hI) (cwV 5 hts gL_law_X4_calledAt rfl rfl rfl (by decide +kernel) ⟨Nat.le_of_ble_eq_true rfl, Nat.le_of_ble_eq_true rfl⟩) hPx hK hN 0 rfl rfl rfl hl.1 rfl (Nat.le_of_ble_eq_true rfl) dL_law_897 ⟨Nat.le_of_ble_eq_true rfl, Nat.le_of_ble_eq_true rfl⟩ ?_
  refine lv_aload_n hx hb dL_law_900 rfl (lv_at hl 2 rfl) ?_
  refine lv_aload_n hx hb dL_law_901 rfl (lv_at hl 0 rfl) ?_
  refine lv_iload_n hx hb dL_law_902 rfl (lv_at hl 3 rfl) ?_
  refine lv_iconst (v := 1) hx hb dL_law_903 (by decide) ?_
  refine lv_iadd hx hb dL_law_904 ?_
  refine va_sld hx hb hX hbl hbA hS (lw_in1 hi hL) dL_law_905 ?_
  refine lv_aload_n hx hb dL_law_906 rfl (lv_at hl 0 rfl) ?_
  refine lv_iload_n hx hb dL_law_907 rfl (lv_at hl 3 rfl) ?_
  refine lv_iconst (v := 2) hx hb dL_law_908 (by decide) ?_
  refine lv_iadd hx hb dL_law_909 ?_
  refine va_sld hx hb hX hbl hbA hS (lw_in2 hi hL) dL_law_910 ?_
  refine lv_aload_n hx hb dL_law_911 rfl (lv_at hl 0 rfl) ?_
  refine lv_iload_n hx hb dL_law_912 rfl (lv_at hl 3 rfl) ?_
  refine lv_iconst (v := 3) hx hb dL_law_913 (by decide) ?_
  refine lv_iadd hx hb dL_law_914 ?_
  refine va_sld hx hb hX hbl hbA hS (lw_in3 hi hL) dL_law_915 ?_
  refine lv_aload_n hx hb dL_law_916 rfl (lv_at hl 0 rfl) ?_
  refine lv_iload_n hx hb dL_law_917 rfl (lv_at hl 3 rfl) ?_
  refine lv_iconst (v := 4) hx hb dL_law_918 (by decide) ?_
  refine lv_iadd hx hb dL_law_919 ?_
  refine va_sld hx hb hX hbl hbA hS (lw_in4 hi hL) dL_law_920 ?_
  refine lv_aload_n hx hb dL_law_921 rfl (lv_at hl 0 rfl) ?_
  refine lv_iload_n hx hb dL_law_922 rfl (lv_at hl 3 rfl) ?_
  refine lv_iconst (v := 5) hx hb dL_law_923 (by decide) ?_
  refine lv_iadd hx hb dL_law_924 ?_
  refine va_sld hx hb hX hbl hbA hS (lw_in5 hi hL) dL_law_925 ?_
  have hPm := va_P_l (va_P_r hP)
  refine roVi (As := [.int (xs (nI i + 1).toNatClampNeg), .int (xs (nI i + 2).toNatClampNeg), .int (xs (nI i + 3).toNatClampNeg), .int (xs (nI i + 4).toNatClampNeg), .int (xs (nI i + 5).toNatClampNeg)]) (rest := [.int (if canK (xs (nI i + 1).toNatClampNeg) (xs (nI i + 2).toNatClampNeg) (xs (nI i + 3).toNatClampNeg) (xs (nI i + 4).toNatClampNeg) = true then (if (xs (nI i + 5).toNatClampNeg) < 0 then -2 else fnd (fun j => sHas (cald F n c (xs (nI i + 1).toNatClampNeg) (xs (nI i + 2).toNatClampNeg) (xs (nI i + 3).toNatClampNeg) (xs (nI i + 4).toNatClampNeg)) (nI j)) (xs (nI i + 5).toNatClampNeg) 60) else -2)]) (v := if canC (xs (nI i + 1).toNatClampNeg) (xs (nI i + 2).toNatClampNeg) (xs (nI i + 3).toNatClampNeg) (xs (nI i + 4).toNatClampNeg) = true then (if (xs (nI i + 5).toNatClampNeg) < 0 then -2 else fnd (sCl F c (xs (nI i + 1).toNatClampNeg) (xs (nI i + 2).toNatClampNeg) (xs (nI i + 3).toNatClampNeg) (xs (nI i + 4).toNatClampNeg)) (xs (nI i + 5).toNatClampNeg) n) else -2) (wc := mW q cs F n c g up lo) ⟨hx, hb, hml, hown, hts⟩ (c_X5_calledAt l D cs q F n c g up lo (xs (nI i + 1).toNatClampNeg) (xs (nI i + 2).toNatClampNeg) (xs (nI i + 3).toNatClampNeg) (xs (nI i + 4).toNatClampNeg) (xs (nI i + 5).toNatClampNeg) hI) (cwV 5 hts gL_law_X5_calledAt rfl rfl rfl (by decide +kernel) ⟨Nat.le_of_ble_eq_true rfl, Nat.le_of_ble_eq_true rfl⟩) hPm hK hN 0 rfl rfl rfl hl.1 rfl (Nat.le_of_ble_eq_true rfl) dL_law_926 ⟨Nat.le_of_ble_eq_true rfl, Nat.le_of_ble_eq_true rfl⟩ ?_
  refine lv_icmp_eq (tgt := 971) hx hb dL_law_929 (by decide) (fun c_1 => ?_) (fun c_1 => ?_)
  · exact K F n c g up lo H locs hI hP hD hS
  · exact absurd (by first | exact e_calledAt hI _ _ _ _ _ | exact (e_calledAt hI _ _ _ _ _).symm) c_1

set_option maxHeartbeats 4000000 in
set_option maxRecDepth 100000 in
/-- the law calls count -/
theorem lw_count (hF : LFix p s m meth c_ D cs q b L xs i ls) (K : LCont p l e s m b below meth c_ D cs q ls) {F : Nat → Nat → Int32} {n c : Nat} {g : Int32} {up lo : Int64} {H : Heap} {locs : List Loc} (hI : Inv F n c) (hP : va_P D vwCl (LW q cs F n c g up lo) H) (hD : va_D (fun k => s.heap.size ≤ k) (LW q cs F n c g up lo)) (hS : va_S (fun k => s.heap.size ≤ k) s.heap H locs) : W p l e room_1 s m #[Value.ref b] below meth c_ H locs 100 9404 (lw_Z below #[Value.ref b] s) (F0 m 934 ls []) := by
  obtain ⟨hx, hb, hml, hown, hts, hX, hbl, hK, hN, hi, hL, hl⟩ := hF
  have hA : ∀ k : Nat, s.heap.size ≤ k → (fun k : Nat => s.heap.size ≤ k) k := fun _ h => h
  have hbA : ¬ (fun k : Nat => s.heap.size ≤ k) b := Nat.not_le.mpr hbl
  refine lv_aload_n hx hb dL_law_934 rfl (lv_at hl 1 rfl) ?_
  refine lv_aload_n hx hb dL_law_935 rfl (lv_at hl 0 rfl) ?_
  refine lv_iload_n hx hb dL_law_936 rfl (lv_at hl 3 rfl) ?_
  refine lv_iconst (v := 1) hx hb dL_law_937 (by decide) ?_
  refine lv_iadd hx hb dL_law_938 ?_
  refine va_sld hx hb hX hbl hbA hS (lw_in1 hi hL) dL_law_939 ?_
  have hPx := lwX hP
  refine roVi (As := [.int (xs (nI i + 1).toNatClampNeg)]) (rest := []) (v := aCountC F n c (xs (nI i + 1).toNatClampNeg)) (wc := xW q cs F n c g) ⟨hx, hb, hml, hown, hts⟩ (c_X4_count l D cs q F n c g (xs (nI i + 1).toNatClampNeg) hI) (cwV 1 hts gL_law_X4_count rfl rfl rfl (by decide +kernel) ⟨Nat.le_of_ble_eq_true rfl, Nat.le_of_ble_eq_true rfl⟩) hPx hK hN 0 rfl rfl rfl hl.1 rfl (Nat.le_of_ble_eq_true rfl) dL_law_940 ⟨Nat.le_of_ble_eq_true rfl, Nat.le_of_ble_eq_true rfl⟩ ?_
  refine lv_aload_n hx hb dL_law_943 rfl (lv_at hl 2 rfl) ?_
  refine lv_aload_n hx hb dL_law_944 rfl (lv_at hl 0 rfl) ?_
  refine lv_iload_n hx hb dL_law_945 rfl (lv_at hl 3 rfl) ?_
  refine lv_iconst (v := 1) hx hb dL_law_946 (by decide) ?_
  refine lv_iadd hx hb dL_law_947 ?_
  refine va_sld hx hb hX hbl hbA hS (lw_in1 hi hL) dL_law_948 ?_
  have hPm := va_P_l (va_P_r hP)
  refine roVi (As := [.int (xs (nI i + 1).toNatClampNeg)]) (rest := [.int (aCountC F n c (xs (nI i + 1).toNatClampNeg))]) (v := aCount F n c (xs (nI i + 1).toNatClampNeg)) (wc := mW q cs F n c g up lo) ⟨hx, hb, hml, hown, hts⟩ (c_X5_count l D cs q F n c g up lo (xs (nI i + 1).toNatClampNeg) hI) (cwV 1 hts gL_law_X5_count rfl rfl rfl (by decide +kernel) ⟨Nat.le_of_ble_eq_true rfl, Nat.le_of_ble_eq_true rfl⟩) hPm hK hN 0 rfl rfl rfl hl.1 rfl (Nat.le_of_ble_eq_true rfl) dL_law_949 ⟨Nat.le_of_ble_eq_true rfl, Nat.le_of_ble_eq_true rfl⟩ ?_
  refine lv_icmp_eq (tgt := 971) hx hb dL_law_952 (by decide) (fun c_1 => ?_) (fun c_1 => ?_)
  · exact K F n c g up lo H locs hI hP hD hS
  · exact absurd (by first | exact e_count hI _ | exact (e_count hI _).symm) c_1

set_option maxHeartbeats 4000000 in
set_option maxRecDepth 100000 in
/-- the law calls digest -/
theorem lw_digest (hF : LFix p s m meth c_ D cs q b L xs i ls) (K : LCont p l e s m b below meth c_ D cs q ls) {F : Nat → Nat → Int32} {n c : Nat} {g : Int32} {up lo : Int64} {H : Heap} {locs : List Loc} (hI : Inv F n c) (hP : va_P D vwCl (LW q cs F n c g up lo) H) (hD : va_D (fun k => s.heap.size ≤ k) (LW q cs F n c g up lo)) (hS : va_S (fun k => s.heap.size ≤ k) s.heap H locs) : W p l e room_1 s m #[Value.ref b] below meth c_ H locs 100 9404 (lw_Z below #[Value.ref b] s) (F0 m 957 ls []) := by
  obtain ⟨hx, hb, hml, hown, hts, hX, hbl, hK, hN, hi, hL, hl⟩ := hF
  have hA : ∀ k : Nat, s.heap.size ≤ k → (fun k : Nat => s.heap.size ≤ k) k := fun _ h => h
  have hbA : ¬ (fun k : Nat => s.heap.size ≤ k) b := Nat.not_le.mpr hbl
  refine lv_aload_n hx hb dL_law_957 rfl (lv_at hl 1 rfl) ?_
  have hPx := lwX hP
  refine roVl (As := []) (rest := []) (v := aDigC F n c) (wc := xW q cs F n c g) ⟨hx, hb, hml, hown, hts⟩ (c_X4_digest l D cs q F n c g  hI) (cwV 0 hts gL_law_X4_digest rfl rfl rfl (by decide +kernel) ⟨Nat.le_of_ble_eq_true rfl, Nat.le_of_ble_eq_true rfl⟩) hPx hK hN 0 rfl rfl rfl hl.1 rfl (Nat.le_of_ble_eq_true rfl) dL_law_958 ⟨Nat.le_of_ble_eq_true rfl, Nat.le_of_ble_eq_true rfl⟩ ?_
  refine lv_aload_n hx hb dL_law_961 rfl (lv_at hl 2 rfl) ?_
  have hPm := va_P_l (va_P_r hP)
  refine roVl (As := []) (rest := [.long (aDigC F n c)]) (v := aDigM F n c) (wc := mW q cs F n c g up lo) ⟨hx, hb, hml, hown, hts⟩ (c_X5_digest l D cs q F n c g up lo  hI) (cwV 0 hts gL_law_X5_digest rfl rfl rfl (by decide +kernel) ⟨Nat.le_of_ble_eq_true rfl, Nat.le_of_ble_eq_true rfl⟩) hPm hK hN 0 rfl rfl rfl hl.1 rfl (Nat.le_of_ble_eq_true rfl) dL_law_962 ⟨Nat.le_of_ble_eq_true rfl, Nat.le_of_ble_eq_true rfl⟩ ?_
  refine W.lcmp hx hb dL_law_965 ?_
  refine lv_if_eq (tgt := 971) hx hb dL_law_966 (by decide) (fun c_1 => ?_) (fun c_1 => ?_)
  · exact K F n c g up lo H locs hI hP hD hS
  · exact absurd ((lg_cmp_eq _ _).mpr (by first | exact e_digest hI | exact (e_digest hI).symm)) c_1
end LAW
