section LAW
variable {p : Program} {l : Launch} {e : Env} {s : State} {m : MethodId} {below : List Frame} {meth : Method} {c_ : Code} {D : va_G} {cs : Nat → ClassId} {q : Nat → Nat} {b L : Nat} {xs : Nat → Int32} {i : Nat} {ls : Array Slot}
set_option maxHeartbeats 4000000 in
set_option maxRecDepth 100000 in
/-- the law calls chance -/
theorem lw_chance (hF : LFix p s m meth c_ D cs q b L xs i ls) (K : LCont p l e s m b below meth c_ D cs q ls) {F : Nat → Nat → Int32} {n c : Nat} {g : Int32} {up lo : Int64} {H : Heap} {locs : List Loc} (hI : Inv F n c) (hP : va_P D vwCl (LW q cs F n c g up lo) H) (hD : va_D (fun k => s.heap.size ≤ k) (LW q cs F n c g up lo)) (hS : va_S (fun k => s.heap.size ≤ k) s.heap H locs) : W p l e room_1 s m #[Value.ref b] below meth c_ H locs 100 9404 (lw_Z below #[Value.ref b] s) (F0 m 596 ls []) := by
  obtain ⟨hx, hb, hml, hown, hts, hX, hbl, hK, hN, hi, hL, hl⟩ := hF
  have hA : ∀ k : Nat, s.heap.size ≤ k → (fun k : Nat => s.heap.size ≤ k) k := fun _ h => h
  have hbA : ¬ (fun k : Nat => s.heap.size ≤ k) b := Nat.not_le.mpr hbl
  refine lv_aload_n hx hb dL_law_596 rfl (lv_at hl 1 rfl) ?_
  refine lv_aload_n hx hb dL_law_597 rfl (lv_at hl 0 rfl) ?_
  refine lv_iload_n hx hb dL_law_598 rfl (lv_at hl 3 rfl) ?_
  refine lv_iconst (v := 1) hx hb dL_law_599 (by decide) ?_
  refine lv_iadd hx hb dL_law_600 ?_
  refine va_sld hx hb hX hbl hbA hS (lw_in1 hi hL) dL_law_601 ?_
  refine lv_aload_n hx hb dL_law_602 rfl (lv_at hl 0 rfl) ?_
  refine lv_iload_n hx hb dL_law_603 rfl (lv_at hl 3 rfl) ?_
  refine lv_iconst (v := 2) hx hb dL_law_604 (by decide) ?_
  refine lv_iadd hx hb dL_law_605 ?_
  refine va_sld hx hb hX hbl hbA hS (lw_in2 hi hL) dL_law_606 ?_
  refine lv_aload_n hx hb dL_law_607 rfl (lv_at hl 0 rfl) ?_
  refine lv_iload_n hx hb dL_law_608 rfl (lv_at hl 3 rfl) ?_
  refine lv_iconst (v := 3) hx hb dL_law_609 (by decide) ?_
  refine lv_iadd hx hb dL_law_610 ?_
  refine va_sld hx hb hX hbl hbA hS (lw_in3 hi hL) dL_law_611 ?_
  refine lv_aload_n hx hb dL_law_612 rfl (lv_at hl 0 rfl) ?_
  refine lv_iload_n hx hb dL_law_613 rfl (lv_at hl 3 rfl) ?_
  refine lv_iconst (v := 4) hx hb dL_law_614 (by decide) ?_
  refine lv_iadd hx hb dL_law_615 ?_
  refine va_sld hx hb hX hbl hbA hS (lw_in4 hi hL) dL_law_616 ?_
  have hPx := lwX hP
  refine roVl (As := [.int (xs (nI i + 1).toNatClampNeg), .int (xs (nI i + 2).toNatClampNeg), .int (xs (nI i + 3).toNatClampNeg), .int (xs (nI i + 4).toNatClampNeg)]) (rest := []) (v := aChance F n c (xs (nI i + 1).toNatClampNeg) (xs (nI i + 2).toNatClampNeg) (xs (nI i + 3).toNatClampNeg) (xs (nI i + 4).toNatClampNeg)) (wc := xW q cs F n c g) ⟨hx, hb, hml, hown, hts⟩ (c_X4_chance l D cs q F n c g (xs (nI i + 1).toNatClampNeg) (xs (nI i + 2).toNatClampNeg) (xs (nI i + 3).toNatClampNeg) (xs (nI i + 4).toNatClampNeg) hI) (cwV 4 hts gL_law_X4_chance rfl rfl rfl (by decide +kernel) ⟨Nat.le_of_ble_eq_true rfl, Nat.le_of_ble_eq_true rfl⟩) hPx hK hN 0 rfl rfl rfl hl.1 rfl (Nat.le_of_ble_eq_true rfl) dL_law_617 ⟨Nat.le_of_ble_eq_true rfl, Nat.le_of_ble_eq_true rfl⟩ ?_
  refine lv_aload_n hx hb dL_law_620 rfl (lv_at hl 2 rfl) ?_
  refine lv_aload_n hx hb dL_law_621 rfl (lv_at hl 0 rfl) ?_
  refine lv_iload_n hx hb dL_law_622 rfl (lv_at hl 3 rfl) ?_
  refine lv_iconst (v := 1) hx hb dL_law_623 (by decide) ?_
  refine lv_iadd hx hb dL_law_624 ?_
  refine va_sld hx hb hX hbl hbA hS (lw_in1 hi hL) dL_law_625 ?_
  refine lv_aload_n hx hb dL_law_626 rfl (lv_at hl 0 rfl) ?_
  refine lv_iload_n hx hb dL_law_627 rfl (lv_at hl 3 rfl) ?_
  refine lv_iconst (v := 2) hx hb dL_law_628 (by decide) ?_
  refine lv_iadd hx hb dL_law_629 ?_
  refine va_sld hx hb hX hbl hbA hS (lw_in2 hi hL) dL_law_630 ?_
  refine lv_aload_n hx hb dL_law_631 rfl (lv_at hl 0 rfl) ?_
  refine lv_iload_n hx hb dL_law_632 rfl (lv_at hl 3 rfl) ?_
  refine lv_iconst (v := 3) hx hb dL_law_633 (by decide) ?_
  refine lv_iadd hx hb dL_law_634 ?_
  refine va_sld hx hb hX hbl hbA hS (lw_in3 hi hL) dL_law_635 ?_
  refine lv_aload_n hx hb dL_law_636 rfl (lv_at hl 0 rfl) ?_
  refine lv_iload_n hx hb dL_law_637 rfl (lv_at hl 3 rfl) ?_
  refine lv_iconst (v := 4) hx hb dL_law_638 (by decide) ?_
  refine lv_iadd hx hb dL_law_639 ?_
  refine va_sld hx hb hX hbl hbA hS (lw_in4 hi hL) dL_law_640 ?_
  refine muVl2 (As := [.int (xs (nI i + 1).toNatClampNeg), .int (xs (nI i + 2).toNatClampNeg), .int (xs (nI i + 3).toNatClampNeg), .int (xs (nI i + 4).toNatClampNeg)]) (rest := [.long (aChance F n c (xs (nI i + 1).toNatClampNeg) (xs (nI i + 2).toNatClampNeg) (xs (nI i + 3).toNatClampNeg) (xs (nI i + 4).toNatClampNeg))]) (v := aChance F n c (xs (nI i + 1).toNatClampNeg) (xs (nI i + 2).toNatClampNeg) (xs (nI i + 3).toNatClampNeg) (xs (nI i + 4).toNatClampNeg)) (wc := mW q cs F n c g up lo) (w2 := fun u => mW q cs F n c g u.1 u.2) ⟨hx, hb, hml, hown, hts⟩ (c_X5_chance l D cs q F n c g up lo _ (xs (nI i + 1).toNatClampNeg) (xs (nI i + 2).toNatClampNeg) (xs (nI i + 3).toNatClampNeg) (xs (nI i + 4).toNatClampNeg) hI) (cwV 4 hts gL_law_X5_chance rfl rfl rfl (by decide +kernel) ⟨Nat.le_of_ble_eq_true rfl, Nat.le_of_ble_eq_true rfl⟩) hP hD hS hA hK hN (List.range' 20 17) (cm5 _) (by decide) (va_P_l (va_P_r hP)) (fun _ => rfl) 0 rfl rfl rfl hl.1 rfl (Nat.le_of_ble_eq_true rfl) dL_law_641 ⟨Nat.le_of_ble_eq_true rfl, Nat.le_of_ble_eq_true rfl⟩ (fun u H locs hP hD hS => ?_)
  have hP : va_P D vwCl (LW q cs F n c g u.1 u.2) H := by rw [sm5] at hP; exact hP
  have hD : va_D (fun k => s.heap.size ≤ k) (LW q cs F n c g u.1 u.2) := by rw [sm5] at hD; exact hD
  refine W.lcmp hx hb dL_law_644 ?_
  refine lv_if_eq (tgt := 971) hx hb dL_law_645 (by decide) (fun c_1 => ?_) (fun c_1 => ?_)
  · exact K F n c g u.1 u.2 H locs hI hP hD hS
  · exact absurd ((lg_cmp_eq _ _).mpr (by first | exact rfl | exact (rfl).symm)) c_1
set_option maxHeartbeats 4000000 in
set_option maxRecDepth 100000 in
/-- the law calls oddest -/
theorem lw_oddest (hF : LFix p s m meth c_ D cs q b L xs i ls) (K : LCont p l e s m b below meth c_ D cs q ls) {F : Nat → Nat → Int32} {n c : Nat} {g : Int32} {up lo : Int64} {H : Heap} {locs : List Loc} (hI : Inv F n c) (hP : va_P D vwCl (LW q cs F n c g up lo) H) (hD : va_D (fun k => s.heap.size ≤ k) (LW q cs F n c g up lo)) (hS : va_S (fun k => s.heap.size ≤ k) s.heap H locs) : W p l e room_1 s m #[Value.ref b] below meth c_ H locs 100 9404 (lw_Z below #[Value.ref b] s) (F0 m 650 ls []) := by
  obtain ⟨hx, hb, hml, hown, hts, hX, hbl, hK, hN, hi, hL, hl⟩ := hF
  have hA : ∀ k : Nat, s.heap.size ≤ k → (fun k : Nat => s.heap.size ≤ k) k := fun _ h => h
  have hbA : ¬ (fun k : Nat => s.heap.size ≤ k) b := Nat.not_le.mpr hbl
  refine lv_aload_n hx hb dL_law_650 rfl (lv_at hl 1 rfl) ?_
  refine lv_aload_n hx hb dL_law_651 rfl (lv_at hl 0 rfl) ?_
  refine lv_iload_n hx hb dL_law_652 rfl (lv_at hl 3 rfl) ?_
  refine lv_iconst (v := 1) hx hb dL_law_653 (by decide) ?_
  refine lv_iadd hx hb dL_law_654 ?_
  refine va_sld hx hb hX hbl hbA hS (lw_in1 hi hL) dL_law_655 ?_
  refine lv_aload_n hx hb dL_law_656 rfl (lv_at hl 0 rfl) ?_
  refine lv_iload_n hx hb dL_law_657 rfl (lv_at hl 3 rfl) ?_
  refine lv_iconst (v := 2) hx hb dL_law_658 (by decide) ?_
  refine lv_iadd hx hb dL_law_659 ?_
  refine va_sld hx hb hX hbl hbA hS (lw_in2 hi hL) dL_law_660 ?_
  have hPx := lwX hP
  refine roVi (As := [.int (xs (nI i + 1).toNatClampNeg), .int (xs (nI i + 2).toNatClampNeg)]) (rest := []) (v := r2 (rg (xs (nI i + 1).toNatClampNeg) 0 9) (rg (xs (nI i + 2).toNatClampNeg) 0 300) (odC F n c (xs (nI i + 1).toNatClampNeg) (xs (nI i + 2).toNatClampNeg) 8).1) (wc := xW q cs F n c g) ⟨hx, hb, hml, hown, hts⟩ (c_X4_oddest l D cs q F n c g (xs (nI i + 1).toNatClampNeg) (xs (nI i + 2).toNatClampNeg) hI) (cwV 2 hts gL_law_X4_oddest rfl rfl rfl (by decide +kernel) ⟨Nat.le_of_ble_eq_true rfl, Nat.le_of_ble_eq_true rfl⟩) hPx hK hN 0 rfl rfl rfl hl.1 rfl (Nat.le_of_ble_eq_true rfl) dL_law_661 ⟨Nat.le_of_ble_eq_true rfl, Nat.le_of_ble_eq_true rfl⟩ ?_
  refine lv_aload_n hx hb dL_law_664 rfl (lv_at hl 2 rfl) ?_
  refine lv_aload_n hx hb dL_law_665 rfl (lv_at hl 0 rfl) ?_
  refine lv_iload_n hx hb dL_law_666 rfl (lv_at hl 3 rfl) ?_
  refine lv_iconst (v := 1) hx hb dL_law_667 (by decide) ?_
  refine lv_iadd hx hb dL_law_668 ?_
  refine va_sld hx hb hX hbl hbA hS (lw_in1 hi hL) dL_law_669 ?_
  refine lv_aload_n hx hb dL_law_670 rfl (lv_at hl 0 rfl) ?_
  refine lv_iload_n hx hb dL_law_671 rfl (lv_at hl 3 rfl) ?_
  refine lv_iconst (v := 2) hx hb dL_law_672 (by decide) ?_
  refine lv_iadd hx hb dL_law_673 ?_
  refine va_sld hx hb hX hbl hbA hS (lw_in2 hi hL) dL_law_674 ?_
  refine muVi2 (As := [.int (xs (nI i + 1).toNatClampNeg), .int (xs (nI i + 2).toNatClampNeg)]) (rest := [.int (r2 (rg (xs (nI i + 1).toNatClampNeg) 0 9) (rg (xs (nI i + 2).toNatClampNeg) 0 300) (odC F n c (xs (nI i + 1).toNatClampNeg) (xs (nI i + 2).toNatClampNeg) 8).1)]) (v := r2 (rg (xs (nI i + 1).toNatClampNeg) 0 9) (rg (xs (nI i + 2).toNatClampNeg) 0 300) (odC F n c (xs (nI i + 1).toNatClampNeg) (xs (nI i + 2).toNatClampNeg) 8).1) (wc := mW q cs F n c g up lo) (w2 := fun u => mW q cs F n c g u.1 u.2) ⟨hx, hb, hml, hown, hts⟩ (c_X5_oddest l D cs q F n c g up lo _ (xs (nI i + 1).toNatClampNeg) (xs (nI i + 2).toNatClampNeg) hI) (cwV 2 hts gL_law_X5_oddest rfl rfl rfl (by decide +kernel) ⟨Nat.le_of_ble_eq_true rfl, Nat.le_of_ble_eq_true rfl⟩) hP hD hS hA hK hN (List.range' 20 17) (cm5 _) (by decide) (va_P_l (va_P_r hP)) (fun _ => rfl) 0 rfl rfl rfl hl.1 rfl (Nat.le_of_ble_eq_true rfl) dL_law_675 ⟨Nat.le_of_ble_eq_true rfl, Nat.le_of_ble_eq_true rfl⟩ (fun u H locs hP hD hS => ?_)
  have hP : va_P D vwCl (LW q cs F n c g u.1 u.2) H := by rw [sm5] at hP; exact hP
  have hD : va_D (fun k => s.heap.size ≤ k) (LW q cs F n c g u.1 u.2) := by rw [sm5] at hD; exact hD
  refine lv_icmp_eq (tgt := 971) hx hb dL_law_678 (by decide) (fun c_1 => ?_) (fun c_1 => ?_)
  · exact K F n c g u.1 u.2 H locs hI hP hD hS
  · exact absurd (by first | exact rfl | exact (rfl).symm) c_1
end LAW
