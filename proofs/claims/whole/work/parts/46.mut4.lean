set_option maxHeartbeats 4000000 in
set_option maxRecDepth 100000 in
/-- X2_add -/
theorem c_X2_add (l : Launch) (D : va_G) (cs : Nat → ClassId) (q : Nat → Nat) (F : Nat → Nat → Int32) (n c : Nat) (sz : Nat) (b0 : Int32) (mo : Int32) (mi : Int32) (ld : Int32) (hI : Inv F n c) : Met l yX2_add wsX2_add ({ frames := 0, cells := 0, slots := 0, locals := 0 }) (va_Pc [.ref (q 1), .int b0, .int mo, .int mi, .int ld] (mpre D cs (tW q cs F n) sz)) (va_Qi (fun r (_ : Unit) => r = (if n < 60 then nI n else -4)) (fun _ t => va_P D vwCl (tW q cs (adF (decide (n < 60)) F n b0 mo mi ld) (adN (decide (n < 60)) n)) t.heap) (va_A (tW q cs F n) sz)) 0 0 (va_A (tW q cs F n) sz) := by
  refine Met.ofW (cc := cX2_add) (maxL := 6) (ret := (some .int)) (by decide) rfl ?_
  intro p e s m args below meth c_ s₁ B hml hv
  obtain ⟨rfl, hsz, hP, hK, hN, hD0⟩ := hv
  have hx := B.exec
  have hb := B.bytes
  have hr := B.returns
  have hts := atoms_spec (ws := wsX2_add) B.pre
  have hown : s.vm.findClass RX2 = some m.cls := findClass_of_methodNamed B.named
  have hlocks := B.notSynchronized
  subst hsz
  have hD := hD0.self (sz := s.heap.size)
  generalize hAe : va_A (tW q cs F n) s.heap.size = A at hD ⊢
  have hA : ∀ q : Nat, s.heap.size ≤ q → A q := fun q h => by rw [← hAe]; exact Or.inr h
  have hS : va_S A s.heap s.heap [] := va_S.rf
  have hP : va_P D vwCl [((q 1), .inr (2, [.ref (q 10), .ref (q 11), .ref (q 12), .ref (q 13), .ref (q 14), .ref (q 15), .int (nI n)])), ((q 10), .inl (cs 0, 60, .inl (F 0))), ((q 11), .inl (cs 0, 60, .inl (F 1))), ((q 12), .inl (cs 0, 60, .inl (F 2))), ((q 13), .inl (cs 0, 60, .inl (F 3))), ((q 14), .inl (cs 0, 4, .inl (F 4))), ((q 15), .inl (cs 0, 4, .inl (F 5)))] s.heap := hP
  have hD : va_D A [((q 1), .inr (2, [.ref (q 10), .ref (q 11), .ref (q 12), .ref (q 13), .ref (q 14), .ref (q 15), .int (nI n)])), ((q 10), .inl (cs 0, 60, .inl (F 0))), ((q 11), .inl (cs 0, 60, .inl (F 1))), ((q 12), .inl (cs 0, 60, .inl (F 2))), ((q 13), .inl (cs 0, 60, .inl (F 3))), ((q 14), .inl (cs 0, 4, .inl (F 4))), ((q 15), .inl (cs 0, 4, .inl (F 5)))] := hD
  have hl := lv_entry ([.ref (q 1), .int b0, .int mo, .int mi, .int ld]) (n := 6) (Nat.le_of_ble_eq_true rfl)
  rw [lg_entry_eq]
  generalize (lg_sl ([.ref (q 1), .int b0, .int mo, .int mi, .int ld]) ++ List.replicate (6 - (lg_sl ([.ref (q 1), .int b0, .int mo, .int mi, .int ld])).length) Slot.unset).toArray = ls at hl ⊢
  have hl : lv_has ls 6 [(0, .ref (q 1)), (1, .int b0), (2, .int mo), (3, .int mi), (4, .int ld)] := hl
  have hn60 := hI.n60
  have hc100 := hI.c100
  refine lv_aload_n hx hb dX2_add_0 rfl (lv_at hl 0 rfl) ?_
  refine va_get (D := D) (ci := 2) (v := .int (nI n)) (C := RX2) (T := TX2) (N := 7) hx hb hts (fun _ h => List.mem_cons_of_mem _ (List.mem_append_right _ h)) hown hK hP 0 rfl rfl 6 (by decide) (hts (.fieldLink RX2 30 "UnderPromise$Things" "size" "I") (List.mem_of_getElem? (i := 1) rfl)) (fun _ h9 => h9) rfl dX2_add_1 ?_
  refine lv_bipush (v := 60) hx hb dX2_add_4 (by decide) ?_
  refine lv_icmp_lt (tgt := 12) hx hb dX2_add_6 (by decide) (fun c_1 => ?_) (fun c_1 => ?_)
  · have c_2 := i_lt c_1
    have hlt9 : n < 60 := (nI_ltI (b := 60) (by omega) (by decide)).mp c_1
    refine lv_aload_n hx hb dX2_add_12 rfl (lv_at hl 0 rfl) ?_
    refine va_get (D := D) (ci := 2) (v := .int (nI n)) (C := RX2) (T := TX2) (N := 7) hx hb hts (fun _ h => List.mem_cons_of_mem _ (List.mem_append_right _ h)) hown hK hP 0 rfl rfl 6 (by decide) (hts (.fieldLink RX2 30 "UnderPromise$Things" "size" "I") (List.mem_of_getElem? (i := 1) rfl)) (fun _ h9 => h9) rfl dX2_add_13 ?_
    refine lv_istore (lv' := [(5, .int (nI n)), (0, .ref (q 1)), (1, .int b0), (2, .int mo), (3, .int mi), (4, .int ld)]) hx hb dX2_add_16 hl (by decide) rfl (fun ls hl => ?_)
    refine lv_aload_n hx hb dX2_add_18 rfl (lv_at hl 1 rfl) ?_
    refine va_get (D := D) (ci := 2) (v := .ref (q 10)) (C := RX2) (T := TX2) (N := 7) hx hb hts (fun _ h => List.mem_cons_of_mem _ (List.mem_append_right _ h)) hown hK hP 0 rfl rfl 0 (by decide) (hts (.fieldLink RX2 9 "UnderPromise$Things" "batch" "[I") (List.mem_of_getElem? (i := 2) rfl)) (fun _ h9 => h9) rfl dX2_add_19 ?_
    refine lv_iload hx hb dX2_add_22 (lv_at hl 0 rfl) ?_
    refine lv_iload_n hx hb dX2_add_24 rfl (lv_at hl 2 rfl) ?_
    refine iastK hx hb hK hP hD hS 1 0 rfl rfl n (vp_in_nI (by omega) (by decide)) (nI_clamp (by omega)) dX2_add_25 (fun H locs hP hD hS => ?_)
    have hP : va_P D vwCl [((q 1), .inr (2, [.ref (q 10), .ref (q 11), .ref (q 12), .ref (q 13), .ref (q 14), .ref (q 15), .int (nI n)])), ((q 10), .inl (cs 0, 60, .inl (upd (F 0) n b0))), ((q 11), .inl (cs 0, 60, .inl (F 1))), ((q 12), .inl (cs 0, 60, .inl (F 2))), ((q 13), .inl (cs 0, 60, .inl (F 3))), ((q 14), .inl (cs 0, 4, .inl (F 4))), ((q 15), .inl (cs 0, 4, .inl (F 5)))] H := hP
    have hD : va_D A [((q 1), .inr (2, [.ref (q 10), .ref (q 11), .ref (q 12), .ref (q 13), .ref (q 14), .ref (q 15), .int (nI n)])), ((q 10), .inl (cs 0, 60, .inl (upd (F 0) n b0))), ((q 11), .inl (cs 0, 60, .inl (F 1))), ((q 12), .inl (cs 0, 60, .inl (F 2))), ((q 13), .inl (cs 0, 60, .inl (F 3))), ((q 14), .inl (cs 0, 4, .inl (F 4))), ((q 15), .inl (cs 0, 4, .inl (F 5)))] := hD
    refine lv_aload_n hx hb dX2_add_26 rfl (lv_at hl 1 rfl) ?_
    refine va_get (D := D) (ci := 2) (v := .ref (q 11)) (C := RX2) (T := TX2) (N := 7) hx hb hts (fun _ h => List.mem_cons_of_mem _ (List.mem_append_right _ h)) hown hK hP 0 rfl rfl 1 (by decide) (hts (.fieldLink RX2 15 "UnderPromise$Things" "sold" "[I") (List.mem_of_getElem? (i := 3) rfl)) (fun _ h9 => h9) rfl dX2_add_27 ?_
    refine lv_iload hx hb dX2_add_30 (lv_at hl 0 rfl) ?_
    refine lv_iload_n hx hb dX2_add_32 rfl (lv_at hl 3 rfl) ?_
    refine iastK hx hb hK hP hD hS 2 0 rfl rfl n (vp_in_nI (by omega) (by decide)) (nI_clamp (by omega)) dX2_add_33 (fun H locs hP hD hS => ?_)
    have hP : va_P D vwCl [((q 1), .inr (2, [.ref (q 10), .ref (q 11), .ref (q 12), .ref (q 13), .ref (q 14), .ref (q 15), .int (nI n)])), ((q 10), .inl (cs 0, 60, .inl (upd (F 0) n b0))), ((q 11), .inl (cs 0, 60, .inl (upd (F 1) n mo))), ((q 12), .inl (cs 0, 60, .inl (F 2))), ((q 13), .inl (cs 0, 60, .inl (F 3))), ((q 14), .inl (cs 0, 4, .inl (F 4))), ((q 15), .inl (cs 0, 4, .inl (F 5)))] H := hP
    have hD : va_D A [((q 1), .inr (2, [.ref (q 10), .ref (q 11), .ref (q 12), .ref (q 13), .ref (q 14), .ref (q 15), .int (nI n)])), ((q 10), .inl (cs 0, 60, .inl (upd (F 0) n b0))), ((q 11), .inl (cs 0, 60, .inl (upd (F 1) n mo))), ((q 12), .inl (cs 0, 60, .inl (F 2))), ((q 13), .inl (cs 0, 60, .inl (F 3))), ((q 14), .inl (cs 0, 4, .inl (F 4))), ((q 15), .inl (cs 0, 4, .inl (F 5)))] := hD
    refine lv_aload_n hx hb dX2_add_34 rfl (lv_at hl 1 rfl) ?_
    refine va_get (D := D) (ci := 2) (v := .ref (q 12)) (C := RX2) (T := TX2) (N := 7) hx hb hts (fun _ h => List.mem_cons_of_mem _ (List.mem_append_right _ h)) hown hK hP 0 rfl rfl 2 (by decide) (hts (.fieldLink RX2 18 "UnderPromise$Things" "miles" "[I") (List.mem_of_getElem? (i := 4) rfl)) (fun _ h9 => h9) rfl dX2_add_35 ?_
    refine lv_iload hx hb dX2_add_38 (lv_at hl 0 rfl) ?_
    refine lv_iload_n hx hb dX2_add_40 rfl (lv_at hl 4 rfl) ?_
    refine iastK hx hb hK hP hD hS 3 0 rfl rfl n (vp_in_nI (by omega) (by decide)) (nI_clamp (by omega)) dX2_add_41 (fun H locs hP hD hS => ?_)
    have hP : va_P D vwCl [((q 1), .inr (2, [.ref (q 10), .ref (q 11), .ref (q 12), .ref (q 13), .ref (q 14), .ref (q 15), .int (nI n)])), ((q 10), .inl (cs 0, 60, .inl (upd (F 0) n b0))), ((q 11), .inl (cs 0, 60, .inl (upd (F 1) n mo))), ((q 12), .inl (cs 0, 60, .inl (upd (F 2) n mi))), ((q 13), .inl (cs 0, 60, .inl (F 3))), ((q 14), .inl (cs 0, 4, .inl (F 4))), ((q 15), .inl (cs 0, 4, .inl (F 5)))] H := hP
    have hD : va_D A [((q 1), .inr (2, [.ref (q 10), .ref (q 11), .ref (q 12), .ref (q 13), .ref (q 14), .ref (q 15), .int (nI n)])), ((q 10), .inl (cs 0, 60, .inl (upd (F 0) n b0))), ((q 11), .inl (cs 0, 60, .inl (upd (F 1) n mo))), ((q 12), .inl (cs 0, 60, .inl (upd (F 2) n mi))), ((q 13), .inl (cs 0, 60, .inl (F 3))), ((q 14), .inl (cs 0, 4, .inl (F 4))), ((q 15), .inl (cs 0, 4, .inl (F 5)))] := hD
    refine lv_aload_n hx hb dX2_add_42 rfl (lv_at hl 1 rfl) ?_
    refine va_get (D := D) (ci := 2) (v := .ref (q 13)) (C := RX2) (T := TX2) (N := 7) hx hb hts (fun _ h => List.mem_cons_of_mem _ (List.mem_append_right _ h)) hown hK hP 0 rfl rfl 3 (by decide) (hts (.fieldLink RX2 21 "UnderPromise$Things" "land" "[I") (List.mem_of_getElem? (i := 5) rfl)) (fun _ h9 => h9) rfl dX2_add_43 ?_
    refine lv_iload hx hb dX2_add_46 (lv_at hl 0 rfl) ?_
    refine lv_iload hx hb dX2_add_48 (lv_at hl 5 rfl) ?_
    refine iastK hx hb hK hP hD hS 4 0 rfl rfl n (vp_in_nI (by omega) (by decide)) (nI_clamp (by omega)) dX2_add_50 (fun H locs hP hD hS => ?_)
    have hP : va_P D vwCl [((q 1), .inr (2, [.ref (q 10), .ref (q 11), .ref (q 12), .ref (q 13), .ref (q 14), .ref (q 15), .int (nI n)])), ((q 10), .inl (cs 0, 60, .inl (upd (F 0) n b0))), ((q 11), .inl (cs 0, 60, .inl (upd (F 1) n mo))), ((q 12), .inl (cs 0, 60, .inl (upd (F 2) n mi))), ((q 13), .inl (cs 0, 60, .inl (upd (F 3) n ld))), ((q 14), .inl (cs 0, 4, .inl (F 4))), ((q 15), .inl (cs 0, 4, .inl (F 5)))] H := hP
    have hD : va_D A [((q 1), .inr (2, [.ref (q 10), .ref (q 11), .ref (q 12), .ref (q 13), .ref (q 14), .ref (q 15), .int (nI n)])), ((q 10), .inl (cs 0, 60, .inl (upd (F 0) n b0))), ((q 11), .inl (cs 0, 60, .inl (upd (F 1) n mo))), ((q 12), .inl (cs 0, 60, .inl (upd (F 2) n mi))), ((q 13), .inl (cs 0, 60, .inl (upd (F 3) n ld))), ((q 14), .inl (cs 0, 4, .inl (F 4))), ((q 15), .inl (cs 0, 4, .inl (F 5)))] := hD
    refine lv_aload_n hx hb dX2_add_51 rfl (lv_at hl 1 rfl) ?_
    refine lv_dup hx hb dX2_add_52 rfl ?_
    refine va_get (D := D) (ci := 2) (v := .int (nI n)) (C := RX2) (T := TX2) (N := 7) hx hb hts (fun _ h => List.mem_cons_of_mem _ (List.mem_append_right _ h)) hown hK hP 0 rfl rfl 6 (by decide) (hts (.fieldLink RX2 30 "UnderPromise$Things" "size" "I") (List.mem_of_getElem? (i := 1) rfl)) (fun _ h9 => h9) rfl dX2_add_53 ?_
    refine lv_iconst (v := 1) hx hb dX2_add_56 (by decide) ?_
    refine lv_iadd hx hb dX2_add_57 ?_
    rw [nI_1]
    refine va_put (D := D) (ci := 2) (v := .int (nI (n + 1))) (ty := .int) (C := RX2) (T := TX2) (N := 7) hx hb hts (fun _ h => List.mem_cons_of_mem _ (List.mem_append_right _ h)) tyX2 tyX2_ok nmX2 hown hK hP hD hS 0 rfl rfl 6 (by decide) (hts (.fieldLink RX2 30 "UnderPromise$Things" "size" "I") (List.mem_of_getElem? (i := 1) rfl)) (fun _ h9 => h9) rfl (by decide +kernel) rfl rfl (Nat.le_of_ble_eq_true rfl) dX2_add_58 (fun H locs hP hD hS => ?_)
    have hP : va_P D vwCl [((q 1), .inr (2, [.ref (q 10), .ref (q 11), .ref (q 12), .ref (q 13), .ref (q 14), .ref (q 15), .int (nI (n + 1))])), ((q 10), .inl (cs 0, 60, .inl (upd (F 0) n b0))), ((q 11), .inl (cs 0, 60, .inl (upd (F 1) n mo))), ((q 12), .inl (cs 0, 60, .inl (upd (F 2) n mi))), ((q 13), .inl (cs 0, 60, .inl (upd (F 3) n ld))), ((q 14), .inl (cs 0, 4, .inl (F 4))), ((q 15), .inl (cs 0, 4, .inl (F 5)))] H := hP
    have hD : va_D A [((q 1), .inr (2, [.ref (q 10), .ref (q 11), .ref (q 12), .ref (q 13), .ref (q 14), .ref (q 15), .int (nI (n + 1))])), ((q 10), .inl (cs 0, 60, .inl (upd (F 0) n b0))), ((q 11), .inl (cs 0, 60, .inl (upd (F 1) n mo))), ((q 12), .inl (cs 0, 60, .inl (upd (F 2) n mi))), ((q 13), .inl (cs 0, 60, .inl (upd (F 3) n ld))), ((q 14), .inl (cs 0, 4, .inl (F 4))), ((q 15), .inl (cs 0, 4, .inl (F 5)))] := hD
    refine lv_iload hx hb dX2_add_61 (lv_at hl 0 rfl) ?_
    exact W.iret (v := (nI n)) hx hb hr (fun t9 ht9 hW9 => ⟨⟨(nI n), (), rfl, (by simp [hlt9]), by show va_P D vwCl (tW q cs (adF (decide (n < 60)) F n b0 mo mi ld) (adN (decide (n < 60)) n)) t9.heap; rw [ht9, show decide (n < 60) = true from decide_eq_true hlt9]; exact hP⟩, hS.F ht9⟩) hS.2.2 dX2_add_63
  · have c_3 := i_nlt c_1
    have hlt9 : ¬ n < 60 := (not_congr (nI_ltI (b := 60) (by omega) (by decide))).mp c_1
    refine lv_bipush (v := (-4)) hx hb dX2_add_9 (by decide) ?_
    exact W.iret (v := (-4)) hx hb hr (fun t9 ht9 hW9 => ⟨⟨(-4), (), rfl, (by simp [hlt9]), by show va_P D vwCl (tW q cs (adF (decide (n < 60)) F n b0 mo mi ld) (adN (decide (n < 60)) n)) t9.heap; rw [ht9, show decide (n < 60) = false from decide_eq_false hlt9]; exact hP⟩, hS.F ht9⟩) hS.2.2 dX2_add_11
set_option maxHeartbeats 4000000 in
set_option maxRecDepth 100000 in
/-- X0_add -/
theorem c_X0_add (l : Launch) (D : va_G) (cs : Nat → ClassId) (q : Nat → Nat) (F : Nat → Nat → Int32) (n c : Nat) (sz : Nat) (x : Int32) (p0 : Int32) (mo : Int32) (to0 : Int32) (co : Int32) (ag : Int32) (jd : Int32) (hI : Inv F n c) : Met l yX0_add wsX0_add ({ frames := 0, cells := 0, slots := 0, locals := 0 }) (va_Pc [.ref (q 2), .int x, .int p0, .int mo, .int to0, .int co, .int ag, .int jd] (mpre D cs (cW q cs F c) sz)) (va_Qi (fun r (_ : Unit) => r = (if c < 100 then jd else -4)) (fun _ t => va_P D vwCl (cW q cs (clF (decide (c < 100)) F c x p0 mo to0 co ag jd) (adN (decide (c < 100)) c)) t.heap) (va_A (cW q cs F c) sz)) 0 0 (va_A (cW q cs F c) sz) := by
  refine Met.ofW (cc := cX0_add) (maxL := 8) (ret := (some .int)) (by decide) rfl ?_
  intro p e s m args below meth c_ s₁ B hml hv
  obtain ⟨rfl, hsz, hP, hK, hN, hD0⟩ := hv
  have hx := B.exec
  have hb := B.bytes
  have hr := B.returns
  have hts := atoms_spec (ws := wsX0_add) B.pre
  have hown : s.vm.findClass RX0 = some m.cls := findClass_of_methodNamed B.named
  have hlocks := B.notSynchronized
  subst hsz
  have hD := hD0.self (sz := s.heap.size)
  generalize hAe : va_A (cW q cs F c) s.heap.size = A at hD ⊢
  have hA : ∀ q : Nat, s.heap.size ≤ q → A q := fun q h => by rw [← hAe]; exact Or.inr h
  have hS : va_S A s.heap s.heap [] := va_S.rf
  have hP : va_P D vwCl [((q 2), .inr (0, [.ref (q 20), .ref (q 21), .ref (q 22), .ref (q 23), .ref (q 24), .ref (q 25), .ref (q 26), .int (nI c)])), ((q 20), .inl (cs 0, 100, .inl (F 6))), ((q 21), .inl (cs 0, 100, .inl (F 7))), ((q 22), .inl (cs 0, 100, .inl (F 8))), ((q 23), .inl (cs 0, 100, .inl (F 9))), ((q 24), .inl (cs 0, 100, .inl (F 10))), ((q 25), .inl (cs 0, 100, .inl (F 15))), ((q 26), .inl (cs 0, 100, .inl (F 11)))] s.heap := hP
  have hD : va_D A [((q 2), .inr (0, [.ref (q 20), .ref (q 21), .ref (q 22), .ref (q 23), .ref (q 24), .ref (q 25), .ref (q 26), .int (nI c)])), ((q 20), .inl (cs 0, 100, .inl (F 6))), ((q 21), .inl (cs 0, 100, .inl (F 7))), ((q 22), .inl (cs 0, 100, .inl (F 8))), ((q 23), .inl (cs 0, 100, .inl (F 9))), ((q 24), .inl (cs 0, 100, .inl (F 10))), ((q 25), .inl (cs 0, 100, .inl (F 15))), ((q 26), .inl (cs 0, 100, .inl (F 11)))] := hD
  have hl := lv_entry ([.ref (q 2), .int x, .int p0, .int mo, .int to0, .int co, .int ag, .int jd]) (n := 8) (Nat.le_of_ble_eq_true rfl)
  rw [lg_entry_eq]
  generalize (lg_sl ([.ref (q 2), .int x, .int p0, .int mo, .int to0, .int co, .int ag, .int jd]) ++ List.replicate (8 - (lg_sl ([.ref (q 2), .int x, .int p0, .int mo, .int to0, .int co, .int ag, .int jd])).length) Slot.unset).toArray = ls at hl ⊢
  have hl : lv_has ls 8 [(0, .ref (q 2)), (1, .int x), (2, .int p0), (3, .int mo), (4, .int to0), (5, .int co), (6, .int ag), (7, .int jd)] := hl
  have hn60 := hI.n60
  have hc100 := hI.c100
  refine lv_aload_n hx hb dX0_add_0 rfl (lv_at hl 0 rfl) ?_
  refine va_get (D := D) (ci := 0) (v := .int (nI c)) (C := RX0) (T := TX0) (N := 8) hx hb hts (fun _ h => List.mem_cons_of_mem _ (List.mem_append_right _ h)) hown hK hP 0 rfl rfl 7 (by decide) (hts (.fieldLink RX0 33 "UnderPromise$Claims" "size" "I") (List.mem_of_getElem? (i := 1) rfl)) (fun _ h9 => h9) rfl dX0_add_1 ?_
  refine lv_bipush (v := 100) hx hb dX0_add_4 (by decide) ?_
  refine lv_icmp_lt (tgt := 12) hx hb dX0_add_6 (by decide) (fun c_1 => ?_) (fun c_1 => ?_)
  · have c_2 := i_lt c_1
    have hlt9 : c < 100 := (nI_ltI (b := 100) (by omega) (by decide)).mp c_1
    refine lv_aload_n hx hb dX0_add_12 rfl (lv_at hl 0 rfl) ?_
    refine va_get (D := D) (ci := 0) (v := .ref (q 20)) (C := RX0) (T := TX0) (N := 8) hx hb hts (fun _ h => List.mem_cons_of_mem _ (List.mem_append_right _ h)) hown hK hP 0 rfl rfl 0 (by decide) (hts (.fieldLink RX0 9 "UnderPromise$Claims" "thing" "[I") (List.mem_of_getElem? (i := 2) rfl)) (fun _ h9 => h9) rfl dX0_add_13 ?_
    refine lv_aload_n hx hb dX0_add_16 rfl (lv_at hl 0 rfl) ?_
    refine va_get (D := D) (ci := 0) (v := .int (nI c)) (C := RX0) (T := TX0) (N := 8) hx hb hts (fun _ h => List.mem_cons_of_mem _ (List.mem_append_right _ h)) hown hK hP 0 rfl rfl 7 (by decide) (hts (.fieldLink RX0 33 "UnderPromise$Claims" "size" "I") (List.mem_of_getElem? (i := 1) rfl)) (fun _ h9 => h9) rfl dX0_add_17 ?_
    refine lv_iload_n hx hb dX0_add_20 rfl (lv_at hl 1 rfl) ?_
    refine iastK hx hb hK hP hD hS 1 0 rfl rfl c (vp_in_nI (by omega) (by decide)) (nI_clamp (by omega)) dX0_add_21 (fun H locs hP hD hS => ?_)
    have hP : va_P D vwCl [((q 2), .inr (0, [.ref (q 20), .ref (q 21), .ref (q 22), .ref (q 23), .ref (q 24), .ref (q 25), .ref (q 26), .int (nI c)])), ((q 20), .inl (cs 0, 100, .inl (upd (F 6) c x))), ((q 21), .inl (cs 0, 100, .inl (F 7))), ((q 22), .inl (cs 0, 100, .inl (F 8))), ((q 23), .inl (cs 0, 100, .inl (F 9))), ((q 24), .inl (cs 0, 100, .inl (F 10))), ((q 25), .inl (cs 0, 100, .inl (F 15))), ((q 26), .inl (cs 0, 100, .inl (F 11)))] H := hP
    have hD : va_D A [((q 2), .inr (0, [.ref (q 20), .ref (q 21), .ref (q 22), .ref (q 23), .ref (q 24), .ref (q 25), .ref (q 26), .int (nI c)])), ((q 20), .inl (cs 0, 100, .inl (upd (F 6) c x))), ((q 21), .inl (cs 0, 100, .inl (F 7))), ((q 22), .inl (cs 0, 100, .inl (F 8))), ((q 23), .inl (cs 0, 100, .inl (F 9))), ((q 24), .inl (cs 0, 100, .inl (F 10))), ((q 25), .inl (cs 0, 100, .inl (F 15))), ((q 26), .inl (cs 0, 100, .inl (F 11)))] := hD
    refine lv_aload_n hx hb dX0_add_22 rfl (lv_at hl 0 rfl) ?_
    refine va_get (D := D) (ci := 0) (v := .ref (q 21)) (C := RX0) (T := TX0) (N := 8) hx hb hts (fun _ h => List.mem_cons_of_mem _ (List.mem_append_right _ h)) hown hK hP 0 rfl rfl 1 (by decide) (hts (.fieldLink RX0 15 "UnderPromise$Claims" "part" "[I") (List.mem_of_getElem? (i := 3) rfl)) (fun _ h9 => h9) rfl dX0_add_23 ?_
    refine lv_aload_n hx hb dX0_add_26 rfl (lv_at hl 0 rfl) ?_
    refine va_get (D := D) (ci := 0) (v := .int (nI c)) (C := RX0) (T := TX0) (N := 8) hx hb hts (fun _ h => List.mem_cons_of_mem _ (List.mem_append_right _ h)) hown hK hP 0 rfl rfl 7 (by decide) (hts (.fieldLink RX0 33 "UnderPromise$Claims" "size" "I") (List.mem_of_getElem? (i := 1) rfl)) (fun _ h9 => h9) rfl dX0_add_27 ?_
    refine lv_iload_n hx hb dX0_add_30 rfl (lv_at hl 2 rfl) ?_
    refine iastK hx hb hK hP hD hS 2 0 rfl rfl c (vp_in_nI (by omega) (by decide)) (nI_clamp (by omega)) dX0_add_31 (fun H locs hP hD hS => ?_)
    have hP : va_P D vwCl [((q 2), .inr (0, [.ref (q 20), .ref (q 21), .ref (q 22), .ref (q 23), .ref (q 24), .ref (q 25), .ref (q 26), .int (nI c)])), ((q 20), .inl (cs 0, 100, .inl (upd (F 6) c x))), ((q 21), .inl (cs 0, 100, .inl (upd (F 7) c p0))), ((q 22), .inl (cs 0, 100, .inl (F 8))), ((q 23), .inl (cs 0, 100, .inl (F 9))), ((q 24), .inl (cs 0, 100, .inl (F 10))), ((q 25), .inl (cs 0, 100, .inl (F 15))), ((q 26), .inl (cs 0, 100, .inl (F 11)))] H := hP
    have hD : va_D A [((q 2), .inr (0, [.ref (q 20), .ref (q 21), .ref (q 22), .ref (q 23), .ref (q 24), .ref (q 25), .ref (q 26), .int (nI c)])), ((q 20), .inl (cs 0, 100, .inl (upd (F 6) c x))), ((q 21), .inl (cs 0, 100, .inl (upd (F 7) c p0))), ((q 22), .inl (cs 0, 100, .inl (F 8))), ((q 23), .inl (cs 0, 100, .inl (F 9))), ((q 24), .inl (cs 0, 100, .inl (F 10))), ((q 25), .inl (cs 0, 100, .inl (F 15))), ((q 26), .inl (cs 0, 100, .inl (F 11)))] := hD
    refine lv_aload_n hx hb dX0_add_32 rfl (lv_at hl 0 rfl) ?_
    refine va_get (D := D) (ci := 0) (v := .ref (q 22)) (C := RX0) (T := TX0) (N := 8) hx hb hts (fun _ h => List.mem_cons_of_mem _ (List.mem_append_right _ h)) hown hK hP 0 rfl rfl 2 (by decide) (hts (.fieldLink RX0 18 "UnderPromise$Claims" "failed" "[I") (List.mem_of_getElem? (i := 4) rfl)) (fun _ h9 => h9) rfl dX0_add_33 ?_
    refine lv_aload_n hx hb dX0_add_36 rfl (lv_at hl 0 rfl) ?_
    refine va_get (D := D) (ci := 0) (v := .int (nI c)) (C := RX0) (T := TX0) (N := 8) hx hb hts (fun _ h => List.mem_cons_of_mem _ (List.mem_append_right _ h)) hown hK hP 0 rfl rfl 7 (by decide) (hts (.fieldLink RX0 33 "UnderPromise$Claims" "size" "I") (List.mem_of_getElem? (i := 1) rfl)) (fun _ h9 => h9) rfl dX0_add_37 ?_
    refine lv_iload_n hx hb dX0_add_40 rfl (lv_at hl 3 rfl) ?_
    refine iastK hx hb hK hP hD hS 3 0 rfl rfl c (vp_in_nI (by omega) (by decide)) (nI_clamp (by omega)) dX0_add_41 (fun H locs hP hD hS => ?_)
    have hP : va_P D vwCl [((q 2), .inr (0, [.ref (q 20), .ref (q 21), .ref (q 22), .ref (q 23), .ref (q 24), .ref (q 25), .ref (q 26), .int (nI c)])), ((q 20), .inl (cs 0, 100, .inl (upd (F 6) c x))), ((q 21), .inl (cs 0, 100, .inl (upd (F 7) c p0))), ((q 22), .inl (cs 0, 100, .inl (upd (F 8) c mo))), ((q 23), .inl (cs 0, 100, .inl (F 9))), ((q 24), .inl (cs 0, 100, .inl (F 10))), ((q 25), .inl (cs 0, 100, .inl (F 15))), ((q 26), .inl (cs 0, 100, .inl (F 11)))] H := hP
    have hD : va_D A [((q 2), .inr (0, [.ref (q 20), .ref (q 21), .ref (q 22), .ref (q 23), .ref (q 24), .ref (q 25), .ref (q 26), .int (nI c)])), ((q 20), .inl (cs 0, 100, .inl (upd (F 6) c x))), ((q 21), .inl (cs 0, 100, .inl (upd (F 7) c p0))), ((q 22), .inl (cs 0, 100, .inl (upd (F 8) c mo))), ((q 23), .inl (cs 0, 100, .inl (F 9))), ((q 24), .inl (cs 0, 100, .inl (F 10))), ((q 25), .inl (cs 0, 100, .inl (F 15))), ((q 26), .inl (cs 0, 100, .inl (F 11)))] := hD
    refine lv_aload_n hx hb dX0_add_42 rfl (lv_at hl 0 rfl) ?_
    refine va_get (D := D) (ci := 0) (v := .ref (q 23)) (C := RX0) (T := TX0) (N := 8) hx hb hts (fun _ h => List.mem_cons_of_mem _ (List.mem_append_right _ h)) hown hK hP 0 rfl rfl 3 (by decide) (hts (.fieldLink RX0 21 "UnderPromise$Claims" "told" "[I") (List.mem_of_getElem? (i := 5) rfl)) (fun _ h9 => h9) rfl dX0_add_43 ?_
    refine lv_aload_n hx hb dX0_add_46 rfl (lv_at hl 0 rfl) ?_
    refine va_get (D := D) (ci := 0) (v := .int (nI c)) (C := RX0) (T := TX0) (N := 8) hx hb hts (fun _ h => List.mem_cons_of_mem _ (List.mem_append_right _ h)) hown hK hP 0 rfl rfl 7 (by decide) (hts (.fieldLink RX0 33 "UnderPromise$Claims" "size" "I") (List.mem_of_getElem? (i := 1) rfl)) (fun _ h9 => h9) rfl dX0_add_47 ?_
    refine lv_iload hx hb dX0_add_50 (lv_at hl 4 rfl) ?_
    refine iastK hx hb hK hP hD hS 4 0 rfl rfl c (vp_in_nI (by omega) (by decide)) (nI_clamp (by omega)) dX0_add_52 (fun H locs hP hD hS => ?_)
    have hP : va_P D vwCl [((q 2), .inr (0, [.ref (q 20), .ref (q 21), .ref (q 22), .ref (q 23), .ref (q 24), .ref (q 25), .ref (q 26), .int (nI c)])), ((q 20), .inl (cs 0, 100, .inl (upd (F 6) c x))), ((q 21), .inl (cs 0, 100, .inl (upd (F 7) c p0))), ((q 22), .inl (cs 0, 100, .inl (upd (F 8) c mo))), ((q 23), .inl (cs 0, 100, .inl (upd (F 9) c to0))), ((q 24), .inl (cs 0, 100, .inl (F 10))), ((q 25), .inl (cs 0, 100, .inl (F 15))), ((q 26), .inl (cs 0, 100, .inl (F 11)))] H := hP
    have hD : va_D A [((q 2), .inr (0, [.ref (q 20), .ref (q 21), .ref (q 22), .ref (q 23), .ref (q 24), .ref (q 25), .ref (q 26), .int (nI c)])), ((q 20), .inl (cs 0, 100, .inl (upd (F 6) c x))), ((q 21), .inl (cs 0, 100, .inl (upd (F 7) c p0))), ((q 22), .inl (cs 0, 100, .inl (upd (F 8) c mo))), ((q 23), .inl (cs 0, 100, .inl (upd (F 9) c to0))), ((q 24), .inl (cs 0, 100, .inl (F 10))), ((q 25), .inl (cs 0, 100, .inl (F 15))), ((q 26), .inl (cs 0, 100, .inl (F 11)))] := hD
    refine lv_aload_n hx hb dX0_add_53 rfl (lv_at hl 0 rfl) ?_
    refine va_get (D := D) (ci := 0) (v := .ref (q 24)) (C := RX0) (T := TX0) (N := 8) hx hb hts (fun _ h => List.mem_cons_of_mem _ (List.mem_append_right _ h)) hown hK hP 0 rfl rfl 4 (by decide) (hts (.fieldLink RX0 24 "UnderPromise$Claims" "cost" "[I") (List.mem_of_getElem? (i := 6) rfl)) (fun _ h9 => h9) rfl dX0_add_54 ?_
    refine lv_aload_n hx hb dX0_add_57 rfl (lv_at hl 0 rfl) ?_
    refine va_get (D := D) (ci := 0) (v := .int (nI c)) (C := RX0) (T := TX0) (N := 8) hx hb hts (fun _ h => List.mem_cons_of_mem _ (List.mem_append_right _ h)) hown hK hP 0 rfl rfl 7 (by decide) (hts (.fieldLink RX0 33 "UnderPromise$Claims" "size" "I") (List.mem_of_getElem? (i := 1) rfl)) (fun _ h9 => h9) rfl dX0_add_58 ?_
    refine lv_iload hx hb dX0_add_61 (lv_at hl 5 rfl) ?_
    refine iastK hx hb hK hP hD hS 5 0 rfl rfl c (vp_in_nI (by omega) (by decide)) (nI_clamp (by omega)) dX0_add_63 (fun H locs hP hD hS => ?_)
    have hP : va_P D vwCl [((q 2), .inr (0, [.ref (q 20), .ref (q 21), .ref (q 22), .ref (q 23), .ref (q 24), .ref (q 25), .ref (q 26), .int (nI c)])), ((q 20), .inl (cs 0, 100, .inl (upd (F 6) c x))), ((q 21), .inl (cs 0, 100, .inl (upd (F 7) c p0))), ((q 22), .inl (cs 0, 100, .inl (upd (F 8) c mo))), ((q 23), .inl (cs 0, 100, .inl (upd (F 9) c to0))), ((q 24), .inl (cs 0, 100, .inl (upd (F 10) c co))), ((q 25), .inl (cs 0, 100, .inl (F 15))), ((q 26), .inl (cs 0, 100, .inl (F 11)))] H := hP
    have hD : va_D A [((q 2), .inr (0, [.ref (q 20), .ref (q 21), .ref (q 22), .ref (q 23), .ref (q 24), .ref (q 25), .ref (q 26), .int (nI c)])), ((q 20), .inl (cs 0, 100, .inl (upd (F 6) c x))), ((q 21), .inl (cs 0, 100, .inl (upd (F 7) c p0))), ((q 22), .inl (cs 0, 100, .inl (upd (F 8) c mo))), ((q 23), .inl (cs 0, 100, .inl (upd (F 9) c to0))), ((q 24), .inl (cs 0, 100, .inl (upd (F 10) c co))), ((q 25), .inl (cs 0, 100, .inl (F 15))), ((q 26), .inl (cs 0, 100, .inl (F 11)))] := hD
    refine lv_aload_n hx hb dX0_add_64 rfl (lv_at hl 0 rfl) ?_
    refine va_get (D := D) (ci := 0) (v := .ref (q 25)) (C := RX0) (T := TX0) (N := 8) hx hb hts (fun _ h => List.mem_cons_of_mem _ (List.mem_append_right _ h)) hown hK hP 0 rfl rfl 5 (by decide) (hts (.fieldLink RX0 27 "UnderPromise$Claims" "age" "[I") (List.mem_of_getElem? (i := 7) rfl)) (fun _ h9 => h9) rfl dX0_add_65 ?_
    refine lv_aload_n hx hb dX0_add_68 rfl (lv_at hl 0 rfl) ?_
    refine va_get (D := D) (ci := 0) (v := .int (nI c)) (C := RX0) (T := TX0) (N := 8) hx hb hts (fun _ h => List.mem_cons_of_mem _ (List.mem_append_right _ h)) hown hK hP 0 rfl rfl 7 (by decide) (hts (.fieldLink RX0 33 "UnderPromise$Claims" "size" "I") (List.mem_of_getElem? (i := 1) rfl)) (fun _ h9 => h9) rfl dX0_add_69 ?_
    refine lv_iload hx hb dX0_add_72 (lv_at hl 6 rfl) ?_
    refine iastK hx hb hK hP hD hS 6 0 rfl rfl c (vp_in_nI (by omega) (by decide)) (nI_clamp (by omega)) dX0_add_74 (fun H locs hP hD hS => ?_)
    have hP : va_P D vwCl [((q 2), .inr (0, [.ref (q 20), .ref (q 21), .ref (q 22), .ref (q 23), .ref (q 24), .ref (q 25), .ref (q 26), .int (nI c)])), ((q 20), .inl (cs 0, 100, .inl (upd (F 6) c x))), ((q 21), .inl (cs 0, 100, .inl (upd (F 7) c p0))), ((q 22), .inl (cs 0, 100, .inl (upd (F 8) c mo))), ((q 23), .inl (cs 0, 100, .inl (upd (F 9) c to0))), ((q 24), .inl (cs 0, 100, .inl (upd (F 10) c co))), ((q 25), .inl (cs 0, 100, .inl (upd (F 15) c ag))), ((q 26), .inl (cs 0, 100, .inl (F 11)))] H := hP
    have hD : va_D A [((q 2), .inr (0, [.ref (q 20), .ref (q 21), .ref (q 22), .ref (q 23), .ref (q 24), .ref (q 25), .ref (q 26), .int (nI c)])), ((q 20), .inl (cs 0, 100, .inl (upd (F 6) c x))), ((q 21), .inl (cs 0, 100, .inl (upd (F 7) c p0))), ((q 22), .inl (cs 0, 100, .inl (upd (F 8) c mo))), ((q 23), .inl (cs 0, 100, .inl (upd (F 9) c to0))), ((q 24), .inl (cs 0, 100, .inl (upd (F 10) c co))), ((q 25), .inl (cs 0, 100, .inl (upd (F 15) c ag))), ((q 26), .inl (cs 0, 100, .inl (F 11)))] := hD
    refine lv_aload_n hx hb dX0_add_75 rfl (lv_at hl 0 rfl) ?_
    refine va_get (D := D) (ci := 0) (v := .ref (q 26)) (C := RX0) (T := TX0) (N := 8) hx hb hts (fun _ h => List.mem_cons_of_mem _ (List.mem_append_right _ h)) hown hK hP 0 rfl rfl 6 (by decide) (hts (.fieldLink RX0 30 "UnderPromise$Claims" "judged" "[I") (List.mem_of_getElem? (i := 8) rfl)) (fun _ h9 => h9) rfl dX0_add_76 ?_
    refine lv_aload_n hx hb dX0_add_79 rfl (lv_at hl 0 rfl) ?_
    refine va_get (D := D) (ci := 0) (v := .int (nI c)) (C := RX0) (T := TX0) (N := 8) hx hb hts (fun _ h => List.mem_cons_of_mem _ (List.mem_append_right _ h)) hown hK hP 0 rfl rfl 7 (by decide) (hts (.fieldLink RX0 33 "UnderPromise$Claims" "size" "I") (List.mem_of_getElem? (i := 1) rfl)) (fun _ h9 => h9) rfl dX0_add_80 ?_
    refine lv_iload hx hb dX0_add_83 (lv_at hl 7 rfl) ?_
    refine iastK hx hb hK hP hD hS 7 0 rfl rfl c (vp_in_nI (by omega) (by decide)) (nI_clamp (by omega)) dX0_add_85 (fun H locs hP hD hS => ?_)
    have hP : va_P D vwCl [((q 2), .inr (0, [.ref (q 20), .ref (q 21), .ref (q 22), .ref (q 23), .ref (q 24), .ref (q 25), .ref (q 26), .int (nI c)])), ((q 20), .inl (cs 0, 100, .inl (upd (F 6) c x))), ((q 21), .inl (cs 0, 100, .inl (upd (F 7) c p0))), ((q 22), .inl (cs 0, 100, .inl (upd (F 8) c mo))), ((q 23), .inl (cs 0, 100, .inl (upd (F 9) c to0))), ((q 24), .inl (cs 0, 100, .inl (upd (F 10) c co))), ((q 25), .inl (cs 0, 100, .inl (upd (F 15) c ag))), ((q 26), .inl (cs 0, 100, .inl (upd (F 11) c jd)))] H := hP
    have hD : va_D A [((q 2), .inr (0, [.ref (q 20), .ref (q 21), .ref (q 22), .ref (q 23), .ref (q 24), .ref (q 25), .ref (q 26), .int (nI c)])), ((q 20), .inl (cs 0, 100, .inl (upd (F 6) c x))), ((q 21), .inl (cs 0, 100, .inl (upd (F 7) c p0))), ((q 22), .inl (cs 0, 100, .inl (upd (F 8) c mo))), ((q 23), .inl (cs 0, 100, .inl (upd (F 9) c to0))), ((q 24), .inl (cs 0, 100, .inl (upd (F 10) c co))), ((q 25), .inl (cs 0, 100, .inl (upd (F 15) c ag))), ((q 26), .inl (cs 0, 100, .inl (upd (F 11) c jd)))] := hD
    refine lv_aload_n hx hb dX0_add_86 rfl (lv_at hl 0 rfl) ?_
    refine lv_dup hx hb dX0_add_87 rfl ?_
    refine va_get (D := D) (ci := 0) (v := .int (nI c)) (C := RX0) (T := TX0) (N := 8) hx hb hts (fun _ h => List.mem_cons_of_mem _ (List.mem_append_right _ h)) hown hK hP 0 rfl rfl 7 (by decide) (hts (.fieldLink RX0 33 "UnderPromise$Claims" "size" "I") (List.mem_of_getElem? (i := 1) rfl)) (fun _ h9 => h9) rfl dX0_add_88 ?_
    refine lv_iconst (v := 1) hx hb dX0_add_91 (by decide) ?_
    refine lv_iadd hx hb dX0_add_92 ?_
    rw [nI_1]
    refine va_put (D := D) (ci := 0) (v := .int (nI (c + 1))) (ty := .int) (C := RX0) (T := TX0) (N := 8) hx hb hts (fun _ h => List.mem_cons_of_mem _ (List.mem_append_right _ h)) tyX0 tyX0_ok nmX0 hown hK hP hD hS 0 rfl rfl 7 (by decide) (hts (.fieldLink RX0 33 "UnderPromise$Claims" "size" "I") (List.mem_of_getElem? (i := 1) rfl)) (fun _ h9 => h9) rfl (by decide +kernel) rfl rfl (Nat.le_of_ble_eq_true rfl) dX0_add_93 (fun H locs hP hD hS => ?_)
    have hP : va_P D vwCl [((q 2), .inr (0, [.ref (q 20), .ref (q 21), .ref (q 22), .ref (q 23), .ref (q 24), .ref (q 25), .ref (q 26), .int (nI (c + 1))])), ((q 20), .inl (cs 0, 100, .inl (upd (F 6) c x))), ((q 21), .inl (cs 0, 100, .inl (upd (F 7) c p0))), ((q 22), .inl (cs 0, 100, .inl (upd (F 8) c mo))), ((q 23), .inl (cs 0, 100, .inl (upd (F 9) c to0))), ((q 24), .inl (cs 0, 100, .inl (upd (F 10) c co))), ((q 25), .inl (cs 0, 100, .inl (upd (F 15) c ag))), ((q 26), .inl (cs 0, 100, .inl (upd (F 11) c jd)))] H := hP
    have hD : va_D A [((q 2), .inr (0, [.ref (q 20), .ref (q 21), .ref (q 22), .ref (q 23), .ref (q 24), .ref (q 25), .ref (q 26), .int (nI (c + 1))])), ((q 20), .inl (cs 0, 100, .inl (upd (F 6) c x))), ((q 21), .inl (cs 0, 100, .inl (upd (F 7) c p0))), ((q 22), .inl (cs 0, 100, .inl (upd (F 8) c mo))), ((q 23), .inl (cs 0, 100, .inl (upd (F 9) c to0))), ((q 24), .inl (cs 0, 100, .inl (upd (F 10) c co))), ((q 25), .inl (cs 0, 100, .inl (upd (F 15) c ag))), ((q 26), .inl (cs 0, 100, .inl (upd (F 11) c jd)))] := hD
    refine lv_iload hx hb dX0_add_96 (lv_at hl 7 rfl) ?_
    exact W.iret (v := jd) hx hb hr (fun t9 ht9 hW9 => ⟨⟨jd, (), rfl, (by simp [hlt9]), by show va_P D vwCl (cW q cs (clF (decide (c < 100)) F c x p0 mo to0 co ag jd) (adN (decide (c < 100)) c)) t9.heap; rw [ht9, show decide (c < 100) = true from decide_eq_true hlt9]; exact hP⟩, hS.F ht9⟩) hS.2.2 dX0_add_98
  · have c_3 := i_nlt c_1
    have hlt9 : ¬ c < 100 := (not_congr (nI_ltI (b := 100) (by omega) (by decide))).mp c_1
    refine lv_bipush (v := (-4)) hx hb dX0_add_9 (by decide) ?_
    exact W.iret (v := (-4)) hx hb hr (fun t9 ht9 hW9 => ⟨⟨(-4), (), rfl, (by simp [hlt9]), by show va_P D vwCl (cW q cs (clF (decide (c < 100)) F c x p0 mo to0 co ag jd) (adN (decide (c < 100)) c)) t9.heap; rw [ht9, show decide (c < 100) = false from decide_eq_false hlt9]; exact hP⟩, hS.F ht9⟩) hS.2.2 dX0_add_11
set_option maxHeartbeats 4000000 in
set_option maxRecDepth 100000 in
/-- X4_thing -/
theorem c_X4_thing (l : Launch) (D : va_G) (cs : Nat → ClassId) (q : Nat → Nat) (F : Nat → Nat → Int32) (n c : Nat) (g : Int32) (sz : Nat) (b0 : Int32) (mo : Int32) (mi : Int32) (ld : Int32) (hI : Inv F n c) : Met l yX4_thing wsX4_thing ({ frames := 2, cells := 0, slots := 0, locals := 42 }) (va_Pc [.ref (q 0), .int b0, .int mo, .int mi, .int ld] (mpre D cs (x4W q cs F n c g) sz)) (va_Qi (fun r (_ : Unit) => r = (aThing n b0 mo mi ld)) (fun _ t => va_P D vwCl (x4W q cs (adF (okT b0 mo mi ld && decide (n < 60)) F n b0 mo mi ld) (adN (okT b0 mo mi ld && decide (n < 60)) n) c g) t.heap) (va_A (x4W q cs F n c g) sz)) 0 0 (va_A (x4W q cs F n c g) sz) := by
  refine Met.ofW (cc := cX4_thing) (maxL := 5) (ret := (some .int)) (by decide) rfl ?_
  intro p e s m args below meth c_ s₁ B hml hv
  obtain ⟨rfl, hsz, hP, hK, hN, hD0⟩ := hv
  have hx := B.exec
  have hb := B.bytes
  have hr := B.returns
  have hts := atoms_spec (ws := wsX4_thing) B.pre
  have hown : s.vm.findClass RX4 = some m.cls := findClass_of_methodNamed B.named
  have hlocks := B.notSynchronized
  subst hsz
  have hD := hD0.self (sz := s.heap.size)
  generalize hAe : va_A (x4W q cs F n c g) s.heap.size = A at hD ⊢
  have hA : ∀ q : Nat, s.heap.size ≤ q → A q := fun q h => by rw [← hAe]; exact Or.inr h
  have hS : va_S A s.heap s.heap [] := va_S.rf
  have hP : va_P D vwCl [((q 0), .inr (4, [.ref (q 1), .ref (q 2), .ref (q 3), .ref (q 4), .int g])), ((q 1), .inr (2, [.ref (q 10), .ref (q 11), .ref (q 12), .ref (q 13), .ref (q 14), .ref (q 15), .int (nI n)])), ((q 10), .inl (cs 0, 60, .inl (F 0))), ((q 11), .inl (cs 0, 60, .inl (F 1))), ((q 12), .inl (cs 0, 60, .inl (F 2))), ((q 13), .inl (cs 0, 60, .inl (F 3))), ((q 14), .inl (cs 0, 4, .inl (F 4))), ((q 15), .inl (cs 0, 4, .inl (F 5))), ((q 2), .inr (0, [.ref (q 20), .ref (q 21), .ref (q 22), .ref (q 23), .ref (q 24), .ref (q 25), .ref (q 26), .int (nI c)])), ((q 20), .inl (cs 0, 100, .inl (F 6))), ((q 21), .inl (cs 0, 100, .inl (F 7))), ((q 22), .inl (cs 0, 100, .inl (F 8))), ((q 23), .inl (cs 0, 100, .inl (F 9))), ((q 24), .inl (cs 0, 100, .inl (F 10))), ((q 25), .inl (cs 0, 100, .inl (F 15))), ((q 26), .inl (cs 0, 100, .inl (F 11))), ((q 3), .inr (1, [.ref (q 30), .ref (q 31), .ref (q 32)])), ((q 30), .inl (cs 0, 10, .inl (F 12))), ((q 31), .inl (cs 0, 10, .inl (F 13))), ((q 32), .inl (cs 0, 10, .inl (F 14)))] s.heap := hP
  have hD : va_D A [((q 0), .inr (4, [.ref (q 1), .ref (q 2), .ref (q 3), .ref (q 4), .int g])), ((q 1), .inr (2, [.ref (q 10), .ref (q 11), .ref (q 12), .ref (q 13), .ref (q 14), .ref (q 15), .int (nI n)])), ((q 10), .inl (cs 0, 60, .inl (F 0))), ((q 11), .inl (cs 0, 60, .inl (F 1))), ((q 12), .inl (cs 0, 60, .inl (F 2))), ((q 13), .inl (cs 0, 60, .inl (F 3))), ((q 14), .inl (cs 0, 4, .inl (F 4))), ((q 15), .inl (cs 0, 4, .inl (F 5))), ((q 2), .inr (0, [.ref (q 20), .ref (q 21), .ref (q 22), .ref (q 23), .ref (q 24), .ref (q 25), .ref (q 26), .int (nI c)])), ((q 20), .inl (cs 0, 100, .inl (F 6))), ((q 21), .inl (cs 0, 100, .inl (F 7))), ((q 22), .inl (cs 0, 100, .inl (F 8))), ((q 23), .inl (cs 0, 100, .inl (F 9))), ((q 24), .inl (cs 0, 100, .inl (F 10))), ((q 25), .inl (cs 0, 100, .inl (F 15))), ((q 26), .inl (cs 0, 100, .inl (F 11))), ((q 3), .inr (1, [.ref (q 30), .ref (q 31), .ref (q 32)])), ((q 30), .inl (cs 0, 10, .inl (F 12))), ((q 31), .inl (cs 0, 10, .inl (F 13))), ((q 32), .inl (cs 0, 10, .inl (F 14)))] := hD
  have hl := lv_entry ([.ref (q 0), .int b0, .int mo, .int mi, .int ld]) (n := 5) (Nat.le_of_ble_eq_true rfl)
  rw [lg_entry_eq]
  generalize (lg_sl ([.ref (q 0), .int b0, .int mo, .int mi, .int ld]) ++ List.replicate (5 - (lg_sl ([.ref (q 0), .int b0, .int mo, .int mi, .int ld])).length) Slot.unset).toArray = ls at hl ⊢
  have hl : lv_has ls 5 [(0, .ref (q 0)), (1, .int b0), (2, .int mo), (3, .int mi), (4, .int ld)] := hl
  have hn60 := hI.n60
  have hc100 := hI.c100
  refine lv_iload_n hx hb dX4_thing_0 rfl (lv_at hl 1 rfl) ?_
  refine roSi (As := [.int b0]) (rest := []) (v := (bI (rg b0 0 7))) ⟨hx, hb, hml, hown, hts⟩ (c_X4_isBatch l b0) (va_cwS 1 hts gX4_thing_X4_isBatch rfl rfl rfl (by decide +kernel) ⟨Nat.le_of_ble_eq_true rfl, Nat.le_of_ble_eq_true rfl⟩) rfl hl.1 rfl (Nat.le_of_ble_eq_true rfl) dX4_thing_1 ⟨Nat.zero_le _, Nat.zero_le _⟩ ?_
  refine lv_if_eq (tgt := 14) hx hb dX4_thing_4 (by decide) (fun c_1 => ?_) (fun c_1 => ?_)
  · have b_2 : (rg b0 0 7) = false := bI_f c_1
    refine lv_bipush (v := (-2)) hx hb dX4_thing_14 (by decide) ?_
    exact W.iret (v := (-2)) hx hb hr (fun t9 ht9 hW9 => ⟨⟨(-2), (), rfl, (by first | with_reducible rfl | simp [aThing, okT, b_2]), by show va_P D vwCl (x4W q cs (adF (okT b0 mo mi ld && decide (n < 60)) F n b0 mo mi ld) (adN (okT b0 mo mi ld && decide (n < 60)) n) c g) t9.heap; rw [ht9, show (okT b0 mo mi ld && decide (n < 60)) = false from by simp [okT, b_2]]; exact hP⟩, hS.F ht9⟩) hS.2.2 dX4_thing_16
  · have b_3 : (rg b0 0 7) = true := bI_t c_1
    refine lv_iload_n hx hb dX4_thing_7 rfl (lv_at hl 2 rfl) ?_
    refine roSi (As := [.int mo]) (rest := []) (v := (bI (rg mo 0 119))) ⟨hx, hb, hml, hown, hts⟩ (c_X4_isSaleMonth l mo) (va_cwS 1 hts gX4_thing_X4_isSaleMonth rfl rfl rfl (by decide +kernel) ⟨Nat.le_of_ble_eq_true rfl, Nat.le_of_ble_eq_true rfl⟩) rfl hl.1 rfl (Nat.le_of_ble_eq_true rfl) dX4_thing_8 ⟨Nat.zero_le _, Nat.zero_le _⟩ ?_
    refine lv_if_ne (tgt := 17) hx hb dX4_thing_11 (by decide) (fun c_4 => ?_) (fun c_4 => ?_)
    · have b_5 : (rg mo 0 119) = true := bI_t c_4
      refine lv_iload_n hx hb dX4_thing_17 rfl (lv_at hl 3 rfl) ?_
      refine lv_iconst (v := 0) hx hb dX4_thing_18 (by decide) ?_
      refine lv_sipush (v := 5000) hx hb dX4_thing_19 (by decide) ?_
      refine roSi (As := [.int mi, .int 0, .int 5000]) (rest := []) (v := (bI (rg mi 0 5000))) ⟨hx, hb, hml, hown, hts⟩ (c_X4_isWithin l mi 0 5000) (va_cwS 3 hts gX4_thing_X4_isWithin rfl rfl rfl (by decide +kernel) ⟨Nat.le_of_ble_eq_true rfl, Nat.le_of_ble_eq_true rfl⟩) rfl hl.1 rfl (Nat.le_of_ble_eq_true rfl) dX4_thing_22 ⟨Nat.zero_le _, Nat.zero_le _⟩ ?_
      refine lv_if_eq (tgt := 36) hx hb dX4_thing_25 (by decide) (fun c_6 => ?_) (fun c_6 => ?_)
      · have b_7 : (rg mi 0 5000) = false := bI_f c_6
        refine lv_bipush (v := (-2)) hx hb dX4_thing_36 (by decide) ?_
        exact W.iret (v := (-2)) hx hb hr (fun t9 ht9 hW9 => ⟨⟨(-2), (), rfl, (by first | with_reducible rfl | simp [aThing, okT, b_3, b_5, b_7]), by show va_P D vwCl (x4W q cs (adF (okT b0 mo mi ld && decide (n < 60)) F n b0 mo mi ld) (adN (okT b0 mo mi ld && decide (n < 60)) n) c g) t9.heap; rw [ht9, show (okT b0 mo mi ld && decide (n < 60)) = false from by simp [okT, b_3, b_5, b_7]]; exact hP⟩, hS.F ht9⟩) hS.2.2 dX4_thing_38
      · have b_8 : (rg mi 0 5000) = true := bI_t c_6
        refine lv_iload hx hb dX4_thing_28 (lv_at hl 4 rfl) ?_
        refine roSi (As := [.int ld]) (rest := []) (v := (bI (rg ld 0 3))) ⟨hx, hb, hml, hown, hts⟩ (c_X4_isLand l ld) (va_cwS 1 hts gX4_thing_X4_isLand rfl rfl rfl (by decide +kernel) ⟨Nat.le_of_ble_eq_true rfl, Nat.le_of_ble_eq_true rfl⟩) rfl hl.1 rfl (Nat.le_of_ble_eq_true rfl) dX4_thing_30 ⟨Nat.zero_le _, Nat.zero_le _⟩ ?_
        refine lv_if_ne (tgt := 39) hx hb dX4_thing_33 (by decide) (fun c_9 => ?_) (fun c_9 => ?_)
        · have b_10 : (rg ld 0 3) = true := bI_t c_9
          refine lv_aload_n hx hb dX4_thing_39 rfl (lv_at hl 0 rfl) ?_
          refine va_get (D := D) (ci := 4) (v := .ref (q 1)) (C := RX4) (T := TX4) (N := 5) hx hb hts (fun _ h => List.mem_cons_of_mem _ (List.mem_append_left _ (List.mem_append_right _ h))) hown hK hP 0 rfl rfl 0 (by decide) (hts (.fieldLink RX4 12 "UnderPromise" "things" "LUnderPromise$Things;") (List.mem_of_getElem? (i := 1) rfl)) (fun _ h9 => h9) rfl dX4_thing_40 ?_
          refine lv_iload_n hx hb dX4_thing_43 rfl (lv_at hl 1 rfl) ?_
          refine lv_iload_n hx hb dX4_thing_44 rfl (lv_at hl 2 rfl) ?_
          refine lv_iload_n hx hb dX4_thing_45 rfl (lv_at hl 3 rfl) ?_
          refine lv_iload hx hb dX4_thing_46 (lv_at hl 4 rfl) ?_
          have hPw := hP.sub (ws' := tW q cs F n) [1, 2, 3, 4, 5, 6, 7] rfl
          refine muVi (As := [.int b0, .int mo, .int mi, .int ld]) (rest := []) (v := (if n < 60 then nI n else -4)) (wc := tW q cs F n) (w1 := tW q cs (adF (decide (n < 60)) F n b0 mo mi ld) (adN (decide (n < 60)) n)) ⟨hx, hb, hml, hown, hts⟩ (c_X2_add l D cs q F n c _ b0 mo mi ld hI) (cwV 4 hts gX4_thing_X2_add rfl rfl rfl (by decide +kernel) ⟨Nat.le_of_ble_eq_true rfl, Nat.le_of_ble_eq_true rfl⟩) hP hD hS hA hK hN [1, 2, 3, 4, 5, 6, 7] rfl (by decide) hPw rfl 0 rfl rfl rfl hl.1 rfl (Nat.le_of_ble_eq_true rfl) dX4_thing_48 ⟨Nat.zero_le _, Nat.zero_le _⟩ (fun H locs hP hD hS => ?_)
          exact W.iret (v := (if n < 60 then nI n else -4)) hx hb hr (fun t9 ht9 hW9 => ⟨⟨(if n < 60 then nI n else -4), (), rfl, (by first | with_reducible rfl | simp [aThing, okT, b_3, b_5, b_8, b_10]), by show va_P D vwCl (x4W q cs (adF (okT b0 mo mi ld && decide (n < 60)) F n b0 mo mi ld) (adN (okT b0 mo mi ld && decide (n < 60)) n) c g) t9.heap; rw [ht9, show (okT b0 mo mi ld && decide (n < 60)) = decide (n < 60) from by simp [okT, b_3, b_5, b_8, b_10]]; exact hP⟩, hS.F ht9⟩) hS.2.2 dX4_thing_51
        · have b_11 : (rg ld 0 3) = false := bI_f c_9
          refine lv_bipush (v := (-2)) hx hb dX4_thing_36 (by decide) ?_
          exact W.iret (v := (-2)) hx hb hr (fun t9 ht9 hW9 => ⟨⟨(-2), (), rfl, (by first | with_reducible rfl | simp [aThing, okT, b_3, b_5, b_8, b_11]), by show va_P D vwCl (x4W q cs (adF (okT b0 mo mi ld && decide (n < 60)) F n b0 mo mi ld) (adN (okT b0 mo mi ld && decide (n < 60)) n) c g) t9.heap; rw [ht9, show (okT b0 mo mi ld && decide (n < 60)) = false from by simp [okT, b_3, b_5, b_8, b_11]]; exact hP⟩, hS.F ht9⟩) hS.2.2 dX4_thing_38
    · have b_12 : (rg mo 0 119) = false := bI_f c_4
      refine lv_bipush (v := (-2)) hx hb dX4_thing_14 (by decide) ?_
      exact W.iret (v := (-2)) hx hb hr (fun t9 ht9 hW9 => ⟨⟨(-2), (), rfl, (by first | with_reducible rfl | simp [aThing, okT, b_3, b_12]), by show va_P D vwCl (x4W q cs (adF (okT b0 mo mi ld && decide (n < 60)) F n b0 mo mi ld) (adN (okT b0 mo mi ld && decide (n < 60)) n) c g) t9.heap; rw [ht9, show (okT b0 mo mi ld && decide (n < 60)) = false from by simp [okT, b_3, b_12]]; exact hP⟩, hS.F ht9⟩) hS.2.2 dX4_thing_16
set_option maxHeartbeats 4000000 in
set_option maxRecDepth 100000 in
/-- X4_promise -/
theorem c_X4_promise (l : Launch) (D : va_G) (cs : Nat → ClassId) (q : Nat → Nat) (F : Nat → Nat → Int32) (n c : Nat) (g : Int32) (sz : Nat) (l0 : Int32) (mo : Int32) (fa : Int32) (hI : Inv F n c) : Met l yX4_promise wsX4_promise ({ frames := 2, cells := 0, slots := 0, locals := 42 }) (va_Pc [.ref (q 0), .int l0, .int mo, .int fa] (mpre D cs (x4W q cs F n c g) sz)) (va_Qi (fun r (_ : Unit) => r = (if okP l0 mo fa = true then 1 else -2)) (fun _ t => va_P D vwCl (x4W q cs (prF (okP l0 mo fa) F l0 mo fa) n c g) t.heap) (va_A (x4W q cs F n c g) sz)) 0 0 (va_A (x4W q cs F n c g) sz) := by
  refine Met.ofW (cc := cX4_promise) (maxL := 4) (ret := (some .int)) (by decide) rfl ?_
  intro p e s m args below meth c_ s₁ B hml hv
  obtain ⟨rfl, hsz, hP, hK, hN, hD0⟩ := hv
  have hx := B.exec
  have hb := B.bytes
  have hr := B.returns
  have hts := atoms_spec (ws := wsX4_promise) B.pre
  have hown : s.vm.findClass RX4 = some m.cls := findClass_of_methodNamed B.named
  have hlocks := B.notSynchronized
  subst hsz
  have hD := hD0.self (sz := s.heap.size)
  generalize hAe : va_A (x4W q cs F n c g) s.heap.size = A at hD ⊢
  have hA : ∀ q : Nat, s.heap.size ≤ q → A q := fun q h => by rw [← hAe]; exact Or.inr h
  have hS : va_S A s.heap s.heap [] := va_S.rf
  have hP : va_P D vwCl [((q 0), .inr (4, [.ref (q 1), .ref (q 2), .ref (q 3), .ref (q 4), .int g])), ((q 1), .inr (2, [.ref (q 10), .ref (q 11), .ref (q 12), .ref (q 13), .ref (q 14), .ref (q 15), .int (nI n)])), ((q 10), .inl (cs 0, 60, .inl (F 0))), ((q 11), .inl (cs 0, 60, .inl (F 1))), ((q 12), .inl (cs 0, 60, .inl (F 2))), ((q 13), .inl (cs 0, 60, .inl (F 3))), ((q 14), .inl (cs 0, 4, .inl (F 4))), ((q 15), .inl (cs 0, 4, .inl (F 5))), ((q 2), .inr (0, [.ref (q 20), .ref (q 21), .ref (q 22), .ref (q 23), .ref (q 24), .ref (q 25), .ref (q 26), .int (nI c)])), ((q 20), .inl (cs 0, 100, .inl (F 6))), ((q 21), .inl (cs 0, 100, .inl (F 7))), ((q 22), .inl (cs 0, 100, .inl (F 8))), ((q 23), .inl (cs 0, 100, .inl (F 9))), ((q 24), .inl (cs 0, 100, .inl (F 10))), ((q 25), .inl (cs 0, 100, .inl (F 15))), ((q 26), .inl (cs 0, 100, .inl (F 11))), ((q 3), .inr (1, [.ref (q 30), .ref (q 31), .ref (q 32)])), ((q 30), .inl (cs 0, 10, .inl (F 12))), ((q 31), .inl (cs 0, 10, .inl (F 13))), ((q 32), .inl (cs 0, 10, .inl (F 14)))] s.heap := hP
  have hD : va_D A [((q 0), .inr (4, [.ref (q 1), .ref (q 2), .ref (q 3), .ref (q 4), .int g])), ((q 1), .inr (2, [.ref (q 10), .ref (q 11), .ref (q 12), .ref (q 13), .ref (q 14), .ref (q 15), .int (nI n)])), ((q 10), .inl (cs 0, 60, .inl (F 0))), ((q 11), .inl (cs 0, 60, .inl (F 1))), ((q 12), .inl (cs 0, 60, .inl (F 2))), ((q 13), .inl (cs 0, 60, .inl (F 3))), ((q 14), .inl (cs 0, 4, .inl (F 4))), ((q 15), .inl (cs 0, 4, .inl (F 5))), ((q 2), .inr (0, [.ref (q 20), .ref (q 21), .ref (q 22), .ref (q 23), .ref (q 24), .ref (q 25), .ref (q 26), .int (nI c)])), ((q 20), .inl (cs 0, 100, .inl (F 6))), ((q 21), .inl (cs 0, 100, .inl (F 7))), ((q 22), .inl (cs 0, 100, .inl (F 8))), ((q 23), .inl (cs 0, 100, .inl (F 9))), ((q 24), .inl (cs 0, 100, .inl (F 10))), ((q 25), .inl (cs 0, 100, .inl (F 15))), ((q 26), .inl (cs 0, 100, .inl (F 11))), ((q 3), .inr (1, [.ref (q 30), .ref (q 31), .ref (q 32)])), ((q 30), .inl (cs 0, 10, .inl (F 12))), ((q 31), .inl (cs 0, 10, .inl (F 13))), ((q 32), .inl (cs 0, 10, .inl (F 14)))] := hD
  have hl := lv_entry ([.ref (q 0), .int l0, .int mo, .int fa]) (n := 4) (Nat.le_of_ble_eq_true rfl)
  rw [lg_entry_eq]
  generalize (lg_sl ([.ref (q 0), .int l0, .int mo, .int fa]) ++ List.replicate (4 - (lg_sl ([.ref (q 0), .int l0, .int mo, .int fa])).length) Slot.unset).toArray = ls at hl ⊢
  have hl : lv_has ls 4 [(0, .ref (q 0)), (1, .int l0), (2, .int mo), (3, .int fa)] := hl
  have hn60 := hI.n60
  have hc100 := hI.c100
  refine lv_iload_n hx hb dX4_promise_0 rfl (lv_at hl 1 rfl) ?_
  refine roSi (As := [.int l0]) (rest := []) (v := (bI (rg l0 0 3))) ⟨hx, hb, hml, hown, hts⟩ (c_X4_isLand l l0) (va_cwS 1 hts gX4_promise_X4_isLand rfl rfl rfl (by decide +kernel) ⟨Nat.le_of_ble_eq_true rfl, Nat.le_of_ble_eq_true rfl⟩) rfl hl.1 rfl (Nat.le_of_ble_eq_true rfl) dX4_promise_1 ⟨Nat.zero_le _, Nat.zero_le _⟩ ?_
  refine lv_if_eq (tgt := 17) hx hb dX4_promise_4 (by decide) (fun c_1 => ?_) (fun c_1 => ?_)
  · have b_2 : (rg l0 0 3) = false := bI_f c_1
    refine lv_bipush (v := (-2)) hx hb dX4_promise_17 (by decide) ?_
    exact W.iret (v := (-2)) hx hb hr (fun t9 ht9 hW9 => ⟨⟨(-2), (), rfl, (by first | with_reducible rfl | simp [okP, b_2]), by show va_P D vwCl (x4W q cs (prF (okP l0 mo fa) F l0 mo fa) n c g) t9.heap; rw [ht9, show (okP l0 mo fa) = false from by simp [okP, b_2]]; exact hP⟩, hS.F ht9⟩) hS.2.2 dX4_promise_19
  · have b_3 : (rg l0 0 3) = true := bI_t c_1
    refine lv_iload_n hx hb dX4_promise_7 rfl (lv_at hl 2 rfl) ?_
    refine lv_iconst (v := 0) hx hb dX4_promise_8 (by decide) ?_
    refine lv_bipush (v := 120) hx hb dX4_promise_9 (by decide) ?_
    refine roSi (As := [.int mo, .int 0, .int 120]) (rest := []) (v := (bI (rg mo 0 120))) ⟨hx, hb, hml, hown, hts⟩ (c_X4_isWithin l mo 0 120) (va_cwS 3 hts gX4_promise_X4_isWithin rfl rfl rfl (by decide +kernel) ⟨Nat.le_of_ble_eq_true rfl, Nat.le_of_ble_eq_true rfl⟩) rfl hl.1 rfl (Nat.le_of_ble_eq_true rfl) dX4_promise_11 ⟨Nat.zero_le _, Nat.zero_le _⟩ ?_
    refine lv_if_ne (tgt := 20) hx hb dX4_promise_14 (by decide) (fun c_4 => ?_) (fun c_4 => ?_)
    · have b_5 : (rg mo 0 120) = true := bI_t c_4
      refine lv_iload_n hx hb dX4_promise_20 rfl (lv_at hl 3 rfl) ?_
      refine lv_iconst (v := 0) hx hb dX4_promise_21 (by decide) ?_
      refine lv_ldc (v := 600000) hx hb hown (hts (.constant RX4 59 (600000)) (List.mem_of_getElem? (i := 1) rfl)) dX4_promise_22 ?_
      refine roSi (As := [.int fa, .int 0, .int 600000]) (rest := []) (v := (bI (rg fa 0 600000))) ⟨hx, hb, hml, hown, hts⟩ (c_X4_isWithin l fa 0 600000) (va_cwS 3 hts gX4_promise_X4_isWithin rfl rfl rfl (by decide +kernel) ⟨Nat.le_of_ble_eq_true rfl, Nat.le_of_ble_eq_true rfl⟩) rfl hl.1 rfl (Nat.le_of_ble_eq_true rfl) dX4_promise_24 ⟨Nat.zero_le _, Nat.zero_le _⟩ ?_
      refine lv_if_ne (tgt := 33) hx hb dX4_promise_27 (by decide) (fun c_6 => ?_) (fun c_6 => ?_)
      · have b_7 : (rg fa 0 600000) = true := bI_t c_6
        refine lv_aload_n hx hb dX4_promise_33 rfl (lv_at hl 0 rfl) ?_
        refine va_get (D := D) (ci := 4) (v := .ref (q 1)) (C := RX4) (T := TX4) (N := 5) hx hb hts (fun _ h => List.mem_cons_of_mem _ (List.mem_append_left _ (List.mem_append_right _ h))) hown hK hP 0 rfl rfl 0 (by decide) (hts (.fieldLink RX4 12 "UnderPromise" "things" "LUnderPromise$Things;") (List.mem_of_getElem? (i := 2) rfl)) (fun _ h9 => h9) rfl dX4_promise_34 ?_
        refine va_getN (D := D) (ci := 2) (v := .ref (q 14)) (C := RX2) (T := TX2) (N := 7) hx hb hts (fun _ h => List.mem_cons_of_mem _ (List.mem_append_right _ h)) hown hK hP 1 rfl rfl 4 (by decide) (va_Nw.use rfl hN.2.2.2.2.2.1) (fun _ h9 => h9) rfl dX4_promise_37 ?_
        refine lv_iload_n hx hb dX4_promise_40 rfl (lv_at hl 1 rfl) ?_
        refine lv_iload_n hx hb dX4_promise_41 rfl (lv_at hl 2 rfl) ?_
        refine iastK hx hb hK hP hD hS 6 0 rfl rfl (ix l0) (rg_in (by decide) (by decide) b_3) rfl dX4_promise_42 (fun H locs hP hD hS => ?_)
        have hP : va_P D vwCl [((q 0), .inr (4, [.ref (q 1), .ref (q 2), .ref (q 3), .ref (q 4), .int g])), ((q 1), .inr (2, [.ref (q 10), .ref (q 11), .ref (q 12), .ref (q 13), .ref (q 14), .ref (q 15), .int (nI n)])), ((q 10), .inl (cs 0, 60, .inl (F 0))), ((q 11), .inl (cs 0, 60, .inl (F 1))), ((q 12), .inl (cs 0, 60, .inl (F 2))), ((q 13), .inl (cs 0, 60, .inl (F 3))), ((q 14), .inl (cs 0, 4, .inl (upd (F 4) (ix l0) mo))), ((q 15), .inl (cs 0, 4, .inl (F 5))), ((q 2), .inr (0, [.ref (q 20), .ref (q 21), .ref (q 22), .ref (q 23), .ref (q 24), .ref (q 25), .ref (q 26), .int (nI c)])), ((q 20), .inl (cs 0, 100, .inl (F 6))), ((q 21), .inl (cs 0, 100, .inl (F 7))), ((q 22), .inl (cs 0, 100, .inl (F 8))), ((q 23), .inl (cs 0, 100, .inl (F 9))), ((q 24), .inl (cs 0, 100, .inl (F 10))), ((q 25), .inl (cs 0, 100, .inl (F 15))), ((q 26), .inl (cs 0, 100, .inl (F 11))), ((q 3), .inr (1, [.ref (q 30), .ref (q 31), .ref (q 32)])), ((q 30), .inl (cs 0, 10, .inl (F 12))), ((q 31), .inl (cs 0, 10, .inl (F 13))), ((q 32), .inl (cs 0, 10, .inl (F 14)))] H := hP
        have hD : va_D A [((q 0), .inr (4, [.ref (q 1), .ref (q 2), .ref (q 3), .ref (q 4), .int g])), ((q 1), .inr (2, [.ref (q 10), .ref (q 11), .ref (q 12), .ref (q 13), .ref (q 14), .ref (q 15), .int (nI n)])), ((q 10), .inl (cs 0, 60, .inl (F 0))), ((q 11), .inl (cs 0, 60, .inl (F 1))), ((q 12), .inl (cs 0, 60, .inl (F 2))), ((q 13), .inl (cs 0, 60, .inl (F 3))), ((q 14), .inl (cs 0, 4, .inl (upd (F 4) (ix l0) mo))), ((q 15), .inl (cs 0, 4, .inl (F 5))), ((q 2), .inr (0, [.ref (q 20), .ref (q 21), .ref (q 22), .ref (q 23), .ref (q 24), .ref (q 25), .ref (q 26), .int (nI c)])), ((q 20), .inl (cs 0, 100, .inl (F 6))), ((q 21), .inl (cs 0, 100, .inl (F 7))), ((q 22), .inl (cs 0, 100, .inl (F 8))), ((q 23), .inl (cs 0, 100, .inl (F 9))), ((q 24), .inl (cs 0, 100, .inl (F 10))), ((q 25), .inl (cs 0, 100, .inl (F 15))), ((q 26), .inl (cs 0, 100, .inl (F 11))), ((q 3), .inr (1, [.ref (q 30), .ref (q 31), .ref (q 32)])), ((q 30), .inl (cs 0, 10, .inl (F 12))), ((q 31), .inl (cs 0, 10, .inl (F 13))), ((q 32), .inl (cs 0, 10, .inl (F 14)))] := hD
        refine lv_aload_n hx hb dX4_promise_43 rfl (lv_at hl 0 rfl) ?_
        refine va_get (D := D) (ci := 4) (v := .ref (q 1)) (C := RX4) (T := TX4) (N := 5) hx hb hts (fun _ h => List.mem_cons_of_mem _ (List.mem_append_left _ (List.mem_append_right _ h))) hown hK hP 0 rfl rfl 0 (by decide) (hts (.fieldLink RX4 12 "UnderPromise" "things" "LUnderPromise$Things;") (List.mem_of_getElem? (i := 2) rfl)) (fun _ h9 => h9) rfl dX4_promise_44 ?_
        refine va_getN (D := D) (ci := 2) (v := .ref (q 15)) (C := RX2) (T := TX2) (N := 7) hx hb hts (fun _ h => List.mem_cons_of_mem _ (List.mem_append_right _ h)) hown hK hP 1 rfl rfl 5 (by decide) (va_Nw.use rfl hN.2.2.2.2.2.2.1) (fun _ h9 => h9) rfl dX4_promise_47 ?_
        refine lv_iload_n hx hb dX4_promise_50 rfl (lv_at hl 1 rfl) ?_
        refine lv_iload_n hx hb dX4_promise_51 rfl (lv_at hl 3 rfl) ?_
        refine iastK hx hb hK hP hD hS 7 0 rfl rfl (ix l0) (rg_in (by decide) (by decide) b_3) rfl dX4_promise_52 (fun H locs hP hD hS => ?_)
        have hP : va_P D vwCl [((q 0), .inr (4, [.ref (q 1), .ref (q 2), .ref (q 3), .ref (q 4), .int g])), ((q 1), .inr (2, [.ref (q 10), .ref (q 11), .ref (q 12), .ref (q 13), .ref (q 14), .ref (q 15), .int (nI n)])), ((q 10), .inl (cs 0, 60, .inl (F 0))), ((q 11), .inl (cs 0, 60, .inl (F 1))), ((q 12), .inl (cs 0, 60, .inl (F 2))), ((q 13), .inl (cs 0, 60, .inl (F 3))), ((q 14), .inl (cs 0, 4, .inl (upd (F 4) (ix l0) mo))), ((q 15), .inl (cs 0, 4, .inl (upd (F 5) (ix l0) fa))), ((q 2), .inr (0, [.ref (q 20), .ref (q 21), .ref (q 22), .ref (q 23), .ref (q 24), .ref (q 25), .ref (q 26), .int (nI c)])), ((q 20), .inl (cs 0, 100, .inl (F 6))), ((q 21), .inl (cs 0, 100, .inl (F 7))), ((q 22), .inl (cs 0, 100, .inl (F 8))), ((q 23), .inl (cs 0, 100, .inl (F 9))), ((q 24), .inl (cs 0, 100, .inl (F 10))), ((q 25), .inl (cs 0, 100, .inl (F 15))), ((q 26), .inl (cs 0, 100, .inl (F 11))), ((q 3), .inr (1, [.ref (q 30), .ref (q 31), .ref (q 32)])), ((q 30), .inl (cs 0, 10, .inl (F 12))), ((q 31), .inl (cs 0, 10, .inl (F 13))), ((q 32), .inl (cs 0, 10, .inl (F 14)))] H := hP
        have hD : va_D A [((q 0), .inr (4, [.ref (q 1), .ref (q 2), .ref (q 3), .ref (q 4), .int g])), ((q 1), .inr (2, [.ref (q 10), .ref (q 11), .ref (q 12), .ref (q 13), .ref (q 14), .ref (q 15), .int (nI n)])), ((q 10), .inl (cs 0, 60, .inl (F 0))), ((q 11), .inl (cs 0, 60, .inl (F 1))), ((q 12), .inl (cs 0, 60, .inl (F 2))), ((q 13), .inl (cs 0, 60, .inl (F 3))), ((q 14), .inl (cs 0, 4, .inl (upd (F 4) (ix l0) mo))), ((q 15), .inl (cs 0, 4, .inl (upd (F 5) (ix l0) fa))), ((q 2), .inr (0, [.ref (q 20), .ref (q 21), .ref (q 22), .ref (q 23), .ref (q 24), .ref (q 25), .ref (q 26), .int (nI c)])), ((q 20), .inl (cs 0, 100, .inl (F 6))), ((q 21), .inl (cs 0, 100, .inl (F 7))), ((q 22), .inl (cs 0, 100, .inl (F 8))), ((q 23), .inl (cs 0, 100, .inl (F 9))), ((q 24), .inl (cs 0, 100, .inl (F 10))), ((q 25), .inl (cs 0, 100, .inl (F 15))), ((q 26), .inl (cs 0, 100, .inl (F 11))), ((q 3), .inr (1, [.ref (q 30), .ref (q 31), .ref (q 32)])), ((q 30), .inl (cs 0, 10, .inl (F 12))), ((q 31), .inl (cs 0, 10, .inl (F 13))), ((q 32), .inl (cs 0, 10, .inl (F 14)))] := hD
        refine lv_iconst (v := 1) hx hb dX4_promise_53 (by decide) ?_
        exact W.iret (v := 1) hx hb hr (fun t9 ht9 hW9 => ⟨⟨1, (), rfl, (by first | with_reducible rfl | simp [okP, b_3, b_5, b_7]), by show va_P D vwCl (x4W q cs (prF (okP l0 mo fa) F l0 mo fa) n c g) t9.heap; rw [ht9, show (okP l0 mo fa) = true from by simp [okP, b_3, b_5, b_7]]; exact hP⟩, hS.F ht9⟩) hS.2.2 dX4_promise_54
      · have b_8 : (rg fa 0 600000) = false := bI_f c_6
        refine lv_bipush (v := (-2)) hx hb dX4_promise_30 (by decide) ?_
        exact W.iret (v := (-2)) hx hb hr (fun t9 ht9 hW9 => ⟨⟨(-2), (), rfl, (by first | with_reducible rfl | simp [okP, b_3, b_5, b_8]), by show va_P D vwCl (x4W q cs (prF (okP l0 mo fa) F l0 mo fa) n c g) t9.heap; rw [ht9, show (okP l0 mo fa) = false from by simp [okP, b_3, b_5, b_8]]; exact hP⟩, hS.F ht9⟩) hS.2.2 dX4_promise_32
    · have b_9 : (rg mo 0 120) = false := bI_f c_4
      refine lv_bipush (v := (-2)) hx hb dX4_promise_17 (by decide) ?_
      exact W.iret (v := (-2)) hx hb hr (fun t9 ht9 hW9 => ⟨⟨(-2), (), rfl, (by first | with_reducible rfl | simp [okP, b_3, b_9]), by show va_P D vwCl (x4W q cs (prF (okP l0 mo fa) F l0 mo fa) n c g) t9.heap; rw [ht9, show (okP l0 mo fa) = false from by simp [okP, b_3, b_9]]; exact hP⟩, hS.F ht9⟩) hS.2.2 dX4_promise_19
set_option maxHeartbeats 4000000 in
set_option maxRecDepth 100000 in
/-- X4_again -/
theorem c_X4_again (l : Launch) (D : va_G) (cs : Nat → ClassId) (q : Nat → Nat) (F : Nat → Nat → Int32) (n c : Nat) (g : Int32) (sz : Nat) (x : Int32) (hI : Inv F n c) : Met l yX4_again wsX4_again ({ frames := 1, cells := 0, slots := 0, locals := 22 }) (va_Pc [.ref (q 0), .int x] (mpre D cs (x4W q cs F n c g) sz)) (va_Qi (fun r (_ : Unit) => r = (if rg x 0 12 = true then g else -2)) (fun _ t => va_P D vwCl (x4W q cs F n c (agG (rg x 0 12) g x)) t.heap) (va_A (x4W q cs F n c g) sz)) 0 0 (va_A (x4W q cs F n c g) sz) := by
  refine Met.ofW (cc := cX4_again) (maxL := 3) (ret := (some .int)) (by decide) rfl ?_
  intro p e s m args below meth c_ s₁ B hml hv
  obtain ⟨rfl, hsz, hP, hK, hN, hD0⟩ := hv
  have hx := B.exec
  have hb := B.bytes
  have hr := B.returns
  have hts := atoms_spec (ws := wsX4_again) B.pre
  have hown : s.vm.findClass RX4 = some m.cls := findClass_of_methodNamed B.named
  have hlocks := B.notSynchronized
  subst hsz
  have hD := hD0.self (sz := s.heap.size)
  generalize hAe : va_A (x4W q cs F n c g) s.heap.size = A at hD ⊢
  have hA : ∀ q : Nat, s.heap.size ≤ q → A q := fun q h => by rw [← hAe]; exact Or.inr h
  have hS : va_S A s.heap s.heap [] := va_S.rf
  have hP : va_P D vwCl [((q 0), .inr (4, [.ref (q 1), .ref (q 2), .ref (q 3), .ref (q 4), .int g])), ((q 1), .inr (2, [.ref (q 10), .ref (q 11), .ref (q 12), .ref (q 13), .ref (q 14), .ref (q 15), .int (nI n)])), ((q 10), .inl (cs 0, 60, .inl (F 0))), ((q 11), .inl (cs 0, 60, .inl (F 1))), ((q 12), .inl (cs 0, 60, .inl (F 2))), ((q 13), .inl (cs 0, 60, .inl (F 3))), ((q 14), .inl (cs 0, 4, .inl (F 4))), ((q 15), .inl (cs 0, 4, .inl (F 5))), ((q 2), .inr (0, [.ref (q 20), .ref (q 21), .ref (q 22), .ref (q 23), .ref (q 24), .ref (q 25), .ref (q 26), .int (nI c)])), ((q 20), .inl (cs 0, 100, .inl (F 6))), ((q 21), .inl (cs 0, 100, .inl (F 7))), ((q 22), .inl (cs 0, 100, .inl (F 8))), ((q 23), .inl (cs 0, 100, .inl (F 9))), ((q 24), .inl (cs 0, 100, .inl (F 10))), ((q 25), .inl (cs 0, 100, .inl (F 15))), ((q 26), .inl (cs 0, 100, .inl (F 11))), ((q 3), .inr (1, [.ref (q 30), .ref (q 31), .ref (q 32)])), ((q 30), .inl (cs 0, 10, .inl (F 12))), ((q 31), .inl (cs 0, 10, .inl (F 13))), ((q 32), .inl (cs 0, 10, .inl (F 14)))] s.heap := hP
  have hD : va_D A [((q 0), .inr (4, [.ref (q 1), .ref (q 2), .ref (q 3), .ref (q 4), .int g])), ((q 1), .inr (2, [.ref (q 10), .ref (q 11), .ref (q 12), .ref (q 13), .ref (q 14), .ref (q 15), .int (nI n)])), ((q 10), .inl (cs 0, 60, .inl (F 0))), ((q 11), .inl (cs 0, 60, .inl (F 1))), ((q 12), .inl (cs 0, 60, .inl (F 2))), ((q 13), .inl (cs 0, 60, .inl (F 3))), ((q 14), .inl (cs 0, 4, .inl (F 4))), ((q 15), .inl (cs 0, 4, .inl (F 5))), ((q 2), .inr (0, [.ref (q 20), .ref (q 21), .ref (q 22), .ref (q 23), .ref (q 24), .ref (q 25), .ref (q 26), .int (nI c)])), ((q 20), .inl (cs 0, 100, .inl (F 6))), ((q 21), .inl (cs 0, 100, .inl (F 7))), ((q 22), .inl (cs 0, 100, .inl (F 8))), ((q 23), .inl (cs 0, 100, .inl (F 9))), ((q 24), .inl (cs 0, 100, .inl (F 10))), ((q 25), .inl (cs 0, 100, .inl (F 15))), ((q 26), .inl (cs 0, 100, .inl (F 11))), ((q 3), .inr (1, [.ref (q 30), .ref (q 31), .ref (q 32)])), ((q 30), .inl (cs 0, 10, .inl (F 12))), ((q 31), .inl (cs 0, 10, .inl (F 13))), ((q 32), .inl (cs 0, 10, .inl (F 14)))] := hD
  have hl := lv_entry ([.ref (q 0), .int x]) (n := 3) (Nat.le_of_ble_eq_true rfl)
  rw [lg_entry_eq]
  generalize (lg_sl ([.ref (q 0), .int x]) ++ List.replicate (3 - (lg_sl ([.ref (q 0), .int x])).length) Slot.unset).toArray = ls at hl ⊢
  have hl : lv_has ls 3 [(0, .ref (q 0)), (1, .int x)] := hl
  have hn60 := hI.n60
  have hc100 := hI.c100
  refine lv_iload_n hx hb dX4_again_0 rfl (lv_at hl 1 rfl) ?_
  refine lv_iconst (v := 0) hx hb dX4_again_1 (by decide) ?_
  refine lv_bipush (v := 12) hx hb dX4_again_2 (by decide) ?_
  refine roSi (As := [.int x, .int 0, .int 12]) (rest := []) (v := (bI (rg x 0 12))) ⟨hx, hb, hml, hown, hts⟩ (c_X4_isWithin l x 0 12) (va_cwS 3 hts gX4_again_X4_isWithin rfl rfl rfl (by decide +kernel) ⟨Nat.le_of_ble_eq_true rfl, Nat.le_of_ble_eq_true rfl⟩) rfl hl.1 rfl (Nat.le_of_ble_eq_true rfl) dX4_again_4 ⟨Nat.zero_le _, Nat.zero_le _⟩ ?_
  refine lv_if_ne (tgt := 13) hx hb dX4_again_7 (by decide) (fun c_1 => ?_) (fun c_1 => ?_)
  · have b_2 : (rg x 0 12) = true := bI_t c_1
    refine lv_aload_n hx hb dX4_again_13 rfl (lv_at hl 0 rfl) ?_
    refine va_get (D := D) (ci := 4) (v := .int g) (C := RX4) (T := TX4) (N := 5) hx hb hts (fun _ h => List.mem_cons_of_mem _ (List.mem_append_right _ h)) hown hK hP 0 rfl rfl 4 (by decide) (hts (.fieldLink RX4 37 "UnderPromise" "monthsAhead" "I") (List.mem_of_getElem? (i := 1) rfl)) (fun _ h9 => h9) rfl dX4_again_14 ?_
    refine lv_istore_n (lv' := [(2, .int g), (0, .ref (q 0)), (1, .int x)]) hx hb dX4_again_17 rfl hl (by decide) rfl (fun ls hl => ?_)
    refine lv_aload_n hx hb dX4_again_18 rfl (lv_at hl 1 rfl) ?_
    refine lv_iload_n hx hb dX4_again_19 rfl (lv_at hl 2 rfl) ?_
    refine va_put (D := D) (ci := 4) (v := .int x) (ty := .int) (C := RX4) (T := TX4) (N := 5) hx hb hts (fun _ h => List.mem_cons_of_mem _ (List.mem_append_right _ h)) tyX4 tyX4_ok nmX4 hown hK hP hD hS 0 rfl rfl 4 (by decide) (hts (.fieldLink RX4 37 "UnderPromise" "monthsAhead" "I") (List.mem_of_getElem? (i := 1) rfl)) (fun _ h9 => h9) rfl (by decide +kernel) rfl rfl (Nat.le_of_ble_eq_true rfl) dX4_again_20 (fun H locs hP hD hS => ?_)
    have hP : va_P D vwCl [((q 0), .inr (4, [.ref (q 1), .ref (q 2), .ref (q 3), .ref (q 4), .int x])), ((q 1), .inr (2, [.ref (q 10), .ref (q 11), .ref (q 12), .ref (q 13), .ref (q 14), .ref (q 15), .int (nI n)])), ((q 10), .inl (cs 0, 60, .inl (F 0))), ((q 11), .inl (cs 0, 60, .inl (F 1))), ((q 12), .inl (cs 0, 60, .inl (F 2))), ((q 13), .inl (cs 0, 60, .inl (F 3))), ((q 14), .inl (cs 0, 4, .inl (F 4))), ((q 15), .inl (cs 0, 4, .inl (F 5))), ((q 2), .inr (0, [.ref (q 20), .ref (q 21), .ref (q 22), .ref (q 23), .ref (q 24), .ref (q 25), .ref (q 26), .int (nI c)])), ((q 20), .inl (cs 0, 100, .inl (F 6))), ((q 21), .inl (cs 0, 100, .inl (F 7))), ((q 22), .inl (cs 0, 100, .inl (F 8))), ((q 23), .inl (cs 0, 100, .inl (F 9))), ((q 24), .inl (cs 0, 100, .inl (F 10))), ((q 25), .inl (cs 0, 100, .inl (F 15))), ((q 26), .inl (cs 0, 100, .inl (F 11))), ((q 3), .inr (1, [.ref (q 30), .ref (q 31), .ref (q 32)])), ((q 30), .inl (cs 0, 10, .inl (F 12))), ((q 31), .inl (cs 0, 10, .inl (F 13))), ((q 32), .inl (cs 0, 10, .inl (F 14)))] H := hP
    have hD : va_D A [((q 0), .inr (4, [.ref (q 1), .ref (q 2), .ref (q 3), .ref (q 4), .int x])), ((q 1), .inr (2, [.ref (q 10), .ref (q 11), .ref (q 12), .ref (q 13), .ref (q 14), .ref (q 15), .int (nI n)])), ((q 10), .inl (cs 0, 60, .inl (F 0))), ((q 11), .inl (cs 0, 60, .inl (F 1))), ((q 12), .inl (cs 0, 60, .inl (F 2))), ((q 13), .inl (cs 0, 60, .inl (F 3))), ((q 14), .inl (cs 0, 4, .inl (F 4))), ((q 15), .inl (cs 0, 4, .inl (F 5))), ((q 2), .inr (0, [.ref (q 20), .ref (q 21), .ref (q 22), .ref (q 23), .ref (q 24), .ref (q 25), .ref (q 26), .int (nI c)])), ((q 20), .inl (cs 0, 100, .inl (F 6))), ((q 21), .inl (cs 0, 100, .inl (F 7))), ((q 22), .inl (cs 0, 100, .inl (F 8))), ((q 23), .inl (cs 0, 100, .inl (F 9))), ((q 24), .inl (cs 0, 100, .inl (F 10))), ((q 25), .inl (cs 0, 100, .inl (F 15))), ((q 26), .inl (cs 0, 100, .inl (F 11))), ((q 3), .inr (1, [.ref (q 30), .ref (q 31), .ref (q 32)])), ((q 30), .inl (cs 0, 10, .inl (F 12))), ((q 31), .inl (cs 0, 10, .inl (F 13))), ((q 32), .inl (cs 0, 10, .inl (F 14)))] := hD
    refine lv_iload_n hx hb dX4_again_23 rfl (lv_at hl 0 rfl) ?_
    exact W.iret (v := g) hx hb hr (fun t9 ht9 hW9 => ⟨⟨g, (), rfl, (by first | with_reducible rfl | simp [b_2]), by show va_P D vwCl (x4W q cs F n c (agG (rg x 0 12) g x)) t9.heap; rw [ht9, show (rg x 0 12) = true from by simp [b_2]]; exact hP⟩, hS.F ht9⟩) hS.2.2 dX4_again_24
  · have b_3 : (rg x 0 12) = false := bI_f c_1
    refine lv_bipush (v := (-2)) hx hb dX4_again_10 (by decide) ?_
    exact W.iret (v := (-2)) hx hb hr (fun t9 ht9 hW9 => ⟨⟨(-2), (), rfl, (by first | with_reducible rfl | simp [b_3]), by show va_P D vwCl (x4W q cs F n c (agG (rg x 0 12) g x)) t9.heap; rw [ht9, show (rg x 0 12) = false from by simp [b_3]]; exact hP⟩, hS.F ht9⟩) hS.2.2 dX4_again_12
set_option maxHeartbeats 4000000 in
set_option maxRecDepth 100000 in
/-- X4_under -/
theorem c_X4_under (l : Launch) (D : va_G) (cs : Nat → ClassId) (q : Nat → Nat) (F : Nat → Nat → Int32) (n c : Nat) (g : Int32) (sz : Nat) (p0 : Int32) (a0 : Int32) (hI : Inv F n c) : Met l yX4_under wsX4_under ({ frames := 3, cells := 0, slots := 0, locals := 66 }) (va_Pc [.ref (q 0), .int p0, .int a0] (mpre D cs (x4W q cs F n c g) sz)) (va_Qi (fun r (_ : Unit) => r = (aUnder F p0 a0)) (fun _ t => va_P D vwCl (x4W q cs (unF (okU F p0 a0) F p0 a0) n c g) t.heap) (va_A (x4W q cs F n c g) sz)) 0 0 (va_A (x4W q cs F n c g) sz) := by
  refine Met.ofW (cc := cX4_under) (maxL := 3) (ret := (some .int)) (by decide) rfl ?_
  intro p e s m args below meth c_ s₁ B hml hv
  obtain ⟨rfl, hsz, hP, hK, hN, hD0⟩ := hv
  have hx := B.exec
  have hb := B.bytes
  have hr := B.returns
  have hts := atoms_spec (ws := wsX4_under) B.pre
  have hown : s.vm.findClass RX4 = some m.cls := findClass_of_methodNamed B.named
  have hlocks := B.notSynchronized
  subst hsz
  have hD := hD0.self (sz := s.heap.size)
  generalize hAe : va_A (x4W q cs F n c g) s.heap.size = A at hD ⊢
  have hA : ∀ q : Nat, s.heap.size ≤ q → A q := fun q h => by rw [← hAe]; exact Or.inr h
  have hS : va_S A s.heap s.heap [] := va_S.rf
  have hP : va_P D vwCl [((q 0), .inr (4, [.ref (q 1), .ref (q 2), .ref (q 3), .ref (q 4), .int g])), ((q 1), .inr (2, [.ref (q 10), .ref (q 11), .ref (q 12), .ref (q 13), .ref (q 14), .ref (q 15), .int (nI n)])), ((q 10), .inl (cs 0, 60, .inl (F 0))), ((q 11), .inl (cs 0, 60, .inl (F 1))), ((q 12), .inl (cs 0, 60, .inl (F 2))), ((q 13), .inl (cs 0, 60, .inl (F 3))), ((q 14), .inl (cs 0, 4, .inl (F 4))), ((q 15), .inl (cs 0, 4, .inl (F 5))), ((q 2), .inr (0, [.ref (q 20), .ref (q 21), .ref (q 22), .ref (q 23), .ref (q 24), .ref (q 25), .ref (q 26), .int (nI c)])), ((q 20), .inl (cs 0, 100, .inl (F 6))), ((q 21), .inl (cs 0, 100, .inl (F 7))), ((q 22), .inl (cs 0, 100, .inl (F 8))), ((q 23), .inl (cs 0, 100, .inl (F 9))), ((q 24), .inl (cs 0, 100, .inl (F 10))), ((q 25), .inl (cs 0, 100, .inl (F 15))), ((q 26), .inl (cs 0, 100, .inl (F 11))), ((q 3), .inr (1, [.ref (q 30), .ref (q 31), .ref (q 32)])), ((q 30), .inl (cs 0, 10, .inl (F 12))), ((q 31), .inl (cs 0, 10, .inl (F 13))), ((q 32), .inl (cs 0, 10, .inl (F 14)))] s.heap := hP
  have hD : va_D A [((q 0), .inr (4, [.ref (q 1), .ref (q 2), .ref (q 3), .ref (q 4), .int g])), ((q 1), .inr (2, [.ref (q 10), .ref (q 11), .ref (q 12), .ref (q 13), .ref (q 14), .ref (q 15), .int (nI n)])), ((q 10), .inl (cs 0, 60, .inl (F 0))), ((q 11), .inl (cs 0, 60, .inl (F 1))), ((q 12), .inl (cs 0, 60, .inl (F 2))), ((q 13), .inl (cs 0, 60, .inl (F 3))), ((q 14), .inl (cs 0, 4, .inl (F 4))), ((q 15), .inl (cs 0, 4, .inl (F 5))), ((q 2), .inr (0, [.ref (q 20), .ref (q 21), .ref (q 22), .ref (q 23), .ref (q 24), .ref (q 25), .ref (q 26), .int (nI c)])), ((q 20), .inl (cs 0, 100, .inl (F 6))), ((q 21), .inl (cs 0, 100, .inl (F 7))), ((q 22), .inl (cs 0, 100, .inl (F 8))), ((q 23), .inl (cs 0, 100, .inl (F 9))), ((q 24), .inl (cs 0, 100, .inl (F 10))), ((q 25), .inl (cs 0, 100, .inl (F 15))), ((q 26), .inl (cs 0, 100, .inl (F 11))), ((q 3), .inr (1, [.ref (q 30), .ref (q 31), .ref (q 32)])), ((q 30), .inl (cs 0, 10, .inl (F 12))), ((q 31), .inl (cs 0, 10, .inl (F 13))), ((q 32), .inl (cs 0, 10, .inl (F 14)))] := hD
  have hl := lv_entry ([.ref (q 0), .int p0, .int a0]) (n := 3) (Nat.le_of_ble_eq_true rfl)
  rw [lg_entry_eq]
  generalize (lg_sl ([.ref (q 0), .int p0, .int a0]) ++ List.replicate (3 - (lg_sl ([.ref (q 0), .int p0, .int a0])).length) Slot.unset).toArray = ls at hl ⊢
  have hl : lv_has ls 3 [(0, .ref (q 0)), (1, .int p0), (2, .int a0)] := hl
  have hn60 := hI.n60
  have hc100 := hI.c100
  refine lv_iload_n hx hb dX4_under_0 rfl (lv_at hl 1 rfl) ?_
  refine roSi (As := [.int p0]) (rest := []) (v := (bI (rg p0 0 9))) ⟨hx, hb, hml, hown, hts⟩ (c_X4_isPart l p0) (va_cwS 1 hts gX4_under_X4_isPart rfl rfl rfl (by decide +kernel) ⟨Nat.le_of_ble_eq_true rfl, Nat.le_of_ble_eq_true rfl⟩) rfl hl.1 rfl (Nat.le_of_ble_eq_true rfl) dX4_under_1 ⟨Nat.zero_le _, Nat.zero_le _⟩ ?_
  refine lv_if_eq (tgt := 19) hx hb dX4_under_4 (by decide) (fun c_1 => ?_) (fun c_1 => ?_)
  · have b_2 : (rg p0 0 9) = false := bI_f c_1
    refine lv_bipush (v := (-2)) hx hb dX4_under_19 (by decide) ?_
    exact W.iret (v := (-2)) hx hb hr (fun t9 ht9 hW9 => ⟨⟨(-2), (), rfl, (by first | with_reducible rfl | simp [aUnder, okU, b_2]), by show va_P D vwCl (x4W q cs (unF (okU F p0 a0) F p0 a0) n c g) t9.heap; rw [ht9, show (okU F p0 a0) = false from by simp [okU, b_2]]; exact hP⟩, hS.F ht9⟩) hS.2.2 dX4_under_21
  · have b_3 : (rg p0 0 9) = true := bI_t c_1
    refine lv_iload_n hx hb dX4_under_7 rfl (lv_at hl 2 rfl) ?_
    refine roSi (As := [.int a0]) (rest := []) (v := (bI (rg a0 0 9))) ⟨hx, hb, hml, hown, hts⟩ (c_X4_isPart l a0) (va_cwS 1 hts gX4_under_X4_isPart rfl rfl rfl (by decide +kernel) ⟨Nat.le_of_ble_eq_true rfl, Nat.le_of_ble_eq_true rfl⟩) rfl hl.1 rfl (Nat.le_of_ble_eq_true rfl) dX4_under_8 ⟨Nat.zero_le _, Nat.zero_le _⟩ ?_
    refine lv_if_ne (tgt := 22) hx hb dX4_under_11 (by decide) (fun c_4 => ?_) (fun c_4 => ?_)
    · have b_5 : (rg a0 0 9) = true := bI_t c_4
      have b_6 : rg a0 (-1) 9 = true := by rw [rgm _ 9 (by decide), b_5]; rfl
      refine lv_aload_n hx hb dX4_under_22 rfl (lv_at hl 0 rfl) ?_
      refine va_get (D := D) (ci := 4) (v := .ref (q 3)) (C := RX4) (T := TX4) (N := 5) hx hb hts (fun _ h => List.mem_cons_of_mem _ (List.mem_append_left _ (List.mem_append_right _ h))) hown hK hP 0 rfl rfl 2 (by decide) (hts (.fieldLink RX4 26 "UnderPromise" "parts" "LUnderPromise$Parts;") (List.mem_of_getElem? (i := 1) rfl)) (fun _ h9 => h9) rfl dX4_under_23 ?_
      refine lv_iload_n hx hb dX4_under_26 rfl (lv_at hl 2 rfl) ?_
      refine lv_iload_n hx hb dX4_under_27 rfl (lv_at hl 1 rfl) ?_
      have hPw := hP.sub (ws' := pW q cs F) [16, 17, 18, 19] rfl
      refine roVi (As := [.int a0, .int p0]) (rest := []) (v := (bI (stn F p0 10 a0))) ⟨hx, hb, hml, hown, hts⟩ (c_X1_standsInRowOf l D cs q F n c a0 p0 hI) (cwV 2 hts gX4_under_X1_standsInRowOf rfl rfl rfl (by decide +kernel) ⟨Nat.le_of_ble_eq_true rfl, Nat.le_of_ble_eq_true rfl⟩) hPw hK hN 0 rfl rfl rfl hl.1 rfl (Nat.le_of_ble_eq_true rfl) dX4_under_28 ⟨Nat.zero_le _, Nat.zero_le _⟩ ?_
      refine lv_if_eq (tgt := 37) hx hb dX4_under_31 (by decide) (fun c_7 => ?_) (fun c_7 => ?_)
      · have b_8 : (stn F p0 10 a0) = false := bI_f c_7
        refine lv_aload_n hx hb dX4_under_37 rfl (lv_at hl 0 rfl) ?_
        refine va_get (D := D) (ci := 4) (v := .ref (q 3)) (C := RX4) (T := TX4) (N := 5) hx hb hts (fun _ h => List.mem_cons_of_mem _ (List.mem_append_left _ (List.mem_append_right _ h))) hown hK hP 0 rfl rfl 2 (by decide) (hts (.fieldLink RX4 26 "UnderPromise" "parts" "LUnderPromise$Parts;") (List.mem_of_getElem? (i := 1) rfl)) (fun _ h9 => h9) rfl dX4_under_38 ?_
        refine va_getN (D := D) (ci := 1) (v := .ref (q 30)) (C := RX1) (T := TX1) (N := 3) hx hb hts (fun _ h => List.mem_cons_of_mem _ (List.mem_append_right _ h)) hown hK hP 16 rfl rfl 0 (by decide) (va_Nw.use rfl hN.2.2.2.2.2.2.2.2.2.2.2.2.1) (fun _ h9 => h9) rfl dX4_under_41 ?_
        refine lv_iload_n hx hb dX4_under_44 rfl (lv_at hl 1 rfl) ?_
        refine lv_iload_n hx hb dX4_under_45 rfl (lv_at hl 2 rfl) ?_
        refine iastK hx hb hK hP hD hS 17 0 rfl rfl (ix p0) (rg_in (by decide) (by decide) b_3) rfl dX4_under_46 (fun H locs hP hD hS => ?_)
        have hP : va_P D vwCl [((q 0), .inr (4, [.ref (q 1), .ref (q 2), .ref (q 3), .ref (q 4), .int g])), ((q 1), .inr (2, [.ref (q 10), .ref (q 11), .ref (q 12), .ref (q 13), .ref (q 14), .ref (q 15), .int (nI n)])), ((q 10), .inl (cs 0, 60, .inl (F 0))), ((q 11), .inl (cs 0, 60, .inl (F 1))), ((q 12), .inl (cs 0, 60, .inl (F 2))), ((q 13), .inl (cs 0, 60, .inl (F 3))), ((q 14), .inl (cs 0, 4, .inl (F 4))), ((q 15), .inl (cs 0, 4, .inl (F 5))), ((q 2), .inr (0, [.ref (q 20), .ref (q 21), .ref (q 22), .ref (q 23), .ref (q 24), .ref (q 25), .ref (q 26), .int (nI c)])), ((q 20), .inl (cs 0, 100, .inl (F 6))), ((q 21), .inl (cs 0, 100, .inl (F 7))), ((q 22), .inl (cs 0, 100, .inl (F 8))), ((q 23), .inl (cs 0, 100, .inl (F 9))), ((q 24), .inl (cs 0, 100, .inl (F 10))), ((q 25), .inl (cs 0, 100, .inl (F 15))), ((q 26), .inl (cs 0, 100, .inl (F 11))), ((q 3), .inr (1, [.ref (q 30), .ref (q 31), .ref (q 32)])), ((q 30), .inl (cs 0, 10, .inl (upd (F 12) (ix p0) a0))), ((q 31), .inl (cs 0, 10, .inl (F 13))), ((q 32), .inl (cs 0, 10, .inl (F 14)))] H := hP
        have hD : va_D A [((q 0), .inr (4, [.ref (q 1), .ref (q 2), .ref (q 3), .ref (q 4), .int g])), ((q 1), .inr (2, [.ref (q 10), .ref (q 11), .ref (q 12), .ref (q 13), .ref (q 14), .ref (q 15), .int (nI n)])), ((q 10), .inl (cs 0, 60, .inl (F 0))), ((q 11), .inl (cs 0, 60, .inl (F 1))), ((q 12), .inl (cs 0, 60, .inl (F 2))), ((q 13), .inl (cs 0, 60, .inl (F 3))), ((q 14), .inl (cs 0, 4, .inl (F 4))), ((q 15), .inl (cs 0, 4, .inl (F 5))), ((q 2), .inr (0, [.ref (q 20), .ref (q 21), .ref (q 22), .ref (q 23), .ref (q 24), .ref (q 25), .ref (q 26), .int (nI c)])), ((q 20), .inl (cs 0, 100, .inl (F 6))), ((q 21), .inl (cs 0, 100, .inl (F 7))), ((q 22), .inl (cs 0, 100, .inl (F 8))), ((q 23), .inl (cs 0, 100, .inl (F 9))), ((q 24), .inl (cs 0, 100, .inl (F 10))), ((q 25), .inl (cs 0, 100, .inl (F 15))), ((q 26), .inl (cs 0, 100, .inl (F 11))), ((q 3), .inr (1, [.ref (q 30), .ref (q 31), .ref (q 32)])), ((q 30), .inl (cs 0, 10, .inl (upd (F 12) (ix p0) a0))), ((q 31), .inl (cs 0, 10, .inl (F 13))), ((q 32), .inl (cs 0, 10, .inl (F 14)))] := hD
        refine lv_iconst (v := 1) hx hb dX4_under_47 (by decide) ?_
        exact W.iret (v := 1) hx hb hr (fun t9 ht9 hW9 => ⟨⟨1, (), rfl, (by first | with_reducible rfl | simp [aUnder, okU, b_3, b_5, b_6, b_8]), by show va_P D vwCl (x4W q cs (unF (okU F p0 a0) F p0 a0) n c g) t9.heap; rw [ht9, show (okU F p0 a0) = true from by simp [okU, b_3, b_5, b_6, b_8]]; exact hP⟩, hS.F ht9⟩) hS.2.2 dX4_under_48
      · have b_9 : (stn F p0 10 a0) = true := bI_t c_7
        refine lv_bipush (v := (-3)) hx hb dX4_under_34 (by decide) ?_
        exact W.iret (v := (-3)) hx hb hr (fun t9 ht9 hW9 => ⟨⟨(-3), (), rfl, (by first | with_reducible rfl | simp [aUnder, okU, b_3, b_5, b_6, b_9]), by show va_P D vwCl (x4W q cs (unF (okU F p0 a0) F p0 a0) n c g) t9.heap; rw [ht9, show (okU F p0 a0) = false from by simp [okU, b_3, b_5, b_6, b_9]]; exact hP⟩, hS.F ht9⟩) hS.2.2 dX4_under_36
    · have b_10 : (rg a0 0 9) = false := bI_f c_4
      refine lv_iload_n hx hb dX4_under_14 rfl (lv_at hl 2 rfl) ?_
      refine lv_iconst (v := (-1)) hx hb dX4_under_15 (by decide) ?_
      refine lv_icmp_eq (tgt := 22) hx hb dX4_under_16 (by decide) (fun c_11 => ?_) (fun c_11 => ?_)
      · have b_12 : rg a0 (-1) 9 = true := by rw [c_11]; decide
        refine lv_aload_n hx hb dX4_under_22 rfl (lv_at hl 0 rfl) ?_
        refine va_get (D := D) (ci := 4) (v := .ref (q 3)) (C := RX4) (T := TX4) (N := 5) hx hb hts (fun _ h => List.mem_cons_of_mem _ (List.mem_append_left _ (List.mem_append_right _ h))) hown hK hP 0 rfl rfl 2 (by decide) (hts (.fieldLink RX4 26 "UnderPromise" "parts" "LUnderPromise$Parts;") (List.mem_of_getElem? (i := 1) rfl)) (fun _ h9 => h9) rfl dX4_under_23 ?_
        refine lv_iload_n hx hb dX4_under_26 rfl (lv_at hl 2 rfl) ?_
        refine lv_iload_n hx hb dX4_under_27 rfl (lv_at hl 1 rfl) ?_
        have hPw := hP.sub (ws' := pW q cs F) [16, 17, 18, 19] rfl
        refine roVi (As := [.int a0, .int p0]) (rest := []) (v := (bI (stn F p0 10 a0))) ⟨hx, hb, hml, hown, hts⟩ (c_X1_standsInRowOf l D cs q F n c a0 p0 hI) (cwV 2 hts gX4_under_X1_standsInRowOf rfl rfl rfl (by decide +kernel) ⟨Nat.le_of_ble_eq_true rfl, Nat.le_of_ble_eq_true rfl⟩) hPw hK hN 0 rfl rfl rfl hl.1 rfl (Nat.le_of_ble_eq_true rfl) dX4_under_28 ⟨Nat.zero_le _, Nat.zero_le _⟩ ?_
        refine lv_if_eq (tgt := 37) hx hb dX4_under_31 (by decide) (fun c_13 => ?_) (fun c_13 => ?_)
        · have b_14 : (stn F p0 10 a0) = false := bI_f c_13
          refine lv_aload_n hx hb dX4_under_37 rfl (lv_at hl 0 rfl) ?_
          refine va_get (D := D) (ci := 4) (v := .ref (q 3)) (C := RX4) (T := TX4) (N := 5) hx hb hts (fun _ h => List.mem_cons_of_mem _ (List.mem_append_left _ (List.mem_append_right _ h))) hown hK hP 0 rfl rfl 2 (by decide) (hts (.fieldLink RX4 26 "UnderPromise" "parts" "LUnderPromise$Parts;") (List.mem_of_getElem? (i := 1) rfl)) (fun _ h9 => h9) rfl dX4_under_38 ?_
          refine va_getN (D := D) (ci := 1) (v := .ref (q 30)) (C := RX1) (T := TX1) (N := 3) hx hb hts (fun _ h => List.mem_cons_of_mem _ (List.mem_append_right _ h)) hown hK hP 16 rfl rfl 0 (by decide) (va_Nw.use rfl hN.2.2.2.2.2.2.2.2.2.2.2.2.1) (fun _ h9 => h9) rfl dX4_under_41 ?_
          refine lv_iload_n hx hb dX4_under_44 rfl (lv_at hl 1 rfl) ?_
          refine lv_iload_n hx hb dX4_under_45 rfl (lv_at hl 2 rfl) ?_
          refine iastK hx hb hK hP hD hS 17 0 rfl rfl (ix p0) (rg_in (by decide) (by decide) b_3) rfl dX4_under_46 (fun H locs hP hD hS => ?_)
          have hP : va_P D vwCl [((q 0), .inr (4, [.ref (q 1), .ref (q 2), .ref (q 3), .ref (q 4), .int g])), ((q 1), .inr (2, [.ref (q 10), .ref (q 11), .ref (q 12), .ref (q 13), .ref (q 14), .ref (q 15), .int (nI n)])), ((q 10), .inl (cs 0, 60, .inl (F 0))), ((q 11), .inl (cs 0, 60, .inl (F 1))), ((q 12), .inl (cs 0, 60, .inl (F 2))), ((q 13), .inl (cs 0, 60, .inl (F 3))), ((q 14), .inl (cs 0, 4, .inl (F 4))), ((q 15), .inl (cs 0, 4, .inl (F 5))), ((q 2), .inr (0, [.ref (q 20), .ref (q 21), .ref (q 22), .ref (q 23), .ref (q 24), .ref (q 25), .ref (q 26), .int (nI c)])), ((q 20), .inl (cs 0, 100, .inl (F 6))), ((q 21), .inl (cs 0, 100, .inl (F 7))), ((q 22), .inl (cs 0, 100, .inl (F 8))), ((q 23), .inl (cs 0, 100, .inl (F 9))), ((q 24), .inl (cs 0, 100, .inl (F 10))), ((q 25), .inl (cs 0, 100, .inl (F 15))), ((q 26), .inl (cs 0, 100, .inl (F 11))), ((q 3), .inr (1, [.ref (q 30), .ref (q 31), .ref (q 32)])), ((q 30), .inl (cs 0, 10, .inl (upd (F 12) (ix p0) a0))), ((q 31), .inl (cs 0, 10, .inl (F 13))), ((q 32), .inl (cs 0, 10, .inl (F 14)))] H := hP
          have hD : va_D A [((q 0), .inr (4, [.ref (q 1), .ref (q 2), .ref (q 3), .ref (q 4), .int g])), ((q 1), .inr (2, [.ref (q 10), .ref (q 11), .ref (q 12), .ref (q 13), .ref (q 14), .ref (q 15), .int (nI n)])), ((q 10), .inl (cs 0, 60, .inl (F 0))), ((q 11), .inl (cs 0, 60, .inl (F 1))), ((q 12), .inl (cs 0, 60, .inl (F 2))), ((q 13), .inl (cs 0, 60, .inl (F 3))), ((q 14), .inl (cs 0, 4, .inl (F 4))), ((q 15), .inl (cs 0, 4, .inl (F 5))), ((q 2), .inr (0, [.ref (q 20), .ref (q 21), .ref (q 22), .ref (q 23), .ref (q 24), .ref (q 25), .ref (q 26), .int (nI c)])), ((q 20), .inl (cs 0, 100, .inl (F 6))), ((q 21), .inl (cs 0, 100, .inl (F 7))), ((q 22), .inl (cs 0, 100, .inl (F 8))), ((q 23), .inl (cs 0, 100, .inl (F 9))), ((q 24), .inl (cs 0, 100, .inl (F 10))), ((q 25), .inl (cs 0, 100, .inl (F 15))), ((q 26), .inl (cs 0, 100, .inl (F 11))), ((q 3), .inr (1, [.ref (q 30), .ref (q 31), .ref (q 32)])), ((q 30), .inl (cs 0, 10, .inl (upd (F 12) (ix p0) a0))), ((q 31), .inl (cs 0, 10, .inl (F 13))), ((q 32), .inl (cs 0, 10, .inl (F 14)))] := hD
          refine lv_iconst (v := 1) hx hb dX4_under_47 (by decide) ?_
          exact W.iret (v := 1) hx hb hr (fun t9 ht9 hW9 => ⟨⟨1, (), rfl, (by first | with_reducible rfl | simp [aUnder, okU, b_3, b_10, b_12, b_14]), by show va_P D vwCl (x4W q cs (unF (okU F p0 a0) F p0 a0) n c g) t9.heap; rw [ht9, show (okU F p0 a0) = true from by simp [okU, b_3, b_10, b_12, b_14]]; exact hP⟩, hS.F ht9⟩) hS.2.2 dX4_under_48
        · have b_15 : (stn F p0 10 a0) = true := bI_t c_13
          refine lv_bipush (v := (-3)) hx hb dX4_under_34 (by decide) ?_
          exact W.iret (v := (-3)) hx hb hr (fun t9 ht9 hW9 => ⟨⟨(-3), (), rfl, (by first | with_reducible rfl | simp [aUnder, okU, b_3, b_10, b_12, b_15]), by show va_P D vwCl (x4W q cs (unF (okU F p0 a0) F p0 a0) n c g) t9.heap; rw [ht9, show (okU F p0 a0) = false from by simp [okU, b_3, b_10, b_12, b_15]]; exact hP⟩, hS.F ht9⟩) hS.2.2 dX4_under_36
      · have b_16 : rg a0 (-1) 9 = false := by rw [rgm _ 9 (by decide), b_10]; simp [c_11]
        refine lv_bipush (v := (-2)) hx hb dX4_under_19 (by decide) ?_
        exact W.iret (v := (-2)) hx hb hr (fun t9 ht9 hW9 => ⟨⟨(-2), (), rfl, (by first | with_reducible rfl | simp [aUnder, okU, b_3, b_10, c_11, b_16]), by show va_P D vwCl (x4W q cs (unF (okU F p0 a0) F p0 a0) n c g) t9.heap; rw [ht9, show (okU F p0 a0) = false from by simp [okU, b_3, b_10, c_11, b_16]]; exact hP⟩, hS.F ht9⟩) hS.2.2 dX4_under_21
set_option maxHeartbeats 4000000 in
set_option maxRecDepth 100000 in
/-- X4_maker -/
theorem c_X4_maker (l : Launch) (D : va_G) (cs : Nat → ClassId) (q : Nat → Nat) (F : Nat → Nat → Int32) (n c : Nat) (g : Int32) (sz : Nat) (p0 : Int32) (w0 : Int32) (s0 : Int32) (hI : Inv F n c) : Met l yX4_maker wsX4_maker ({ frames := 2, cells := 0, slots := 0, locals := 42 }) (va_Pc [.ref (q 0), .int p0, .int w0, .int s0] (mpre D cs (x4W q cs F n c g) sz)) (va_Qi (fun r (_ : Unit) => r = (if okM p0 w0 s0 = true then 1 else -2)) (fun _ t => va_P D vwCl (x4W q cs (mkF (okM p0 w0 s0) F p0 w0 s0) n c g) t.heap) (va_A (x4W q cs F n c g) sz)) 0 0 (va_A (x4W q cs F n c g) sz) := by
  refine Met.ofW (cc := cX4_maker) (maxL := 4) (ret := (some .int)) (by decide) rfl ?_
  intro p e s m args below meth c_ s₁ B hml hv
  obtain ⟨rfl, hsz, hP, hK, hN, hD0⟩ := hv
  have hx := B.exec
  have hb := B.bytes
  have hr := B.returns
  have hts := atoms_spec (ws := wsX4_maker) B.pre
  have hown : s.vm.findClass RX4 = some m.cls := findClass_of_methodNamed B.named
  have hlocks := B.notSynchronized
  subst hsz
  have hD := hD0.self (sz := s.heap.size)
  generalize hAe : va_A (x4W q cs F n c g) s.heap.size = A at hD ⊢
  have hA : ∀ q : Nat, s.heap.size ≤ q → A q := fun q h => by rw [← hAe]; exact Or.inr h
  have hS : va_S A s.heap s.heap [] := va_S.rf
  have hP : va_P D vwCl [((q 0), .inr (4, [.ref (q 1), .ref (q 2), .ref (q 3), .ref (q 4), .int g])), ((q 1), .inr (2, [.ref (q 10), .ref (q 11), .ref (q 12), .ref (q 13), .ref (q 14), .ref (q 15), .int (nI n)])), ((q 10), .inl (cs 0, 60, .inl (F 0))), ((q 11), .inl (cs 0, 60, .inl (F 1))), ((q 12), .inl (cs 0, 60, .inl (F 2))), ((q 13), .inl (cs 0, 60, .inl (F 3))), ((q 14), .inl (cs 0, 4, .inl (F 4))), ((q 15), .inl (cs 0, 4, .inl (F 5))), ((q 2), .inr (0, [.ref (q 20), .ref (q 21), .ref (q 22), .ref (q 23), .ref (q 24), .ref (q 25), .ref (q 26), .int (nI c)])), ((q 20), .inl (cs 0, 100, .inl (F 6))), ((q 21), .inl (cs 0, 100, .inl (F 7))), ((q 22), .inl (cs 0, 100, .inl (F 8))), ((q 23), .inl (cs 0, 100, .inl (F 9))), ((q 24), .inl (cs 0, 100, .inl (F 10))), ((q 25), .inl (cs 0, 100, .inl (F 15))), ((q 26), .inl (cs 0, 100, .inl (F 11))), ((q 3), .inr (1, [.ref (q 30), .ref (q 31), .ref (q 32)])), ((q 30), .inl (cs 0, 10, .inl (F 12))), ((q 31), .inl (cs 0, 10, .inl (F 13))), ((q 32), .inl (cs 0, 10, .inl (F 14)))] s.heap := hP
  have hD : va_D A [((q 0), .inr (4, [.ref (q 1), .ref (q 2), .ref (q 3), .ref (q 4), .int g])), ((q 1), .inr (2, [.ref (q 10), .ref (q 11), .ref (q 12), .ref (q 13), .ref (q 14), .ref (q 15), .int (nI n)])), ((q 10), .inl (cs 0, 60, .inl (F 0))), ((q 11), .inl (cs 0, 60, .inl (F 1))), ((q 12), .inl (cs 0, 60, .inl (F 2))), ((q 13), .inl (cs 0, 60, .inl (F 3))), ((q 14), .inl (cs 0, 4, .inl (F 4))), ((q 15), .inl (cs 0, 4, .inl (F 5))), ((q 2), .inr (0, [.ref (q 20), .ref (q 21), .ref (q 22), .ref (q 23), .ref (q 24), .ref (q 25), .ref (q 26), .int (nI c)])), ((q 20), .inl (cs 0, 100, .inl (F 6))), ((q 21), .inl (cs 0, 100, .inl (F 7))), ((q 22), .inl (cs 0, 100, .inl (F 8))), ((q 23), .inl (cs 0, 100, .inl (F 9))), ((q 24), .inl (cs 0, 100, .inl (F 10))), ((q 25), .inl (cs 0, 100, .inl (F 15))), ((q 26), .inl (cs 0, 100, .inl (F 11))), ((q 3), .inr (1, [.ref (q 30), .ref (q 31), .ref (q 32)])), ((q 30), .inl (cs 0, 10, .inl (F 12))), ((q 31), .inl (cs 0, 10, .inl (F 13))), ((q 32), .inl (cs 0, 10, .inl (F 14)))] := hD
  have hl := lv_entry ([.ref (q 0), .int p0, .int w0, .int s0]) (n := 4) (Nat.le_of_ble_eq_true rfl)
  rw [lg_entry_eq]
  generalize (lg_sl ([.ref (q 0), .int p0, .int w0, .int s0]) ++ List.replicate (4 - (lg_sl ([.ref (q 0), .int p0, .int w0, .int s0])).length) Slot.unset).toArray = ls at hl ⊢
  have hl : lv_has ls 4 [(0, .ref (q 0)), (1, .int p0), (2, .int w0), (3, .int s0)] := hl
  have hn60 := hI.n60
  have hc100 := hI.c100
  refine lv_iload_n hx hb dX4_maker_0 rfl (lv_at hl 1 rfl) ?_
  refine roSi (As := [.int p0]) (rest := []) (v := (bI (rg p0 0 9))) ⟨hx, hb, hml, hown, hts⟩ (c_X4_isPart l p0) (va_cwS 1 hts gX4_maker_X4_isPart rfl rfl rfl (by decide +kernel) ⟨Nat.le_of_ble_eq_true rfl, Nat.le_of_ble_eq_true rfl⟩) rfl hl.1 rfl (Nat.le_of_ble_eq_true rfl) dX4_maker_1 ⟨Nat.zero_le _, Nat.zero_le _⟩ ?_
  refine lv_if_eq (tgt := 19) hx hb dX4_maker_4 (by decide) (fun c_1 => ?_) (fun c_1 => ?_)
  · have b_2 : (rg p0 0 9) = false := bI_f c_1
    refine lv_bipush (v := (-2)) hx hb dX4_maker_19 (by decide) ?_
    exact W.iret (v := (-2)) hx hb hr (fun t9 ht9 hW9 => ⟨⟨(-2), (), rfl, (by first | with_reducible rfl | simp [okM, b_2]), by show va_P D vwCl (x4W q cs (mkF (okM p0 w0 s0) F p0 w0 s0) n c g) t9.heap; rw [ht9, show (okM p0 w0 s0) = false from by simp [okM, b_2]]; exact hP⟩, hS.F ht9⟩) hS.2.2 dX4_maker_21
  · have b_3 : (rg p0 0 9) = true := bI_t c_1
    refine lv_iload_n hx hb dX4_maker_7 rfl (lv_at hl 2 rfl) ?_
    refine roSi (As := [.int w0]) (rest := []) (v := (bI (rg w0 0 5))) ⟨hx, hb, hml, hown, hts⟩ (c_X4_isMaker l w0) (va_cwS 1 hts gX4_maker_X4_isMaker rfl rfl rfl (by decide +kernel) ⟨Nat.le_of_ble_eq_true rfl, Nat.le_of_ble_eq_true rfl⟩) rfl hl.1 rfl (Nat.le_of_ble_eq_true rfl) dX4_maker_8 ⟨Nat.zero_le _, Nat.zero_le _⟩ ?_
    refine lv_if_ne (tgt := 22) hx hb dX4_maker_11 (by decide) (fun c_4 => ?_) (fun c_4 => ?_)
    · have b_5 : (rg w0 0 5) = true := bI_t c_4
      have b_6 : rg w0 (-1) 5 = true := by rw [rgm _ 5 (by decide), b_5]; rfl
      refine lv_iload_n hx hb dX4_maker_22 rfl (lv_at hl 3 rfl) ?_
      refine lv_iconst (v := 0) hx hb dX4_maker_23 (by decide) ?_
      refine lv_bipush (v := 100) hx hb dX4_maker_24 (by decide) ?_
      refine roSi (As := [.int s0, .int 0, .int 100]) (rest := []) (v := (bI (rg s0 0 100))) ⟨hx, hb, hml, hown, hts⟩ (c_X4_isWithin l s0 0 100) (va_cwS 3 hts gX4_maker_X4_isWithin rfl rfl rfl (by decide +kernel) ⟨Nat.le_of_ble_eq_true rfl, Nat.le_of_ble_eq_true rfl⟩) rfl hl.1 rfl (Nat.le_of_ble_eq_true rfl) dX4_maker_26 ⟨Nat.zero_le _, Nat.zero_le _⟩ ?_
      refine lv_if_ne (tgt := 35) hx hb dX4_maker_29 (by decide) (fun c_7 => ?_) (fun c_7 => ?_)
      · have b_8 : (rg s0 0 100) = true := bI_t c_7
        refine lv_aload_n hx hb dX4_maker_35 rfl (lv_at hl 0 rfl) ?_
        refine va_get (D := D) (ci := 4) (v := .ref (q 3)) (C := RX4) (T := TX4) (N := 5) hx hb hts (fun _ h => List.mem_cons_of_mem _ (List.mem_append_left _ (List.mem_append_right _ h))) hown hK hP 0 rfl rfl 2 (by decide) (hts (.fieldLink RX4 26 "UnderPromise" "parts" "LUnderPromise$Parts;") (List.mem_of_getElem? (i := 1) rfl)) (fun _ h9 => h9) rfl dX4_maker_36 ?_
        refine va_getN (D := D) (ci := 1) (v := .ref (q 31)) (C := RX1) (T := TX1) (N := 3) hx hb hts (fun _ h => List.mem_cons_of_mem _ (List.mem_append_right _ h)) hown hK hP 16 rfl rfl 1 (by decide) (va_Nw.use rfl hN.2.2.2.2.2.2.2.2.2.2.2.2.2.1) (fun _ h9 => h9) rfl dX4_maker_39 ?_
        refine lv_iload_n hx hb dX4_maker_42 rfl (lv_at hl 1 rfl) ?_
        refine lv_iload_n hx hb dX4_maker_43 rfl (lv_at hl 2 rfl) ?_
        refine iastK hx hb hK hP hD hS 18 0 rfl rfl (ix p0) (rg_in (by decide) (by decide) b_3) rfl dX4_maker_44 (fun H locs hP hD hS => ?_)
        have hP : va_P D vwCl [((q 0), .inr (4, [.ref (q 1), .ref (q 2), .ref (q 3), .ref (q 4), .int g])), ((q 1), .inr (2, [.ref (q 10), .ref (q 11), .ref (q 12), .ref (q 13), .ref (q 14), .ref (q 15), .int (nI n)])), ((q 10), .inl (cs 0, 60, .inl (F 0))), ((q 11), .inl (cs 0, 60, .inl (F 1))), ((q 12), .inl (cs 0, 60, .inl (F 2))), ((q 13), .inl (cs 0, 60, .inl (F 3))), ((q 14), .inl (cs 0, 4, .inl (F 4))), ((q 15), .inl (cs 0, 4, .inl (F 5))), ((q 2), .inr (0, [.ref (q 20), .ref (q 21), .ref (q 22), .ref (q 23), .ref (q 24), .ref (q 25), .ref (q 26), .int (nI c)])), ((q 20), .inl (cs 0, 100, .inl (F 6))), ((q 21), .inl (cs 0, 100, .inl (F 7))), ((q 22), .inl (cs 0, 100, .inl (F 8))), ((q 23), .inl (cs 0, 100, .inl (F 9))), ((q 24), .inl (cs 0, 100, .inl (F 10))), ((q 25), .inl (cs 0, 100, .inl (F 15))), ((q 26), .inl (cs 0, 100, .inl (F 11))), ((q 3), .inr (1, [.ref (q 30), .ref (q 31), .ref (q 32)])), ((q 30), .inl (cs 0, 10, .inl (F 12))), ((q 31), .inl (cs 0, 10, .inl (upd (F 13) (ix p0) w0))), ((q 32), .inl (cs 0, 10, .inl (F 14)))] H := hP
        have hD : va_D A [((q 0), .inr (4, [.ref (q 1), .ref (q 2), .ref (q 3), .ref (q 4), .int g])), ((q 1), .inr (2, [.ref (q 10), .ref (q 11), .ref (q 12), .ref (q 13), .ref (q 14), .ref (q 15), .int (nI n)])), ((q 10), .inl (cs 0, 60, .inl (F 0))), ((q 11), .inl (cs 0, 60, .inl (F 1))), ((q 12), .inl (cs 0, 60, .inl (F 2))), ((q 13), .inl (cs 0, 60, .inl (F 3))), ((q 14), .inl (cs 0, 4, .inl (F 4))), ((q 15), .inl (cs 0, 4, .inl (F 5))), ((q 2), .inr (0, [.ref (q 20), .ref (q 21), .ref (q 22), .ref (q 23), .ref (q 24), .ref (q 25), .ref (q 26), .int (nI c)])), ((q 20), .inl (cs 0, 100, .inl (F 6))), ((q 21), .inl (cs 0, 100, .inl (F 7))), ((q 22), .inl (cs 0, 100, .inl (F 8))), ((q 23), .inl (cs 0, 100, .inl (F 9))), ((q 24), .inl (cs 0, 100, .inl (F 10))), ((q 25), .inl (cs 0, 100, .inl (F 15))), ((q 26), .inl (cs 0, 100, .inl (F 11))), ((q 3), .inr (1, [.ref (q 30), .ref (q 31), .ref (q 32)])), ((q 30), .inl (cs 0, 10, .inl (F 12))), ((q 31), .inl (cs 0, 10, .inl (upd (F 13) (ix p0) w0))), ((q 32), .inl (cs 0, 10, .inl (F 14)))] := hD
        refine lv_aload_n hx hb dX4_maker_45 rfl (lv_at hl 0 rfl) ?_
        refine va_get (D := D) (ci := 4) (v := .ref (q 3)) (C := RX4) (T := TX4) (N := 5) hx hb hts (fun _ h => List.mem_cons_of_mem _ (List.mem_append_left _ (List.mem_append_right _ h))) hown hK hP 0 rfl rfl 2 (by decide) (hts (.fieldLink RX4 26 "UnderPromise" "parts" "LUnderPromise$Parts;") (List.mem_of_getElem? (i := 1) rfl)) (fun _ h9 => h9) rfl dX4_maker_46 ?_
        refine va_getN (D := D) (ci := 1) (v := .ref (q 32)) (C := RX1) (T := TX1) (N := 3) hx hb hts (fun _ h => List.mem_cons_of_mem _ (List.mem_append_right _ h)) hown hK hP 16 rfl rfl 2 (by decide) (va_Nw.use rfl hN.2.2.2.2.2.2.2.2.2.2.2.2.2.2) (fun _ h9 => h9) rfl dX4_maker_49 ?_
        refine lv_iload_n hx hb dX4_maker_52 rfl (lv_at hl 1 rfl) ?_
        refine lv_iload_n hx hb dX4_maker_53 rfl (lv_at hl 3 rfl) ?_
        refine iastK hx hb hK hP hD hS 19 0 rfl rfl (ix p0) (rg_in (by decide) (by decide) b_3) rfl dX4_maker_54 (fun H locs hP hD hS => ?_)
        have hP : va_P D vwCl [((q 0), .inr (4, [.ref (q 1), .ref (q 2), .ref (q 3), .ref (q 4), .int g])), ((q 1), .inr (2, [.ref (q 10), .ref (q 11), .ref (q 12), .ref (q 13), .ref (q 14), .ref (q 15), .int (nI n)])), ((q 10), .inl (cs 0, 60, .inl (F 0))), ((q 11), .inl (cs 0, 60, .inl (F 1))), ((q 12), .inl (cs 0, 60, .inl (F 2))), ((q 13), .inl (cs 0, 60, .inl (F 3))), ((q 14), .inl (cs 0, 4, .inl (F 4))), ((q 15), .inl (cs 0, 4, .inl (F 5))), ((q 2), .inr (0, [.ref (q 20), .ref (q 21), .ref (q 22), .ref (q 23), .ref (q 24), .ref (q 25), .ref (q 26), .int (nI c)])), ((q 20), .inl (cs 0, 100, .inl (F 6))), ((q 21), .inl (cs 0, 100, .inl (F 7))), ((q 22), .inl (cs 0, 100, .inl (F 8))), ((q 23), .inl (cs 0, 100, .inl (F 9))), ((q 24), .inl (cs 0, 100, .inl (F 10))), ((q 25), .inl (cs 0, 100, .inl (F 15))), ((q 26), .inl (cs 0, 100, .inl (F 11))), ((q 3), .inr (1, [.ref (q 30), .ref (q 31), .ref (q 32)])), ((q 30), .inl (cs 0, 10, .inl (F 12))), ((q 31), .inl (cs 0, 10, .inl (upd (F 13) (ix p0) w0))), ((q 32), .inl (cs 0, 10, .inl (upd (F 14) (ix p0) s0)))] H := hP
        have hD : va_D A [((q 0), .inr (4, [.ref (q 1), .ref (q 2), .ref (q 3), .ref (q 4), .int g])), ((q 1), .inr (2, [.ref (q 10), .ref (q 11), .ref (q 12), .ref (q 13), .ref (q 14), .ref (q 15), .int (nI n)])), ((q 10), .inl (cs 0, 60, .inl (F 0))), ((q 11), .inl (cs 0, 60, .inl (F 1))), ((q 12), .inl (cs 0, 60, .inl (F 2))), ((q 13), .inl (cs 0, 60, .inl (F 3))), ((q 14), .inl (cs 0, 4, .inl (F 4))), ((q 15), .inl (cs 0, 4, .inl (F 5))), ((q 2), .inr (0, [.ref (q 20), .ref (q 21), .ref (q 22), .ref (q 23), .ref (q 24), .ref (q 25), .ref (q 26), .int (nI c)])), ((q 20), .inl (cs 0, 100, .inl (F 6))), ((q 21), .inl (cs 0, 100, .inl (F 7))), ((q 22), .inl (cs 0, 100, .inl (F 8))), ((q 23), .inl (cs 0, 100, .inl (F 9))), ((q 24), .inl (cs 0, 100, .inl (F 10))), ((q 25), .inl (cs 0, 100, .inl (F 15))), ((q 26), .inl (cs 0, 100, .inl (F 11))), ((q 3), .inr (1, [.ref (q 30), .ref (q 31), .ref (q 32)])), ((q 30), .inl (cs 0, 10, .inl (F 12))), ((q 31), .inl (cs 0, 10, .inl (upd (F 13) (ix p0) w0))), ((q 32), .inl (cs 0, 10, .inl (upd (F 14) (ix p0) s0)))] := hD
        refine lv_iconst (v := 1) hx hb dX4_maker_55 (by decide) ?_
        exact W.iret (v := 1) hx hb hr (fun t9 ht9 hW9 => ⟨⟨1, (), rfl, (by first | with_reducible rfl | simp [okM, b_3, b_5, b_6, b_8]), by show va_P D vwCl (x4W q cs (mkF (okM p0 w0 s0) F p0 w0 s0) n c g) t9.heap; rw [ht9, show (okM p0 w0 s0) = true from by simp [okM, b_3, b_5, b_6, b_8]]; exact hP⟩, hS.F ht9⟩) hS.2.2 dX4_maker_56
      · have b_9 : (rg s0 0 100) = false := bI_f c_7
        refine lv_bipush (v := (-2)) hx hb dX4_maker_32 (by decide) ?_
        exact W.iret (v := (-2)) hx hb hr (fun t9 ht9 hW9 => ⟨⟨(-2), (), rfl, (by first | with_reducible rfl | simp [okM, b_3, b_5, b_6, b_9]), by show va_P D vwCl (x4W q cs (mkF (okM p0 w0 s0) F p0 w0 s0) n c g) t9.heap; rw [ht9, show (okM p0 w0 s0) = false from by simp [okM, b_3, b_5, b_6, b_9]]; exact hP⟩, hS.F ht9⟩) hS.2.2 dX4_maker_34
    · have b_10 : (rg w0 0 5) = false := bI_f c_4
      refine lv_iload_n hx hb dX4_maker_14 rfl (lv_at hl 2 rfl) ?_
      refine lv_iconst (v := (-1)) hx hb dX4_maker_15 (by decide) ?_
      refine lv_icmp_eq (tgt := 22) hx hb dX4_maker_16 (by decide) (fun c_11 => ?_) (fun c_11 => ?_)
      · have b_12 : rg w0 (-1) 5 = true := by rw [c_11]; decide
        refine lv_iload_n hx hb dX4_maker_22 rfl (lv_at hl 3 rfl) ?_
        refine lv_iconst (v := 0) hx hb dX4_maker_23 (by decide) ?_
        refine lv_bipush (v := 100) hx hb dX4_maker_24 (by decide) ?_
        refine roSi (As := [.int s0, .int 0, .int 100]) (rest := []) (v := (bI (rg s0 0 100))) ⟨hx, hb, hml, hown, hts⟩ (c_X4_isWithin l s0 0 100) (va_cwS 3 hts gX4_maker_X4_isWithin rfl rfl rfl (by decide +kernel) ⟨Nat.le_of_ble_eq_true rfl, Nat.le_of_ble_eq_true rfl⟩) rfl hl.1 rfl (Nat.le_of_ble_eq_true rfl) dX4_maker_26 ⟨Nat.zero_le _, Nat.zero_le _⟩ ?_
        refine lv_if_ne (tgt := 35) hx hb dX4_maker_29 (by decide) (fun c_13 => ?_) (fun c_13 => ?_)
        · have b_14 : (rg s0 0 100) = true := bI_t c_13
          refine lv_aload_n hx hb dX4_maker_35 rfl (lv_at hl 0 rfl) ?_
          refine va_get (D := D) (ci := 4) (v := .ref (q 3)) (C := RX4) (T := TX4) (N := 5) hx hb hts (fun _ h => List.mem_cons_of_mem _ (List.mem_append_left _ (List.mem_append_right _ h))) hown hK hP 0 rfl rfl 2 (by decide) (hts (.fieldLink RX4 26 "UnderPromise" "parts" "LUnderPromise$Parts;") (List.mem_of_getElem? (i := 1) rfl)) (fun _ h9 => h9) rfl dX4_maker_36 ?_
          refine va_getN (D := D) (ci := 1) (v := .ref (q 31)) (C := RX1) (T := TX1) (N := 3) hx hb hts (fun _ h => List.mem_cons_of_mem _ (List.mem_append_right _ h)) hown hK hP 16 rfl rfl 1 (by decide) (va_Nw.use rfl hN.2.2.2.2.2.2.2.2.2.2.2.2.2.1) (fun _ h9 => h9) rfl dX4_maker_39 ?_
          refine lv_iload_n hx hb dX4_maker_42 rfl (lv_at hl 1 rfl) ?_
          refine lv_iload_n hx hb dX4_maker_43 rfl (lv_at hl 2 rfl) ?_
          refine iastK hx hb hK hP hD hS 18 0 rfl rfl (ix p0) (rg_in (by decide) (by decide) b_3) rfl dX4_maker_44 (fun H locs hP hD hS => ?_)
          have hP : va_P D vwCl [((q 0), .inr (4, [.ref (q 1), .ref (q 2), .ref (q 3), .ref (q 4), .int g])), ((q 1), .inr (2, [.ref (q 10), .ref (q 11), .ref (q 12), .ref (q 13), .ref (q 14), .ref (q 15), .int (nI n)])), ((q 10), .inl (cs 0, 60, .inl (F 0))), ((q 11), .inl (cs 0, 60, .inl (F 1))), ((q 12), .inl (cs 0, 60, .inl (F 2))), ((q 13), .inl (cs 0, 60, .inl (F 3))), ((q 14), .inl (cs 0, 4, .inl (F 4))), ((q 15), .inl (cs 0, 4, .inl (F 5))), ((q 2), .inr (0, [.ref (q 20), .ref (q 21), .ref (q 22), .ref (q 23), .ref (q 24), .ref (q 25), .ref (q 26), .int (nI c)])), ((q 20), .inl (cs 0, 100, .inl (F 6))), ((q 21), .inl (cs 0, 100, .inl (F 7))), ((q 22), .inl (cs 0, 100, .inl (F 8))), ((q 23), .inl (cs 0, 100, .inl (F 9))), ((q 24), .inl (cs 0, 100, .inl (F 10))), ((q 25), .inl (cs 0, 100, .inl (F 15))), ((q 26), .inl (cs 0, 100, .inl (F 11))), ((q 3), .inr (1, [.ref (q 30), .ref (q 31), .ref (q 32)])), ((q 30), .inl (cs 0, 10, .inl (F 12))), ((q 31), .inl (cs 0, 10, .inl (upd (F 13) (ix p0) w0))), ((q 32), .inl (cs 0, 10, .inl (F 14)))] H := hP
          have hD : va_D A [((q 0), .inr (4, [.ref (q 1), .ref (q 2), .ref (q 3), .ref (q 4), .int g])), ((q 1), .inr (2, [.ref (q 10), .ref (q 11), .ref (q 12), .ref (q 13), .ref (q 14), .ref (q 15), .int (nI n)])), ((q 10), .inl (cs 0, 60, .inl (F 0))), ((q 11), .inl (cs 0, 60, .inl (F 1))), ((q 12), .inl (cs 0, 60, .inl (F 2))), ((q 13), .inl (cs 0, 60, .inl (F 3))), ((q 14), .inl (cs 0, 4, .inl (F 4))), ((q 15), .inl (cs 0, 4, .inl (F 5))), ((q 2), .inr (0, [.ref (q 20), .ref (q 21), .ref (q 22), .ref (q 23), .ref (q 24), .ref (q 25), .ref (q 26), .int (nI c)])), ((q 20), .inl (cs 0, 100, .inl (F 6))), ((q 21), .inl (cs 0, 100, .inl (F 7))), ((q 22), .inl (cs 0, 100, .inl (F 8))), ((q 23), .inl (cs 0, 100, .inl (F 9))), ((q 24), .inl (cs 0, 100, .inl (F 10))), ((q 25), .inl (cs 0, 100, .inl (F 15))), ((q 26), .inl (cs 0, 100, .inl (F 11))), ((q 3), .inr (1, [.ref (q 30), .ref (q 31), .ref (q 32)])), ((q 30), .inl (cs 0, 10, .inl (F 12))), ((q 31), .inl (cs 0, 10, .inl (upd (F 13) (ix p0) w0))), ((q 32), .inl (cs 0, 10, .inl (F 14)))] := hD
          refine lv_aload_n hx hb dX4_maker_45 rfl (lv_at hl 0 rfl) ?_
          refine va_get (D := D) (ci := 4) (v := .ref (q 3)) (C := RX4) (T := TX4) (N := 5) hx hb hts (fun _ h => List.mem_cons_of_mem _ (List.mem_append_left _ (List.mem_append_right _ h))) hown hK hP 0 rfl rfl 2 (by decide) (hts (.fieldLink RX4 26 "UnderPromise" "parts" "LUnderPromise$Parts;") (List.mem_of_getElem? (i := 1) rfl)) (fun _ h9 => h9) rfl dX4_maker_46 ?_
          refine va_getN (D := D) (ci := 1) (v := .ref (q 32)) (C := RX1) (T := TX1) (N := 3) hx hb hts (fun _ h => List.mem_cons_of_mem _ (List.mem_append_right _ h)) hown hK hP 16 rfl rfl 2 (by decide) (va_Nw.use rfl hN.2.2.2.2.2.2.2.2.2.2.2.2.2.2) (fun _ h9 => h9) rfl dX4_maker_49 ?_
          refine lv_iload_n hx hb dX4_maker_52 rfl (lv_at hl 1 rfl) ?_
          refine lv_iload_n hx hb dX4_maker_53 rfl (lv_at hl 3 rfl) ?_
          refine iastK hx hb hK hP hD hS 19 0 rfl rfl (ix p0) (rg_in (by decide) (by decide) b_3) rfl dX4_maker_54 (fun H locs hP hD hS => ?_)
          have hP : va_P D vwCl [((q 0), .inr (4, [.ref (q 1), .ref (q 2), .ref (q 3), .ref (q 4), .int g])), ((q 1), .inr (2, [.ref (q 10), .ref (q 11), .ref (q 12), .ref (q 13), .ref (q 14), .ref (q 15), .int (nI n)])), ((q 10), .inl (cs 0, 60, .inl (F 0))), ((q 11), .inl (cs 0, 60, .inl (F 1))), ((q 12), .inl (cs 0, 60, .inl (F 2))), ((q 13), .inl (cs 0, 60, .inl (F 3))), ((q 14), .inl (cs 0, 4, .inl (F 4))), ((q 15), .inl (cs 0, 4, .inl (F 5))), ((q 2), .inr (0, [.ref (q 20), .ref (q 21), .ref (q 22), .ref (q 23), .ref (q 24), .ref (q 25), .ref (q 26), .int (nI c)])), ((q 20), .inl (cs 0, 100, .inl (F 6))), ((q 21), .inl (cs 0, 100, .inl (F 7))), ((q 22), .inl (cs 0, 100, .inl (F 8))), ((q 23), .inl (cs 0, 100, .inl (F 9))), ((q 24), .inl (cs 0, 100, .inl (F 10))), ((q 25), .inl (cs 0, 100, .inl (F 15))), ((q 26), .inl (cs 0, 100, .inl (F 11))), ((q 3), .inr (1, [.ref (q 30), .ref (q 31), .ref (q 32)])), ((q 30), .inl (cs 0, 10, .inl (F 12))), ((q 31), .inl (cs 0, 10, .inl (upd (F 13) (ix p0) w0))), ((q 32), .inl (cs 0, 10, .inl (upd (F 14) (ix p0) s0)))] H := hP
          have hD : va_D A [((q 0), .inr (4, [.ref (q 1), .ref (q 2), .ref (q 3), .ref (q 4), .int g])), ((q 1), .inr (2, [.ref (q 10), .ref (q 11), .ref (q 12), .ref (q 13), .ref (q 14), .ref (q 15), .int (nI n)])), ((q 10), .inl (cs 0, 60, .inl (F 0))), ((q 11), .inl (cs 0, 60, .inl (F 1))), ((q 12), .inl (cs 0, 60, .inl (F 2))), ((q 13), .inl (cs 0, 60, .inl (F 3))), ((q 14), .inl (cs 0, 4, .inl (F 4))), ((q 15), .inl (cs 0, 4, .inl (F 5))), ((q 2), .inr (0, [.ref (q 20), .ref (q 21), .ref (q 22), .ref (q 23), .ref (q 24), .ref (q 25), .ref (q 26), .int (nI c)])), ((q 20), .inl (cs 0, 100, .inl (F 6))), ((q 21), .inl (cs 0, 100, .inl (F 7))), ((q 22), .inl (cs 0, 100, .inl (F 8))), ((q 23), .inl (cs 0, 100, .inl (F 9))), ((q 24), .inl (cs 0, 100, .inl (F 10))), ((q 25), .inl (cs 0, 100, .inl (F 15))), ((q 26), .inl (cs 0, 100, .inl (F 11))), ((q 3), .inr (1, [.ref (q 30), .ref (q 31), .ref (q 32)])), ((q 30), .inl (cs 0, 10, .inl (F 12))), ((q 31), .inl (cs 0, 10, .inl (upd (F 13) (ix p0) w0))), ((q 32), .inl (cs 0, 10, .inl (upd (F 14) (ix p0) s0)))] := hD
          refine lv_iconst (v := 1) hx hb dX4_maker_55 (by decide) ?_
          exact W.iret (v := 1) hx hb hr (fun t9 ht9 hW9 => ⟨⟨1, (), rfl, (by first | with_reducible rfl | simp [okM, b_3, b_10, b_12, b_14]), by show va_P D vwCl (x4W q cs (mkF (okM p0 w0 s0) F p0 w0 s0) n c g) t9.heap; rw [ht9, show (okM p0 w0 s0) = true from by simp [okM, b_3, b_10, b_12, b_14]]; exact hP⟩, hS.F ht9⟩) hS.2.2 dX4_maker_56
        · have b_15 : (rg s0 0 100) = false := bI_f c_13
          refine lv_bipush (v := (-2)) hx hb dX4_maker_32 (by decide) ?_
          exact W.iret (v := (-2)) hx hb hr (fun t9 ht9 hW9 => ⟨⟨(-2), (), rfl, (by first | with_reducible rfl | simp [okM, b_3, b_10, b_12, b_15]), by show va_P D vwCl (x4W q cs (mkF (okM p0 w0 s0) F p0 w0 s0) n c g) t9.heap; rw [ht9, show (okM p0 w0 s0) = false from by simp [okM, b_3, b_10, b_12, b_15]]; exact hP⟩, hS.F ht9⟩) hS.2.2 dX4_maker_34
      · have b_16 : rg w0 (-1) 5 = false := by rw [rgm _ 5 (by decide), b_10]; simp [c_11]
        refine lv_bipush (v := (-2)) hx hb dX4_maker_19 (by decide) ?_
        exact W.iret (v := (-2)) hx hb hr (fun t9 ht9 hW9 => ⟨⟨(-2), (), rfl, (by first | with_reducible rfl | simp [okM, b_3, b_10, c_11, b_16]), by show va_P D vwCl (x4W q cs (mkF (okM p0 w0 s0) F p0 w0 s0) n c g) t9.heap; rw [ht9, show (okM p0 w0 s0) = false from by simp [okM, b_3, b_10, c_11, b_16]]; exact hP⟩, hS.F ht9⟩) hS.2.2 dX4_maker_21
set_option maxHeartbeats 4000000 in
set_option maxRecDepth 100000 in
/-- X4_claim -/
theorem c_X4_claim (l : Launch) (D : va_G) (cs : Nat → ClassId) (q : Nat → Nat) (F : Nat → Nat → Int32) (n c : Nat) (g : Int32) (sz : Nat) (x : Int32) (p0 : Int32) (mo : Int32) (to0 : Int32) (co : Int32) (hI : Inv F n c) : Met l yX4_claim wsX4_claim ({ frames := 2, cells := 0, slots := 0, locals := 49 }) (va_Pc [.ref (q 0), .int x, .int p0, .int mo, .int to0, .int co] (mpre D cs (x4W q cs F n c g) sz)) (va_Qi (fun r (_ : Unit) => r = (aClaim F n c g x p0 mo to0 co)) (fun _ t => va_P D vwCl (x4W q cs (clF (okC n x p0 mo to0 co && decide (c < 100)) F c x p0 mo to0 co (mo - F 1 (ix x)) (sJudge F c g (ix x) p0 mo)) n (adN (okC n x p0 mo to0 co && decide (c < 100)) c) g) t.heap) (va_A (x4W q cs F n c g) sz)) 0 0 (va_A (x4W q cs F n c g) sz) := by
  refine Met.ofW (cc := cX4_claim) (maxL := 7) (ret := (some .int)) (by decide) rfl ?_
  intro p e s m args below meth c_ s₁ B hml hv
  obtain ⟨rfl, hsz, hP, hK, hN, hD0⟩ := hv
  have hx := B.exec
  have hb := B.bytes
  have hr := B.returns
  have hts := atoms_spec (ws := wsX4_claim) B.pre
  have hown : s.vm.findClass RX4 = some m.cls := findClass_of_methodNamed B.named
  have hlocks := B.notSynchronized
  subst hsz
  have hD := hD0.self (sz := s.heap.size)
  generalize hAe : va_A (x4W q cs F n c g) s.heap.size = A at hD ⊢
  have hA : ∀ q : Nat, s.heap.size ≤ q → A q := fun q h => by rw [← hAe]; exact Or.inr h
  have hS : va_S A s.heap s.heap [] := va_S.rf
  have hP : va_P D vwCl [((q 0), .inr (4, [.ref (q 1), .ref (q 2), .ref (q 3), .ref (q 4), .int g])), ((q 1), .inr (2, [.ref (q 10), .ref (q 11), .ref (q 12), .ref (q 13), .ref (q 14), .ref (q 15), .int (nI n)])), ((q 10), .inl (cs 0, 60, .inl (F 0))), ((q 11), .inl (cs 0, 60, .inl (F 1))), ((q 12), .inl (cs 0, 60, .inl (F 2))), ((q 13), .inl (cs 0, 60, .inl (F 3))), ((q 14), .inl (cs 0, 4, .inl (F 4))), ((q 15), .inl (cs 0, 4, .inl (F 5))), ((q 2), .inr (0, [.ref (q 20), .ref (q 21), .ref (q 22), .ref (q 23), .ref (q 24), .ref (q 25), .ref (q 26), .int (nI c)])), ((q 20), .inl (cs 0, 100, .inl (F 6))), ((q 21), .inl (cs 0, 100, .inl (F 7))), ((q 22), .inl (cs 0, 100, .inl (F 8))), ((q 23), .inl (cs 0, 100, .inl (F 9))), ((q 24), .inl (cs 0, 100, .inl (F 10))), ((q 25), .inl (cs 0, 100, .inl (F 15))), ((q 26), .inl (cs 0, 100, .inl (F 11))), ((q 3), .inr (1, [.ref (q 30), .ref (q 31), .ref (q 32)])), ((q 30), .inl (cs 0, 10, .inl (F 12))), ((q 31), .inl (cs 0, 10, .inl (F 13))), ((q 32), .inl (cs 0, 10, .inl (F 14)))] s.heap := hP
  have hD : va_D A [((q 0), .inr (4, [.ref (q 1), .ref (q 2), .ref (q 3), .ref (q 4), .int g])), ((q 1), .inr (2, [.ref (q 10), .ref (q 11), .ref (q 12), .ref (q 13), .ref (q 14), .ref (q 15), .int (nI n)])), ((q 10), .inl (cs 0, 60, .inl (F 0))), ((q 11), .inl (cs 0, 60, .inl (F 1))), ((q 12), .inl (cs 0, 60, .inl (F 2))), ((q 13), .inl (cs 0, 60, .inl (F 3))), ((q 14), .inl (cs 0, 4, .inl (F 4))), ((q 15), .inl (cs 0, 4, .inl (F 5))), ((q 2), .inr (0, [.ref (q 20), .ref (q 21), .ref (q 22), .ref (q 23), .ref (q 24), .ref (q 25), .ref (q 26), .int (nI c)])), ((q 20), .inl (cs 0, 100, .inl (F 6))), ((q 21), .inl (cs 0, 100, .inl (F 7))), ((q 22), .inl (cs 0, 100, .inl (F 8))), ((q 23), .inl (cs 0, 100, .inl (F 9))), ((q 24), .inl (cs 0, 100, .inl (F 10))), ((q 25), .inl (cs 0, 100, .inl (F 15))), ((q 26), .inl (cs 0, 100, .inl (F 11))), ((q 3), .inr (1, [.ref (q 30), .ref (q 31), .ref (q 32)])), ((q 30), .inl (cs 0, 10, .inl (F 12))), ((q 31), .inl (cs 0, 10, .inl (F 13))), ((q 32), .inl (cs 0, 10, .inl (F 14)))] := hD
  have hl := lv_entry ([.ref (q 0), .int x, .int p0, .int mo, .int to0, .int co]) (n := 7) (Nat.le_of_ble_eq_true rfl)
  rw [lg_entry_eq]
  generalize (lg_sl ([.ref (q 0), .int x, .int p0, .int mo, .int to0, .int co]) ++ List.replicate (7 - (lg_sl ([.ref (q 0), .int x, .int p0, .int mo, .int to0, .int co])).length) Slot.unset).toArray = ls at hl ⊢
  have hl : lv_has ls 7 [(0, .ref (q 0)), (1, .int x), (2, .int p0), (3, .int mo), (4, .int to0), (5, .int co)] := hl
  have hn60 := hI.n60
  have hc100 := hI.c100
  refine lv_aload_n hx hb dX4_claim_0 rfl (lv_at hl 0 rfl) ?_
  refine va_get (D := D) (ci := 4) (v := .ref (q 1)) (C := RX4) (T := TX4) (N := 5) hx hb hts (fun _ h => List.mem_cons_of_mem _ (List.mem_append_left _ (List.mem_append_left _ (List.mem_append_right _ h)))) hown hK hP 0 rfl rfl 0 (by decide) (hts (.fieldLink RX4 12 "UnderPromise" "things" "LUnderPromise$Things;") (List.mem_of_getElem? (i := 1) rfl)) (fun _ h9 => h9) rfl dX4_claim_1 ?_
  refine lv_iload_n hx hb dX4_claim_4 rfl (lv_at hl 1 rfl) ?_
  have hPw := hP.sub (ws' := tW q cs F n) [1, 2, 3, 4, 5, 6, 7] rfl
  refine roVi (As := [.int x]) (rest := []) (v := (bI (hasT n x))) ⟨hx, hb, hml, hown, hts⟩ (c_X2_has l D cs q F n c x hI) (cwV 1 hts gX4_claim_X2_has rfl rfl rfl (by decide +kernel) ⟨Nat.le_of_ble_eq_true rfl, Nat.le_of_ble_eq_true rfl⟩) hPw hK hN 0 rfl rfl rfl hl.1 rfl (Nat.le_of_ble_eq_true rfl) dX4_claim_5 ⟨Nat.zero_le _, Nat.zero_le _⟩ ?_
  refine lv_if_eq (tgt := 18) hx hb dX4_claim_8 (by decide) (fun c_1 => ?_) (fun c_1 => ?_)
  · have b_2 : (hasT n x) = false := bI_f c_1
    refine lv_bipush (v := (-2)) hx hb dX4_claim_18 (by decide) ?_
    exact W.iret (v := (-2)) hx hb hr (fun t9 ht9 hW9 => ⟨⟨(-2), (), rfl, (by first | with_reducible rfl | simp [aClaim, okC, b_2]), by show va_P D vwCl (x4W q cs (clF (okC n x p0 mo to0 co && decide (c < 100)) F c x p0 mo to0 co (mo - F 1 (ix x)) (sJudge F c g (ix x) p0 mo)) n (adN (okC n x p0 mo to0 co && decide (c < 100)) c) g) t9.heap; rw [ht9, show (okC n x p0 mo to0 co && decide (c < 100)) = false from by simp [okC, b_2]]; exact hP⟩, hS.F ht9⟩) hS.2.2 dX4_claim_20
  · have b_3 : (hasT n x) = true := bI_t c_1
    obtain ⟨t, ht, rfl⟩ := hasT_nat hn60 b_3
    have x_4 : ix (nI t) = t := nI_clamp (by omega)
    refine lv_iload_n hx hb dX4_claim_11 rfl (lv_at hl 2 rfl) ?_
    refine roSi (As := [.int p0]) (rest := []) (v := (bI (rg p0 0 9))) ⟨hx, hb, hml, hown, hts⟩ (c_X4_isPart l p0) (va_cwS 1 hts gX4_claim_X4_isPart rfl rfl rfl (by decide +kernel) ⟨Nat.le_of_ble_eq_true rfl, Nat.le_of_ble_eq_true rfl⟩) rfl hl.1 rfl (Nat.le_of_ble_eq_true rfl) dX4_claim_12 ⟨Nat.zero_le _, Nat.zero_le _⟩ ?_
    refine lv_if_ne (tgt := 21) hx hb dX4_claim_15 (by decide) (fun c_5 => ?_) (fun c_5 => ?_)
    · have b_6 : (rg p0 0 9) = true := bI_t c_5
      refine lv_iload_n hx hb dX4_claim_21 rfl (lv_at hl 3 rfl) ?_
      refine roSi (As := [.int mo]) (rest := []) (v := (bI (rg mo 0 300))) ⟨hx, hb, hml, hown, hts⟩ (c_X4_isMonth l mo) (va_cwS 1 hts gX4_claim_X4_isMonth rfl rfl rfl (by decide +kernel) ⟨Nat.le_of_ble_eq_true rfl, Nat.le_of_ble_eq_true rfl⟩) rfl hl.1 rfl (Nat.le_of_ble_eq_true rfl) dX4_claim_22 ⟨Nat.zero_le _, Nat.zero_le _⟩ ?_
      refine lv_if_eq (tgt := 42) hx hb dX4_claim_25 (by decide) (fun c_7 => ?_) (fun c_7 => ?_)
      · have b_8 : (rg mo 0 300) = false := bI_f c_7
        refine lv_bipush (v := (-2)) hx hb dX4_claim_42 (by decide) ?_
        exact W.iret (v := (-2)) hx hb hr (fun t9 ht9 hW9 => ⟨⟨(-2), (), rfl, (by first | with_reducible rfl | simp [aClaim, okC, x_4, b_3, b_6, b_8]), by show va_P D vwCl (x4W q cs (clF (okC n (nI t) p0 mo to0 co && decide (c < 100)) F c (nI t) p0 mo to0 co (mo - F 1 (ix (nI t))) (sJudge F c g (ix (nI t)) p0 mo)) n (adN (okC n (nI t) p0 mo to0 co && decide (c < 100)) c) g) t9.heap; rw [ht9, show (okC n (nI t) p0 mo to0 co && decide (c < 100)) = false from by simp [okC, x_4, b_3, b_6, b_8]]; exact hP⟩, hS.F ht9⟩) hS.2.2 dX4_claim_44
      · have b_9 : (rg mo 0 300) = true := bI_t c_7
        refine lv_iload hx hb dX4_claim_28 (lv_at hl 4 rfl) ?_
        refine roSi (As := [.int to0]) (rest := []) (v := (bI (rg to0 0 300))) ⟨hx, hb, hml, hown, hts⟩ (c_X4_isMonth l to0) (va_cwS 1 hts gX4_claim_X4_isMonth rfl rfl rfl (by decide +kernel) ⟨Nat.le_of_ble_eq_true rfl, Nat.le_of_ble_eq_true rfl⟩) rfl hl.1 rfl (Nat.le_of_ble_eq_true rfl) dX4_claim_30 ⟨Nat.zero_le _, Nat.zero_le _⟩ ?_
        refine lv_if_eq (tgt := 42) hx hb dX4_claim_33 (by decide) (fun c_10 => ?_) (fun c_10 => ?_)
        · have b_11 : (rg to0 0 300) = false := bI_f c_10
          refine lv_bipush (v := (-2)) hx hb dX4_claim_42 (by decide) ?_
          exact W.iret (v := (-2)) hx hb hr (fun t9 ht9 hW9 => ⟨⟨(-2), (), rfl, (by first | with_reducible rfl | simp [aClaim, okC, x_4, b_3, b_6, b_9, b_11]), by show va_P D vwCl (x4W q cs (clF (okC n (nI t) p0 mo to0 co && decide (c < 100)) F c (nI t) p0 mo to0 co (mo - F 1 (ix (nI t))) (sJudge F c g (ix (nI t)) p0 mo)) n (adN (okC n (nI t) p0 mo to0 co && decide (c < 100)) c) g) t9.heap; rw [ht9, show (okC n (nI t) p0 mo to0 co && decide (c < 100)) = false from by simp [okC, x_4, b_3, b_6, b_9, b_11]]; exact hP⟩, hS.F ht9⟩) hS.2.2 dX4_claim_44
        · have b_12 : (rg to0 0 300) = true := bI_t c_10
          refine lv_iload hx hb dX4_claim_36 (lv_at hl 4 rfl) ?_
          refine lv_iload_n hx hb dX4_claim_38 rfl (lv_at hl 3 rfl) ?_
          refine lv_icmp_ge (tgt := 45) hx hb dX4_claim_39 (by decide) (fun c_13 => ?_) (fun c_13 => ?_)
          · have c_14 := i_le c_13
            refine lv_iload hx hb dX4_claim_45 (lv_at hl 5 rfl) ?_
            refine lv_iconst (v := 0) hx hb dX4_claim_47 (by decide) ?_
            refine lv_sipush (v := 10000) hx hb dX4_claim_48 (by decide) ?_
            refine roSi (As := [.int co, .int 0, .int 10000]) (rest := []) (v := (bI (rg co 0 10000))) ⟨hx, hb, hml, hown, hts⟩ (c_X4_isWithin l co 0 10000) (va_cwS 3 hts gX4_claim_X4_isWithin rfl rfl rfl (by decide +kernel) ⟨Nat.le_of_ble_eq_true rfl, Nat.le_of_ble_eq_true rfl⟩) rfl hl.1 rfl (Nat.le_of_ble_eq_true rfl) dX4_claim_51 ⟨Nat.zero_le _, Nat.zero_le _⟩ ?_
            refine lv_if_ne (tgt := 60) hx hb dX4_claim_54 (by decide) (fun c_15 => ?_) (fun c_15 => ?_)
            · have b_16 : (rg co 0 10000) = true := bI_t c_15
              refine lv_iload_n hx hb dX4_claim_60 rfl (lv_at hl 3 rfl) ?_
              refine lv_aload_n hx hb dX4_claim_61 rfl (lv_at hl 0 rfl) ?_
              refine va_get (D := D) (ci := 4) (v := .ref (q 1)) (C := RX4) (T := TX4) (N := 5) hx hb hts (fun _ h => List.mem_cons_of_mem _ (List.mem_append_left _ (List.mem_append_left _ (List.mem_append_right _ h)))) hown hK hP 0 rfl rfl 0 (by decide) (hts (.fieldLink RX4 12 "UnderPromise" "things" "LUnderPromise$Things;") (List.mem_of_getElem? (i := 1) rfl)) (fun _ h9 => h9) rfl dX4_claim_62 ?_
              refine va_getN (D := D) (ci := 2) (v := .ref (q 11)) (C := RX2) (T := TX2) (N := 7) hx hb hts (fun _ h => List.mem_cons_of_mem _ (List.mem_append_left _ (List.mem_append_right _ h))) hown hK hP 1 rfl rfl 1 (by decide) (va_Nw.use rfl hN.2.2.2.2.1) (fun _ h9 => h9) rfl dX4_claim_65 ?_
              refine lv_iload_n hx hb dX4_claim_68 rfl (lv_at hl 1 rfl) ?_
              refine iaK (v := (F 1 t)) hx hb hK hP 3 0 rfl rfl t (vp_in_nI (by omega) (by decide)) (nI_clamp (by omega)) rfl dX4_claim_69 ?_
              refine lv_isub hx hb dX4_claim_70 ?_
              refine lv_istore (lv' := [(6, .int (mo - (F 1 t))), (0, .ref (q 0)), (1, .int (nI t)), (2, .int p0), (3, .int mo), (4, .int to0), (5, .int co)]) hx hb dX4_claim_71 hl (by decide) rfl (fun ls hl => ?_)
              refine lv_aload_n hx hb dX4_claim_73 rfl (lv_at hl 1 rfl) ?_
              refine va_get (D := D) (ci := 4) (v := .ref (q 2)) (C := RX4) (T := TX4) (N := 5) hx hb hts (fun _ h => List.mem_cons_of_mem _ (List.mem_append_left _ (List.mem_append_left _ (List.mem_append_right _ h)))) hown hK hP 0 rfl rfl 1 (by decide) (hts (.fieldLink RX4 19 "UnderPromise" "claims" "LUnderPromise$Claims;") (List.mem_of_getElem? (i := 2) rfl)) (fun _ h9 => h9) rfl dX4_claim_74 ?_
              refine lv_iload_n hx hb dX4_claim_77 rfl (lv_at hl 2 rfl) ?_
              refine lv_iload_n hx hb dX4_claim_78 rfl (lv_at hl 3 rfl) ?_
              refine lv_iload_n hx hb dX4_claim_79 rfl (lv_at hl 4 rfl) ?_
              refine lv_iload hx hb dX4_claim_80 (lv_at hl 5 rfl) ?_
              refine lv_iload hx hb dX4_claim_82 (lv_at hl 6 rfl) ?_
              refine lv_iload hx hb dX4_claim_84 (lv_at hl 0 rfl) ?_
              refine lv_aload_n hx hb dX4_claim_86 rfl (lv_at hl 1 rfl) ?_
              refine lv_iload_n hx hb dX4_claim_87 rfl (lv_at hl 2 rfl) ?_
              refine lv_iload_n hx hb dX4_claim_88 rfl (lv_at hl 3 rfl) ?_
              refine lv_iload_n hx hb dX4_claim_89 rfl (lv_at hl 4 rfl) ?_
              have hPw := hP.sub (ws' := oW q g ++ (tW q cs F n ++ cW q cs F c)) [0, 1, 2, 3, 4, 5, 6, 7, 8, 9, 10, 11, 12, 13, 14, 15] rfl
              refine roVi (As := [.int (nI t), .int p0, .int mo]) (rest := [.int (mo - (F 1 t)), .int co, .int to0, .int mo, .int p0, .int (nI t), .ref (q 2)]) (v := (sJudge F c g t p0 mo)) ⟨hx, hb, hml, hown, hts⟩ (c_X4_judge l D cs q F n c g t p0 mo hI (by omega)) (cwV 3 hts gX4_claim_X4_judge rfl rfl rfl (by decide +kernel) ⟨Nat.le_of_ble_eq_true rfl, Nat.le_of_ble_eq_true rfl⟩) hPw hK hN 0 rfl rfl rfl hl.1 rfl (Nat.le_of_ble_eq_true rfl) dX4_claim_90 ⟨Nat.zero_le _, Nat.zero_le _⟩ ?_
              have hPw := hP.sub (ws' := cW q cs F c) [8, 9, 10, 11, 12, 13, 14, 15] rfl
              refine muVi (As := [.int (nI t), .int p0, .int mo, .int to0, .int co, .int (mo - (F 1 t)), .int (sJudge F c g t p0 mo)]) (rest := []) (v := (if c < 100 then (sJudge F c g t p0 mo) else -4)) (wc := cW q cs F c) (w1 := cW q cs (clF (decide (c < 100)) F c (nI t) p0 mo to0 co (mo - (F 1 t)) (sJudge F c g t p0 mo)) (adN (decide (c < 100)) c)) ⟨hx, hb, hml, hown, hts⟩ (c_X0_add l D cs q F n c _ (nI t) p0 mo to0 co (mo - (F 1 t)) (sJudge F c g t p0 mo) hI) (cwV 7 hts gX4_claim_X0_add rfl rfl rfl (by decide +kernel) ⟨Nat.le_of_ble_eq_true rfl, Nat.le_of_ble_eq_true rfl⟩) hP hD hS hA hK hN [8, 9, 10, 11, 12, 13, 14, 15] rfl (by decide) hPw rfl 0 rfl rfl rfl hl.1 rfl (Nat.le_of_ble_eq_true rfl) dX4_claim_93 ⟨Nat.zero_le _, Nat.zero_le _⟩ (fun H locs hP hD hS => ?_)
              exact W.iret (v := (if c < 100 then (sJudge F c g t p0 mo) else -4)) hx hb hr (fun t9 ht9 hW9 => ⟨⟨(if c < 100 then (sJudge F c g t p0 mo) else -4), (), rfl, (by first | with_reducible rfl | simp [aClaim, okC, x_4, b_3, b_6, b_9, b_12, c_13, c_14, b_16]), by show va_P D vwCl (x4W q cs (clF (okC n (nI t) p0 mo to0 co && decide (c < 100)) F c (nI t) p0 mo to0 co (mo - F 1 (ix (nI t))) (sJudge F c g (ix (nI t)) p0 mo)) n (adN (okC n (nI t) p0 mo to0 co && decide (c < 100)) c) g) t9.heap; rw [ht9, show (okC n (nI t) p0 mo to0 co && decide (c < 100)) = decide (c < 100) from by simp [okC, x_4, b_3, b_6, b_9, b_12, c_13, c_14, b_16], x_4]; exact hP⟩, hS.F ht9⟩) hS.2.2 dX4_claim_96
            · have b_17 : (rg co 0 10000) = false := bI_f c_15
              refine lv_bipush (v := (-2)) hx hb dX4_claim_57 (by decide) ?_
              exact W.iret (v := (-2)) hx hb hr (fun t9 ht9 hW9 => ⟨⟨(-2), (), rfl, (by first | with_reducible rfl | simp [aClaim, okC, x_4, b_3, b_6, b_9, b_12, c_13, c_14, b_17]), by show va_P D vwCl (x4W q cs (clF (okC n (nI t) p0 mo to0 co && decide (c < 100)) F c (nI t) p0 mo to0 co (mo - F 1 (ix (nI t))) (sJudge F c g (ix (nI t)) p0 mo)) n (adN (okC n (nI t) p0 mo to0 co && decide (c < 100)) c) g) t9.heap; rw [ht9, show (okC n (nI t) p0 mo to0 co && decide (c < 100)) = false from by simp [okC, x_4, b_3, b_6, b_9, b_12, c_13, c_14, b_17]]; exact hP⟩, hS.F ht9⟩) hS.2.2 dX4_claim_59
          · have c_18 := i_nle c_13
            refine lv_bipush (v := (-2)) hx hb dX4_claim_42 (by decide) ?_
            exact W.iret (v := (-2)) hx hb hr (fun t9 ht9 hW9 => ⟨⟨(-2), (), rfl, (by first | with_reducible rfl | simp [aClaim, okC, x_4, b_3, b_6, b_9, b_12, c_13, c_18]), by show va_P D vwCl (x4W q cs (clF (okC n (nI t) p0 mo to0 co && decide (c < 100)) F c (nI t) p0 mo to0 co (mo - F 1 (ix (nI t))) (sJudge F c g (ix (nI t)) p0 mo)) n (adN (okC n (nI t) p0 mo to0 co && decide (c < 100)) c) g) t9.heap; rw [ht9, show (okC n (nI t) p0 mo to0 co && decide (c < 100)) = false from by simp [okC, x_4, b_3, b_6, b_9, b_12, c_13, c_18]]; exact hP⟩, hS.F ht9⟩) hS.2.2 dX4_claim_44
    · have b_19 : (rg p0 0 9) = false := bI_f c_5
      refine lv_bipush (v := (-2)) hx hb dX4_claim_18 (by decide) ?_
      exact W.iret (v := (-2)) hx hb hr (fun t9 ht9 hW9 => ⟨⟨(-2), (), rfl, (by first | with_reducible rfl | simp [aClaim, okC, x_4, b_3, b_19]), by show va_P D vwCl (x4W q cs (clF (okC n (nI t) p0 mo to0 co && decide (c < 100)) F c (nI t) p0 mo to0 co (mo - F 1 (ix (nI t))) (sJudge F c g (ix (nI t)) p0 mo)) n (adN (okC n (nI t) p0 mo to0 co && decide (c < 100)) c) g) t9.heap; rw [ht9, show (okC n (nI t) p0 mo to0 co && decide (c < 100)) = false from by simp [okC, x_4, b_3, b_19]]; exact hP⟩, hS.F ht9⟩) hS.2.2 dX4_claim_20
