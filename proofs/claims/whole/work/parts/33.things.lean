set_option maxHeartbeats 4000000 in
set_option maxRecDepth 100000 in
/-- X2_has -/
theorem c_X2_has (l : Launch) (D : va_G) (cs : Nat → ClassId) (q : Nat → Nat) (F : Nat → Nat → Int32) (n c : Nat) (x : Int32) (hI : Inv F n c) : Met l yX2_has wsX2_has ({ frames := 0, cells := 0, slots := 0, locals := 0 }) (va_Pc [.ref (q 1), .int x] (pw D cs (tW q cs F n))) (vp_Si (fun r => r = (bI (hasT n x)))) 0 0 (fun _ => False) := by
  refine Met.ofW (cc := cX2_has) (maxL := 2) (ret := (some .boolean)) (by decide) rfl ?_
  intro p e s m args below meth c_ s₁ B hml hv
  obtain ⟨rfl, hP, hK, hN⟩ := hv
  have hx := B.exec
  have hb := B.bytes
  have hr := B.returns
  have hts := atoms_spec (ws := wsX2_has) B.pre
  have hown : s.vm.findClass RX2 = some m.cls := findClass_of_methodNamed B.named
  have hlocks := B.notSynchronized
  have hl := lv_entry ([.ref (q 1), .int x]) (n := 2) (Nat.le_of_ble_eq_true rfl)
  rw [lg_entry_eq]
  generalize (lg_sl ([.ref (q 1), .int x]) ++ List.replicate (2 - (lg_sl ([.ref (q 1), .int x])).length) Slot.unset).toArray = ls at hl ⊢
  have hl : lv_has ls 2 [(0, .ref (q 1)), (1, .int x)] := hl
  have hn60 := hI.n60
  have hc100 := hI.c100
  refine lv_iload_n hx hb dX2_has_0 rfl (lv_at hl 1 rfl) ?_
  refine lv_if_lt (tgt := 16) hx hb dX2_has_1 (by decide) (fun c_1 => ?_) (fun c_1 => ?_)
  · have c_2 := i_lt c_1
    refine lv_iconst (v := 0) hx hb dX2_has_16 (by decide) ?_
    exact W.zret (v := 0) hx hb hr rfl (fun t9 ht9 hW9 => ⟨0, rfl, (by first | with_reducible rfl | simp [rg, bI, hasT, c_1, c_2]), ht9⟩) (fun _ h => by cases h) dX2_has_17
  · have c_3 := i_nlt c_1
    refine lv_iload_n hx hb dX2_has_4 rfl (lv_at hl 1 rfl) ?_
    refine lv_aload_n hx hb dX2_has_5 rfl (lv_at hl 0 rfl) ?_
    refine va_get (D := D) (ci := 2) (v := .int (nI n)) (C := RX2) (T := TX2) (N := 7) hx hb hts (fun _ h => List.mem_cons_of_mem _ (List.mem_append_right _ h)) hown hK hP 0 rfl rfl 6 (by decide) (hts (.fieldLink RX2 30 "UnderPromise$Things" "size" "I") (List.mem_of_getElem? (i := 1) rfl)) (fun _ h9 => h9) rfl dX2_has_6 ?_
    refine lv_icmp_ge (tgt := 16) hx hb dX2_has_9 (by decide) (fun c_4 => ?_) (fun c_4 => ?_)
    · have c_5 := i_le c_4
      refine lv_iconst (v := 0) hx hb dX2_has_16 (by decide) ?_
      exact W.zret (v := 0) hx hb hr rfl (fun t9 ht9 hW9 => ⟨0, rfl, (by first | with_reducible rfl | simp [rg, bI, hasT, c_1, c_3, c_4, c_5]), ht9⟩) (fun _ h => by cases h) dX2_has_17
    · have c_6 := i_nle c_4
      refine lv_iconst (v := 1) hx hb dX2_has_12 (by decide) ?_
      refine lv_goto (tgt := 17) hx hb dX2_has_13 (by decide) ?_
      exact W.zret (v := 1) hx hb hr rfl (fun t9 ht9 hW9 => ⟨1, rfl, (by first | with_reducible rfl | simp [rg, bI, hasT, c_1, c_3, c_4, c_6]), ht9⟩) (fun _ h => by cases h) dX2_has_17
set_option maxHeartbeats 4000000 in
set_option maxRecDepth 100000 in
/-- X2_covers -/
theorem c_X2_covers (l : Launch) (D : va_G) (cs : Nat → ClassId) (q : Nat → Nat) (F : Nat → Nat → Int32) (n c : Nat) (t : Nat) (mo : Int32) (hI : Inv F n c) (ht : t < n) : Met l yX2_covers wsX2_covers ({ frames := 0, cells := 0, slots := 0, locals := 0 }) (va_Pc [.ref (q 1), .int (nI t), .int mo] (pw D cs (tW q cs F n))) (vp_Si (fun r => r = (bI (sProm F t mo)))) 0 0 (fun _ => False) := by
  refine Met.ofW (cc := cX2_covers) (maxL := 4) (ret := (some .boolean)) (by decide) rfl ?_
  intro p e s m args below meth c_ s₁ B hml hv
  obtain ⟨rfl, hP, hK, hN⟩ := hv
  have hx := B.exec
  have hb := B.bytes
  have hr := B.returns
  have hts := atoms_spec (ws := wsX2_covers) B.pre
  have hown : s.vm.findClass RX2 = some m.cls := findClass_of_methodNamed B.named
  have hlocks := B.notSynchronized
  have hl := lv_entry ([.ref (q 1), .int (nI t), .int mo]) (n := 4) (Nat.le_of_ble_eq_true rfl)
  rw [lg_entry_eq]
  generalize (lg_sl ([.ref (q 1), .int (nI t), .int mo]) ++ List.replicate (4 - (lg_sl ([.ref (q 1), .int (nI t), .int mo])).length) Slot.unset).toArray = ls at hl ⊢
  have hl : lv_has ls 4 [(0, .ref (q 1)), (1, .int (nI t)), (2, .int mo)] := hl
  have hn60 := hI.n60
  have hc100 := hI.c100
  refine lv_iload_n hx hb dX2_covers_0 rfl (lv_at hl 2 rfl) ?_
  refine lv_aload_n hx hb dX2_covers_1 rfl (lv_at hl 0 rfl) ?_
  refine va_get (D := D) (ci := 2) (v := .ref (q 11)) (C := RX2) (T := TX2) (N := 7) hx hb hts (fun _ h => List.mem_cons_of_mem _ (List.mem_append_right _ h)) hown hK hP 0 rfl rfl 1 (by decide) (hts (.fieldLink RX2 15 "UnderPromise$Things" "sold" "[I") (List.mem_of_getElem? (i := 1) rfl)) (fun _ h9 => h9) rfl dX2_covers_2 ?_
  refine lv_iload_n hx hb dX2_covers_5 rfl (lv_at hl 1 rfl) ?_
  refine iaK (v := (F 1 t)) hx hb hK hP 2 0 rfl rfl t (vp_in_nI (by omega) (by decide)) (nI_clamp (by omega)) rfl dX2_covers_6 ?_
  refine lv_isub hx hb dX2_covers_7 ?_
  refine lv_istore_n (lv' := [(3, .int (mo - (F 1 t))), (0, .ref (q 1)), (1, .int (nI t)), (2, .int mo)]) hx hb dX2_covers_8 rfl hl (by decide) rfl (fun ls hl => ?_)
  refine lv_iload_n hx hb dX2_covers_9 rfl (lv_at hl 0 rfl) ?_
  refine lv_if_lt (tgt := 54) hx hb dX2_covers_10 (by decide) (fun c_1 => ?_) (fun c_1 => ?_)
  · have c_2 := i_lt c_1
    refine lv_iconst (v := 0) hx hb dX2_covers_54 (by decide) ?_
    exact W.zret (v := 0) hx hb hr rfl (fun t9 ht9 hW9 => ⟨0, rfl, (by first | with_reducible rfl | simp [rg, bI, sProm, c_1, c_2]), ht9⟩) (fun _ h => by cases h) dX2_covers_55
  · have c_3 := i_nlt c_1
    refine lv_iload_n hx hb dX2_covers_13 rfl (lv_at hl 0 rfl) ?_
    refine lv_aload_n hx hb dX2_covers_14 rfl (lv_at hl 1 rfl) ?_
    refine va_get (D := D) (ci := 2) (v := .ref (q 14)) (C := RX2) (T := TX2) (N := 7) hx hb hts (fun _ h => List.mem_cons_of_mem _ (List.mem_append_right _ h)) hown hK hP 0 rfl rfl 4 (by decide) (hts (.fieldLink RX2 24 "UnderPromise$Things" "landMonths" "[I") (List.mem_of_getElem? (i := 2) rfl)) (fun _ h9 => h9) rfl dX2_covers_15 ?_
    refine lv_aload_n hx hb dX2_covers_18 rfl (lv_at hl 1 rfl) ?_
    refine va_get (D := D) (ci := 2) (v := .ref (q 13)) (C := RX2) (T := TX2) (N := 7) hx hb hts (fun _ h => List.mem_cons_of_mem _ (List.mem_append_right _ h)) hown hK hP 0 rfl rfl 3 (by decide) (hts (.fieldLink RX2 21 "UnderPromise$Things" "land" "[I") (List.mem_of_getElem? (i := 3) rfl)) (fun _ h9 => h9) rfl dX2_covers_19 ?_
    refine lv_iload_n hx hb dX2_covers_22 rfl (lv_at hl 2 rfl) ?_
    refine iaK (v := (F 3 t)) hx hb hK hP 4 0 rfl rfl t (vp_in_nI (by omega) (by decide)) (nI_clamp (by omega)) rfl dX2_covers_23 ?_
    refine iaK (v := (F 4 (ix (F 3 t)))) hx hb hK hP 5 0 rfl rfl (ix (F 3 t)) (hI.land (by omega)) rfl rfl dX2_covers_24 ?_
    refine lv_icmp_ge (tgt := 54) hx hb dX2_covers_25 (by decide) (fun c_4 => ?_) (fun c_4 => ?_)
    · have c_5 := i_le c_4
      refine lv_iconst (v := 0) hx hb dX2_covers_54 (by decide) ?_
      exact W.zret (v := 0) hx hb hr rfl (fun t9 ht9 hW9 => ⟨0, rfl, (by first | with_reducible rfl | simp [rg, bI, sProm, c_1, c_3, c_4, c_5]), ht9⟩) (fun _ h => by cases h) dX2_covers_55
    · have c_6 := i_nle c_4
      refine lv_iload_n hx hb dX2_covers_28 rfl (lv_at hl 0 rfl) ?_
      refine lv_aload_n hx hb dX2_covers_29 rfl (lv_at hl 1 rfl) ?_
      refine va_get (D := D) (ci := 2) (v := .ref (q 12)) (C := RX2) (T := TX2) (N := 7) hx hb hts (fun _ h => List.mem_cons_of_mem _ (List.mem_append_right _ h)) hown hK hP 0 rfl rfl 2 (by decide) (hts (.fieldLink RX2 18 "UnderPromise$Things" "miles" "[I") (List.mem_of_getElem? (i := 4) rfl)) (fun _ h9 => h9) rfl dX2_covers_30 ?_
      refine lv_iload_n hx hb dX2_covers_33 rfl (lv_at hl 2 rfl) ?_
      refine iaK (v := (F 2 t)) hx hb hK hP 3 0 rfl rfl t (vp_in_nI (by omega) (by decide)) (nI_clamp (by omega)) rfl dX2_covers_34 ?_
      refine lv_imul hx hb dX2_covers_35 ?_
      refine lv_aload_n hx hb dX2_covers_36 rfl (lv_at hl 1 rfl) ?_
      refine va_get (D := D) (ci := 2) (v := .ref (q 15)) (C := RX2) (T := TX2) (N := 7) hx hb hts (fun _ h => List.mem_cons_of_mem _ (List.mem_append_right _ h)) hown hK hP 0 rfl rfl 5 (by decide) (hts (.fieldLink RX2 27 "UnderPromise$Things" "landMiles" "[I") (List.mem_of_getElem? (i := 5) rfl)) (fun _ h9 => h9) rfl dX2_covers_37 ?_
      refine lv_aload_n hx hb dX2_covers_40 rfl (lv_at hl 1 rfl) ?_
      refine va_get (D := D) (ci := 2) (v := .ref (q 13)) (C := RX2) (T := TX2) (N := 7) hx hb hts (fun _ h => List.mem_cons_of_mem _ (List.mem_append_right _ h)) hown hK hP 0 rfl rfl 3 (by decide) (hts (.fieldLink RX2 21 "UnderPromise$Things" "land" "[I") (List.mem_of_getElem? (i := 3) rfl)) (fun _ h9 => h9) rfl dX2_covers_41 ?_
      refine lv_iload_n hx hb dX2_covers_44 rfl (lv_at hl 2 rfl) ?_
      refine iaK (v := (F 3 t)) hx hb hK hP 4 0 rfl rfl t (vp_in_nI (by omega) (by decide)) (nI_clamp (by omega)) rfl dX2_covers_45 ?_
      refine iaK (v := (F 5 (ix (F 3 t)))) hx hb hK hP 6 0 rfl rfl (ix (F 3 t)) (hI.land (by omega)) rfl rfl dX2_covers_46 ?_
      refine lv_icmp_ge (tgt := 54) hx hb dX2_covers_47 (by decide) (fun c_7 => ?_) (fun c_7 => ?_)
      · have c_8 := i_le c_7
        refine lv_iconst (v := 0) hx hb dX2_covers_54 (by decide) ?_
        exact W.zret (v := 0) hx hb hr rfl (fun t9 ht9 hW9 => ⟨0, rfl, (by first | with_reducible rfl | simp [rg, bI, sProm, c_1, c_3, c_4, c_6, c_7, c_8]), ht9⟩) (fun _ h => by cases h) dX2_covers_55
      · have c_9 := i_nle c_7
        refine lv_iconst (v := 1) hx hb dX2_covers_50 (by decide) ?_
        refine lv_goto (tgt := 55) hx hb dX2_covers_51 (by decide) ?_
        exact W.zret (v := 1) hx hb hr rfl (fun t9 ht9 hW9 => ⟨1, rfl, (by first | with_reducible rfl | simp [rg, bI, sProm, c_1, c_3, c_4, c_6, c_7, c_9]), ht9⟩) (fun _ h => by cases h) dX2_covers_55
set_option maxHeartbeats 4000000 in
set_option maxRecDepth 100000 in
/-- X2_lastCovered -/
theorem c_X2_lastCovered (l : Launch) (D : va_G) (cs : Nat → ClassId) (q : Nat → Nat) (F : Nat → Nat → Int32) (n c : Nat) (t : Nat) (hI : Inv F n c) (ht : t < n) : Met l yX2_lastCovered wsX2_lastCovered ({ frames := 1, cells := 0, slots := 0, locals := 30 }) (va_Pc [.ref (q 1), .int (nI t)] (pw D cs (tW q cs F n))) (vp_Si (fun r => r = (sLast F t))) 0 0 (fun _ => False) := by
  refine Met.ofW (cc := cX2_lastCovered) (maxL := 5) (ret := (some .int)) (by decide) rfl ?_
  intro p e s m args below meth c_ s₁ B hml hv
  obtain ⟨rfl, hP, hK, hN⟩ := hv
  have hx := B.exec
  have hb := B.bytes
  have hr := B.returns
  have hts := atoms_spec (ws := wsX2_lastCovered) B.pre
  have hown : s.vm.findClass RX2 = some m.cls := findClass_of_methodNamed B.named
  have hlocks := B.notSynchronized
  have hl := lv_entry ([.ref (q 1), .int (nI t)]) (n := 5) (Nat.le_of_ble_eq_true rfl)
  rw [lg_entry_eq]
  generalize (lg_sl ([.ref (q 1), .int (nI t)]) ++ List.replicate (5 - (lg_sl ([.ref (q 1), .int (nI t)])).length) Slot.unset).toArray = ls at hl ⊢
  have hl : lv_has ls 5 [(0, .ref (q 1)), (1, .int (nI t))] := hl
  have hn60 := hI.n60
  have hc100 := hI.c100
  refine lv_aload_n hx hb dX2_lastCovered_0 rfl (lv_at hl 0 rfl) ?_
  refine va_get (D := D) (ci := 2) (v := .ref (q 14)) (C := RX2) (T := TX2) (N := 7) hx hb hts (fun _ h => List.mem_cons_of_mem _ (List.mem_append_right _ h)) hown hK hP 0 rfl rfl 4 (by decide) (hts (.fieldLink RX2 24 "UnderPromise$Things" "landMonths" "[I") (List.mem_of_getElem? (i := 1) rfl)) (fun _ h9 => h9) rfl dX2_lastCovered_1 ?_
  refine lv_aload_n hx hb dX2_lastCovered_4 rfl (lv_at hl 0 rfl) ?_
  refine va_get (D := D) (ci := 2) (v := .ref (q 13)) (C := RX2) (T := TX2) (N := 7) hx hb hts (fun _ h => List.mem_cons_of_mem _ (List.mem_append_right _ h)) hown hK hP 0 rfl rfl 3 (by decide) (hts (.fieldLink RX2 21 "UnderPromise$Things" "land" "[I") (List.mem_of_getElem? (i := 2) rfl)) (fun _ h9 => h9) rfl dX2_lastCovered_5 ?_
  refine lv_iload_n hx hb dX2_lastCovered_8 rfl (lv_at hl 1 rfl) ?_
  refine iaK (v := (F 3 t)) hx hb hK hP 4 0 rfl rfl t (vp_in_nI (by omega) (by decide)) (nI_clamp (by omega)) rfl dX2_lastCovered_9 ?_
  refine iaK (v := (F 4 (ix (F 3 t)))) hx hb hK hP 5 0 rfl rfl (ix (F 3 t)) (hI.land (by omega)) rfl rfl dX2_lastCovered_10 ?_
  refine lv_istore_n (lv' := [(2, .int (F 4 (ix (F 3 t)))), (0, .ref (q 1)), (1, .int (nI t))]) hx hb dX2_lastCovered_11 rfl hl (by decide) rfl (fun ls hl => ?_)
  refine lv_aload_n hx hb dX2_lastCovered_12 rfl (lv_at hl 1 rfl) ?_
  refine va_get (D := D) (ci := 2) (v := .ref (q 15)) (C := RX2) (T := TX2) (N := 7) hx hb hts (fun _ h => List.mem_cons_of_mem _ (List.mem_append_right _ h)) hown hK hP 0 rfl rfl 5 (by decide) (hts (.fieldLink RX2 27 "UnderPromise$Things" "landMiles" "[I") (List.mem_of_getElem? (i := 3) rfl)) (fun _ h9 => h9) rfl dX2_lastCovered_13 ?_
  refine lv_aload_n hx hb dX2_lastCovered_16 rfl (lv_at hl 1 rfl) ?_
  refine va_get (D := D) (ci := 2) (v := .ref (q 13)) (C := RX2) (T := TX2) (N := 7) hx hb hts (fun _ h => List.mem_cons_of_mem _ (List.mem_append_right _ h)) hown hK hP 0 rfl rfl 3 (by decide) (hts (.fieldLink RX2 21 "UnderPromise$Things" "land" "[I") (List.mem_of_getElem? (i := 2) rfl)) (fun _ h9 => h9) rfl dX2_lastCovered_17 ?_
  refine lv_iload_n hx hb dX2_lastCovered_20 rfl (lv_at hl 2 rfl) ?_
  refine iaK (v := (F 3 t)) hx hb hK hP 4 0 rfl rfl t (vp_in_nI (by omega) (by decide)) (nI_clamp (by omega)) rfl dX2_lastCovered_21 ?_
  refine iaK (v := (F 5 (ix (F 3 t)))) hx hb hK hP 6 0 rfl rfl (ix (F 3 t)) (hI.land (by omega)) rfl rfl dX2_lastCovered_22 ?_
  refine lv_istore_n (lv' := [(3, .int (F 5 (ix (F 3 t)))), (2, .int (F 4 (ix (F 3 t)))), (0, .ref (q 1)), (1, .int (nI t))]) hx hb dX2_lastCovered_23 rfl hl (by decide) rfl (fun ls hl => ?_)
  refine lv_iload_n hx hb dX2_lastCovered_24 rfl (lv_at hl 1 rfl) ?_
  refine lv_if_eq (tgt := 32) hx hb dX2_lastCovered_25 (by decide) (fun c_1 => ?_) (fun c_1 => ?_)
  · refine lv_iconst (v := (-1)) hx hb dX2_lastCovered_32 (by decide) ?_
    exact W.iret (v := (-1)) hx hb hr (fun t9 ht9 hW9 => ⟨(-1), rfl, (by first | with_reducible rfl | simp [sLast, c_1]), ht9⟩) (fun _ h => by cases h) dX2_lastCovered_33
  · refine lv_iload_n hx hb dX2_lastCovered_28 rfl (lv_at hl 0 rfl) ?_
    refine lv_if_ne (tgt := 34) hx hb dX2_lastCovered_29 (by decide) (fun c_2 => ?_) (fun c_2 => ?_)
    · refine lv_iload_n hx hb dX2_lastCovered_34 rfl (lv_at hl 1 rfl) ?_
      refine lv_iconst (v := 1) hx hb dX2_lastCovered_35 (by decide) ?_
      refine lv_isub hx hb dX2_lastCovered_36 ?_
      refine lv_istore (lv' := [(4, .int ((F 4 (ix (F 3 t))) - 1)), (3, .int (F 5 (ix (F 3 t)))), (2, .int (F 4 (ix (F 3 t)))), (0, .ref (q 1)), (1, .int (nI t))]) hx hb dX2_lastCovered_37 hl (by decide) rfl (fun ls hl => ?_)
      refine lv_aload_n hx hb dX2_lastCovered_39 rfl (lv_at hl 3 rfl) ?_
      refine va_get (D := D) (ci := 2) (v := .ref (q 12)) (C := RX2) (T := TX2) (N := 7) hx hb hts (fun _ h => List.mem_cons_of_mem _ (List.mem_append_right _ h)) hown hK hP 0 rfl rfl 2 (by decide) (hts (.fieldLink RX2 18 "UnderPromise$Things" "miles" "[I") (List.mem_of_getElem? (i := 4) rfl)) (fun _ h9 => h9) rfl dX2_lastCovered_40 ?_
      refine lv_iload_n hx hb dX2_lastCovered_43 rfl (lv_at hl 4 rfl) ?_
      refine iaK (v := (F 2 t)) hx hb hK hP 3 0 rfl rfl t (vp_in_nI (by omega) (by decide)) (nI_clamp (by omega)) rfl dX2_lastCovered_44 ?_
      refine lv_if_le (tgt := 65) hx hb dX2_lastCovered_45 (by decide) (fun c_3 => ?_) (fun c_3 => ?_)
      · have c_4 := i_le c_3
        refine lv_aload_n hx hb dX2_lastCovered_65 rfl (lv_at hl 3 rfl) ?_
        refine va_get (D := D) (ci := 2) (v := .ref (q 11)) (C := RX2) (T := TX2) (N := 7) hx hb hts (fun _ h => List.mem_cons_of_mem _ (List.mem_append_right _ h)) hown hK hP 0 rfl rfl 1 (by decide) (hts (.fieldLink RX2 15 "UnderPromise$Things" "sold" "[I") (List.mem_of_getElem? (i := 9) rfl)) (fun _ h9 => h9) rfl dX2_lastCovered_66 ?_
        refine lv_iload_n hx hb dX2_lastCovered_69 rfl (lv_at hl 4 rfl) ?_
        refine iaK (v := (F 1 t)) hx hb hK hP 2 0 rfl rfl t (vp_in_nI (by omega) (by decide)) (nI_clamp (by omega)) rfl dX2_lastCovered_70 ?_
        refine lv_iload hx hb dX2_lastCovered_71 (lv_at hl 0 rfl) ?_
        refine lv_iadd hx hb dX2_lastCovered_73 ?_
        exact W.iret (v := ((F 1 t) + ((F 4 (ix (F 3 t))) - 1))) hx hb hr (fun t9 ht9 hW9 => ⟨((F 1 t) + ((F 4 (ix (F 3 t))) - 1)), rfl, (by first | with_reducible rfl | simp [sLast, c_1, c_2, c_3, c_4]), ht9⟩) (fun _ h => by cases h) dX2_lastCovered_74
      · have c_5 := i_nle c_3
        refine lv_iload hx hb dX2_lastCovered_48 (lv_at hl 0 rfl) ?_
        refine lv_iload_n hx hb dX2_lastCovered_50 rfl (lv_at hl 1 rfl) ?_
        refine lv_iconst (v := 1) hx hb dX2_lastCovered_51 (by decide) ?_
        refine lv_isub hx hb dX2_lastCovered_52 ?_
        refine lv_aload_n hx hb dX2_lastCovered_53 rfl (lv_at hl 3 rfl) ?_
        refine va_get (D := D) (ci := 2) (v := .ref (q 12)) (C := RX2) (T := TX2) (N := 7) hx hb hts (fun _ h => List.mem_cons_of_mem _ (List.mem_append_right _ h)) hown hK hP 0 rfl rfl 2 (by decide) (hts (.fieldLink RX2 18 "UnderPromise$Things" "miles" "[I") (List.mem_of_getElem? (i := 4) rfl)) (fun _ h9 => h9) rfl dX2_lastCovered_54 ?_
        refine lv_iload_n hx hb dX2_lastCovered_57 rfl (lv_at hl 4 rfl) ?_
        refine iaK (v := (F 2 t)) hx hb hK hP 3 0 rfl rfl t (vp_in_nI (by omega) (by decide)) (nI_clamp (by omega)) rfl dX2_lastCovered_58 ?_
        refine lv_idiv hx hb dX2_lastCovered_59 (i_pos0 c_3) ?_
        refine va_mmin hx hb (hml.trans hl.1.symm) hown (hts (.methodLink RX2 35 Lib.Math.min.name) (List.mem_of_getElem? (i := 5) rfl)) (hts (.static Lib.Math.min.name) (List.mem_of_getElem? (i := 6) rfl)) (hts (.initialized "java/lang/Math") (List.mem_of_getElem? (i := 7) rfl)) (hts (.code Lib.Math.min.name Lib.Math.min.code 2 (some .int)) (List.mem_of_getElem? (i := 8) rfl)) (Nat.le_of_ble_eq_true rfl) (Nat.le_of_ble_eq_true rfl) (Nat.zero_le _) (Nat.zero_le _) dX2_lastCovered_60 ?_
        refine lv_istore (lv' := [(4, .int (if (((F 5 (ix (F 3 t))) - 1) / (F 2 t)) < ((F 4 (ix (F 3 t))) - 1) then (((F 5 (ix (F 3 t))) - 1) / (F 2 t)) else ((F 4 (ix (F 3 t))) - 1))), (3, .int (F 5 (ix (F 3 t)))), (2, .int (F 4 (ix (F 3 t)))), (0, .ref (q 1)), (1, .int (nI t))]) hx hb dX2_lastCovered_63 hl (by decide) rfl (fun ls hl => ?_)
        refine lv_aload_n hx hb dX2_lastCovered_65 rfl (lv_at hl 3 rfl) ?_
        refine va_get (D := D) (ci := 2) (v := .ref (q 11)) (C := RX2) (T := TX2) (N := 7) hx hb hts (fun _ h => List.mem_cons_of_mem _ (List.mem_append_right _ h)) hown hK hP 0 rfl rfl 1 (by decide) (hts (.fieldLink RX2 15 "UnderPromise$Things" "sold" "[I") (List.mem_of_getElem? (i := 9) rfl)) (fun _ h9 => h9) rfl dX2_lastCovered_66 ?_
        refine lv_iload_n hx hb dX2_lastCovered_69 rfl (lv_at hl 4 rfl) ?_
        refine iaK (v := (F 1 t)) hx hb hK hP 2 0 rfl rfl t (vp_in_nI (by omega) (by decide)) (nI_clamp (by omega)) rfl dX2_lastCovered_70 ?_
        refine lv_iload hx hb dX2_lastCovered_71 (lv_at hl 0 rfl) ?_
        refine lv_iadd hx hb dX2_lastCovered_73 ?_
        exact W.iret (v := ((F 1 t) + (if (((F 5 (ix (F 3 t))) - 1) / (F 2 t)) < ((F 4 (ix (F 3 t))) - 1) then (((F 5 (ix (F 3 t))) - 1) / (F 2 t)) else ((F 4 (ix (F 3 t))) - 1)))) hx hb hr (fun t9 ht9 hW9 => ⟨((F 1 t) + (if (((F 5 (ix (F 3 t))) - 1) / (F 2 t)) < ((F 4 (ix (F 3 t))) - 1) then (((F 5 (ix (F 3 t))) - 1) / (F 2 t)) else ((F 4 (ix (F 3 t))) - 1))), rfl, (by first | with_reducible rfl | simp [sLast, c_1, c_2, c_3, c_5]), ht9⟩) (fun _ h => by cases h) dX2_lastCovered_74
    · refine lv_iconst (v := (-1)) hx hb dX2_lastCovered_32 (by decide) ?_
      exact W.iret (v := (-1)) hx hb hr (fun t9 ht9 hW9 => ⟨(-1), rfl, (by first | with_reducible rfl | simp [sLast, c_1, c_2]), ht9⟩) (fun _ h => by cases h) dX2_lastCovered_33
set_option maxHeartbeats 4000000 in
set_option maxRecDepth 100000 in
/-- X2_coveredAtAge -/
theorem c_X2_coveredAtAge (l : Launch) (D : va_G) (cs : Nat → ClassId) (q : Nat → Nat) (F : Nat → Nat → Int32) (n c : Nat) (a : Int32) (mo : Int32) (hI : Inv F n c) : Met l yX2_coveredAtAge wsX2_coveredAtAge ({ frames := 1, cells := 0, slots := 0, locals := 23 }) (va_Pc [.ref (q 1), .int a, .int mo] (pw D cs (tW q cs F n))) (vp_Si (fun r => r = (ctI (sExp F a mo) n))) 0 0 (fun _ => False) := by
  refine Met.ofW (cc := cX2_coveredAtAge) (maxL := 6) (ret := (some .int)) (by decide) rfl ?_
  intro p e s m args below meth c_ s₁ B hml hv
  obtain ⟨rfl, hP, hK, hN⟩ := hv
  have hx := B.exec
  have hb := B.bytes
  have hr := B.returns
  have hts := atoms_spec (ws := wsX2_coveredAtAge) B.pre
  have hown : s.vm.findClass RX2 = some m.cls := findClass_of_methodNamed B.named
  have hlocks := B.notSynchronized
  have hl := lv_entry ([.ref (q 1), .int a, .int mo]) (n := 6) (Nat.le_of_ble_eq_true rfl)
  rw [lg_entry_eq]
  generalize (lg_sl ([.ref (q 1), .int a, .int mo]) ++ List.replicate (6 - (lg_sl ([.ref (q 1), .int a, .int mo])).length) Slot.unset).toArray = ls at hl ⊢
  have hl : lv_has ls 6 [(0, .ref (q 1)), (1, .int a), (2, .int mo)] := hl
  have hn60 := hI.n60
  have hc100 := hI.c100
  refine lv_iconst (v := 0) hx hb dX2_coveredAtAge_0 (by decide) ?_
  refine lv_istore_n (lv' := [(3, .int 0), (0, .ref (q 1)), (1, .int a), (2, .int mo)]) hx hb dX2_coveredAtAge_1 rfl hl (by decide) rfl (fun ls hl => ?_)
  refine lv_iconst (v := 0) hx hb dX2_coveredAtAge_2 (by decide) ?_
  refine lv_istore (lv' := [(4, .int 0), (3, .int 0), (0, .ref (q 1)), (1, .int a), (2, .int mo)]) hx hb dX2_coveredAtAge_3 hl (by decide) rfl (fun ls hl => ?_)
  refine lpW (fun k ls => lv_has ls 6 [(0, .ref (q 1)), (1, .int a), (2, .int mo), (3, .int (ctI (sExp F a mo) k)), (4, .int (nI k))]) n 0 (Nat.zero_le _) ls (show lv_has ls 6 [(0, .ref (q 1)), (1, .int a), (2, .int mo), (3, .int (ctI (sExp F a mo) 0)), (4, .int (nI 0))] from lv_sub hl [2, 3, 4, 1, 0] rfl) ?_ ?_
  · intro ls hl
    have hl : lv_has ls 6 [(0, .ref (q 1)), (1, .int a), (2, .int mo), (3, .int (ctI (sExp F a mo) n)), (4, .int (nI n))] := hl
    refine lv_iload hx hb dX2_coveredAtAge_5 (lv_at hl 4 rfl) ?_
    refine lv_aload_n hx hb dX2_coveredAtAge_7 rfl (lv_at hl 0 rfl) ?_
    refine va_get (D := D) (ci := 2) (v := .int (nI n)) (C := RX2) (T := TX2) (N := 7) hx hb hts (fun _ h => List.mem_cons_of_mem _ (List.mem_append_right _ h)) hown hK hP 0 rfl rfl 6 (by decide) (hts (.fieldLink RX2 30 "UnderPromise$Things" "size" "I") (List.mem_of_getElem? (i := 1) rfl)) (fun _ h9 => h9) rfl dX2_coveredAtAge_8 ?_
    refine lv_icmp_ge (tgt := 51) hx hb dX2_coveredAtAge_11 (by decide) (fun c_1 => ?_) (fun c_1 => ?_)
    · have c_2 := i_le c_1
      refine lv_iload_n hx hb dX2_coveredAtAge_51 rfl (lv_at hl 3 rfl) ?_
      exact W.iret (v := (ctI (sExp F a mo) n)) hx hb hr (fun t9 ht9 hW9 => ⟨(ctI (sExp F a mo) n), rfl, rfl, ht9⟩) (fun _ h => by cases h) dX2_coveredAtAge_52
    · exact absurd (nI_le (Nat.le_refl _) (by omega)) c_1
  · intro k hk0 hk ih ls hl
    have hl : lv_has ls 6 [(0, .ref (q 1)), (1, .int a), (2, .int mo), (3, .int (ctI (sExp F a mo) k)), (4, .int (nI k))] := hl
    refine lv_iload hx hb dX2_coveredAtAge_5 (lv_at hl 4 rfl) ?_
    refine lv_aload_n hx hb dX2_coveredAtAge_7 rfl (lv_at hl 0 rfl) ?_
    refine va_get (D := D) (ci := 2) (v := .int (nI n)) (C := RX2) (T := TX2) (N := 7) hx hb hts (fun _ h => List.mem_cons_of_mem _ (List.mem_append_right _ h)) hown hK hP 0 rfl rfl 6 (by decide) (hts (.fieldLink RX2 30 "UnderPromise$Things" "size" "I") (List.mem_of_getElem? (i := 1) rfl)) (fun _ h9 => h9) rfl dX2_coveredAtAge_8 ?_
    refine lv_icmp_ge (tgt := 51) hx hb dX2_coveredAtAge_11 (by decide) (fun c_3 => ?_) (fun c_3 => ?_)
    · exact absurd c_3 (nI_ge hk (by omega))
    · have c_4 := i_nle c_3
      refine lv_aload_n hx hb dX2_coveredAtAge_14 rfl (lv_at hl 0 rfl) ?_
      refine va_get (D := D) (ci := 2) (v := .ref (q 11)) (C := RX2) (T := TX2) (N := 7) hx hb hts (fun _ h => List.mem_cons_of_mem _ (List.mem_append_right _ h)) hown hK hP 0 rfl rfl 1 (by decide) (hts (.fieldLink RX2 15 "UnderPromise$Things" "sold" "[I") (List.mem_of_getElem? (i := 2) rfl)) (fun _ h9 => h9) rfl dX2_coveredAtAge_15 ?_
      refine lv_iload hx hb dX2_coveredAtAge_18 (lv_at hl 4 rfl) ?_
      refine iaK (v := (F 1 k)) hx hb hK hP 2 0 rfl rfl k (vp_in_nI (by omega) (by decide)) (nI_clamp (by omega)) rfl dX2_coveredAtAge_20 ?_
      refine lv_iload_n hx hb dX2_coveredAtAge_21 rfl (lv_at hl 1 rfl) ?_
      refine lv_iadd hx hb dX2_coveredAtAge_22 ?_
      refine lv_istore (lv' := [(5, .int ((F 1 k) + a)), (0, .ref (q 1)), (1, .int a), (2, .int mo), (3, .int (ctI (sExp F a mo) k)), (4, .int (nI k))]) hx hb dX2_coveredAtAge_23 hl (by decide) rfl (fun ls hl => ?_)
      refine lv_iload hx hb dX2_coveredAtAge_25 (lv_at hl 0 rfl) ?_
      refine lv_iload_n hx hb dX2_coveredAtAge_27 rfl (lv_at hl 3 rfl) ?_
      refine lv_icmp_gt (tgt := 45) hx hb dX2_coveredAtAge_28 (by decide) (fun c_5 => ?_) (fun c_5 => ?_)
      · have c_6 := i_lt c_5
        refine lv_iinc (v := ((nI k) + 1)) (lv' := [(4, .int ((nI k) + 1)), (5, .int ((F 1 k) + a)), (0, .ref (q 1)), (1, .int a), (2, .int mo), (3, .int (ctI (sExp F a mo) k))]) hx hb dX2_coveredAtAge_45 hl (k := 5) rfl rfl (by decide) rfl (fun ls hl => ?_)
        refine lv_goto (tgt := 5) hx hb dX2_coveredAtAge_48 (by decide) ?_
        have h_7 : (ctI (sExp F a mo) k) = (ctI (sExp F a mo) (k + 1)) := (by first | with_reducible rfl | simp [ctI, sExp, c_3, c_4, c_5, c_6])
        have h_8 : ((nI k) + 1) = (nI (k + 1)) := (nI_1 _)
        exact ih _ (lv_cast (lv_sub (l' := [(0, .ref (q 1)), (1, .int a), (2, .int mo), (3, .int (ctI (sExp F a mo) k)), (4, .int ((nI k) + 1))]) hl [2, 3, 4, 5, 0] rfl) (cg2 (fun z7 z8 => [(0, .ref (q 1)), (1, .int a), (2, .int mo), (3, .int z7), (4, .int z8)]) h_7 h_8))
      · have c_9 := i_nlt c_5
        refine lv_aload_n hx hb dX2_coveredAtAge_31 rfl (lv_at hl 1 rfl) ?_
        refine lv_iload hx hb dX2_coveredAtAge_32 (lv_at hl 5 rfl) ?_
        refine lv_iload hx hb dX2_coveredAtAge_34 (lv_at hl 0 rfl) ?_
        refine roVi (As := [.int (nI k), .int ((F 1 k) + a)]) (rest := []) (v := (bI (sProm F k ((F 1 k) + a)))) ⟨hx, hb, hml, hown, hts⟩ (c_X2_covers l D cs q F n c k ((F 1 k) + a) hI (by omega)) (cwV 2 hts gX2_coveredAtAge_X2_covers rfl rfl rfl (by decide +kernel) ⟨Nat.le_of_ble_eq_true rfl, Nat.le_of_ble_eq_true rfl⟩) hP hK hN 0 rfl rfl rfl hl.1 rfl (Nat.le_of_ble_eq_true rfl) dX2_coveredAtAge_36 ⟨Nat.zero_le _, Nat.zero_le _⟩ ?_
        refine lv_if_eq (tgt := 45) hx hb dX2_coveredAtAge_39 (by decide) (fun c_10 => ?_) (fun c_10 => ?_)
        · have b_11 : (sProm F k ((F 1 k) + a)) = false := bI_f c_10
          refine lv_iinc (v := ((nI k) + 1)) (lv' := [(4, .int ((nI k) + 1)), (5, .int ((F 1 k) + a)), (0, .ref (q 1)), (1, .int a), (2, .int mo), (3, .int (ctI (sExp F a mo) k))]) hx hb dX2_coveredAtAge_45 hl (k := 5) rfl rfl (by decide) rfl (fun ls hl => ?_)
          refine lv_goto (tgt := 5) hx hb dX2_coveredAtAge_48 (by decide) ?_
          have h_12 : (ctI (sExp F a mo) k) = (ctI (sExp F a mo) (k + 1)) := (by first | with_reducible rfl | simp [ctI, sExp, c_3, c_4, c_5, c_9, b_11])
          have h_13 : ((nI k) + 1) = (nI (k + 1)) := (nI_1 _)
          exact ih _ (lv_cast (lv_sub (l' := [(0, .ref (q 1)), (1, .int a), (2, .int mo), (3, .int (ctI (sExp F a mo) k)), (4, .int ((nI k) + 1))]) hl [2, 3, 4, 5, 0] rfl) (cg2 (fun z12 z13 => [(0, .ref (q 1)), (1, .int a), (2, .int mo), (3, .int z12), (4, .int z13)]) h_12 h_13))
        · have b_14 : (sProm F k ((F 1 k) + a)) = true := bI_t c_10
          refine lv_iinc (v := ((ctI (sExp F a mo) k) + 1)) (lv' := [(3, .int ((ctI (sExp F a mo) k) + 1)), (5, .int ((F 1 k) + a)), (0, .ref (q 1)), (1, .int a), (2, .int mo), (4, .int (nI k))]) hx hb dX2_coveredAtAge_42 hl (k := 4) rfl rfl (by decide) rfl (fun ls hl => ?_)
          refine lv_iinc (v := ((nI k) + 1)) (lv' := [(4, .int ((nI k) + 1)), (3, .int ((ctI (sExp F a mo) k) + 1)), (5, .int ((F 1 k) + a)), (0, .ref (q 1)), (1, .int a), (2, .int mo)]) hx hb dX2_coveredAtAge_45 hl (k := 5) rfl rfl (by decide) rfl (fun ls hl => ?_)
          refine lv_goto (tgt := 5) hx hb dX2_coveredAtAge_48 (by decide) ?_
          have h_15 : ((ctI (sExp F a mo) k) + 1) = (ctI (sExp F a mo) (k + 1)) := (by first | with_reducible rfl | simp [ctI, sExp, c_3, c_4, c_5, c_9, b_14])
          have h_16 : ((nI k) + 1) = (nI (k + 1)) := (nI_1 _)
          exact ih _ (lv_cast (lv_sub (l' := [(0, .ref (q 1)), (1, .int a), (2, .int mo), (3, .int ((ctI (sExp F a mo) k) + 1)), (4, .int ((nI k) + 1))]) hl [3, 4, 5, 1, 0] rfl) (cg2 (fun z15 z16 => [(0, .ref (q 1)), (1, .int a), (2, .int mo), (3, .int z15), (4, .int z16)]) h_15 h_16))
set_option maxHeartbeats 4000000 in
set_option maxRecDepth 100000 in
/-- X2_soldOf -/
theorem c_X2_soldOf (l : Launch) (D : va_G) (cs : Nat → ClassId) (q : Nat → Nat) (F : Nat → Nat → Int32) (n c : Nat) (bs : Int32) (fr : Int32) (to0 : Int32) (hI : Inv F n c) : Met l yX2_soldOf wsX2_soldOf ({ frames := 1, cells := 0, slots := 0, locals := 22 }) (va_Pc [.ref (q 1), .int bs, .int fr, .int to0] (pw D cs (tW q cs F n))) (vp_Sl (fun r => r = (orL (sSold F bs fr to0) (fun k => bit1 (nI k)) n))) 0 0 (fun _ => False) := by
  refine Met.ofW (cc := cX2_soldOf) (maxL := 7) (ret := (some .long)) (by decide) rfl ?_
  intro p e s m args below meth c_ s₁ B hml hv
  obtain ⟨rfl, hP, hK, hN⟩ := hv
  have hx := B.exec
  have hb := B.bytes
  have hr := B.returns
  have hts := atoms_spec (ws := wsX2_soldOf) B.pre
  have hown : s.vm.findClass RX2 = some m.cls := findClass_of_methodNamed B.named
  have hlocks := B.notSynchronized
  have hl := lv_entry ([.ref (q 1), .int bs, .int fr, .int to0]) (n := 7) (Nat.le_of_ble_eq_true rfl)
  rw [lg_entry_eq]
  generalize (lg_sl ([.ref (q 1), .int bs, .int fr, .int to0]) ++ List.replicate (7 - (lg_sl ([.ref (q 1), .int bs, .int fr, .int to0])).length) Slot.unset).toArray = ls at hl ⊢
  have hl : lv_has ls 7 [(0, .ref (q 1)), (1, .int bs), (2, .int fr), (3, .int to0)] := hl
  have hn60 := hI.n60
  have hc100 := hI.c100
  refine lv_lconst (v := 0) hx hb dX2_soldOf_0 (by decide) ?_
  refine lv_lstore (lv' := [(4, .long 0), (0, .ref (q 1)), (1, .int bs), (2, .int fr), (3, .int to0)]) hx hb dX2_soldOf_1 hl (by decide) rfl (fun ls hl => ?_)
  refine lv_iconst (v := 0) hx hb dX2_soldOf_3 (by decide) ?_
  refine lv_istore (lv' := [(6, .int 0), (4, .long 0), (0, .ref (q 1)), (1, .int bs), (2, .int fr), (3, .int to0)]) hx hb dX2_soldOf_4 hl (by decide) rfl (fun ls hl => ?_)
  refine lpW (fun k ls => lv_has ls 7 [(0, .ref (q 1)), (1, .int bs), (2, .int fr), (3, .int to0), (4, .long (orL (sSold F bs fr to0) (fun k => bit1 (nI k)) k)), (6, .int (nI k))]) n 0 (Nat.zero_le _) ls (show lv_has ls 7 [(0, .ref (q 1)), (1, .int bs), (2, .int fr), (3, .int to0), (4, .long (orL (sSold F bs fr to0) (fun k => bit1 (nI k)) 0)), (6, .int (nI 0))] from lv_sub hl [2, 3, 4, 5, 1, 0] rfl) ?_ ?_
  · intro ls hl
    have hl : lv_has ls 7 [(0, .ref (q 1)), (1, .int bs), (2, .int fr), (3, .int to0), (4, .long (orL (sSold F bs fr to0) (fun k => bit1 (nI k)) n)), (6, .int (nI n))] := hl
    refine lv_iload hx hb dX2_soldOf_6 (lv_at hl 5 rfl) ?_
    refine lv_aload_n hx hb dX2_soldOf_8 rfl (lv_at hl 0 rfl) ?_
    refine va_get (D := D) (ci := 2) (v := .int (nI n)) (C := RX2) (T := TX2) (N := 7) hx hb hts (fun _ h => List.mem_cons_of_mem _ (List.mem_append_right _ h)) hown hK hP 0 rfl rfl 6 (by decide) (hts (.fieldLink RX2 30 "UnderPromise$Things" "size" "I") (List.mem_of_getElem? (i := 1) rfl)) (fun _ h9 => h9) rfl dX2_soldOf_9 ?_
    refine lv_icmp_ge (tgt := 67) hx hb dX2_soldOf_12 (by decide) (fun c_1 => ?_) (fun c_1 => ?_)
    · have c_2 := i_le c_1
      refine lv_lload hx hb dX2_soldOf_67 (lv_at hl 4 rfl) ?_
      exact W.lret (v := (orL (sSold F bs fr to0) (fun k => bit1 (nI k)) n)) hx hb hr (fun t9 ht9 hW9 => ⟨(orL (sSold F bs fr to0) (fun k => bit1 (nI k)) n), rfl, rfl, ht9⟩) (fun _ h => by cases h) dX2_soldOf_69
    · exact absurd (nI_le (Nat.le_refl _) (by omega)) c_1
  · intro k hk0 hk ih ls hl
    have hl : lv_has ls 7 [(0, .ref (q 1)), (1, .int bs), (2, .int fr), (3, .int to0), (4, .long (orL (sSold F bs fr to0) (fun k => bit1 (nI k)) k)), (6, .int (nI k))] := hl
    refine lv_iload hx hb dX2_soldOf_6 (lv_at hl 5 rfl) ?_
    refine lv_aload_n hx hb dX2_soldOf_8 rfl (lv_at hl 0 rfl) ?_
    refine va_get (D := D) (ci := 2) (v := .int (nI n)) (C := RX2) (T := TX2) (N := 7) hx hb hts (fun _ h => List.mem_cons_of_mem _ (List.mem_append_right _ h)) hown hK hP 0 rfl rfl 6 (by decide) (hts (.fieldLink RX2 30 "UnderPromise$Things" "size" "I") (List.mem_of_getElem? (i := 1) rfl)) (fun _ h9 => h9) rfl dX2_soldOf_9 ?_
    refine lv_icmp_ge (tgt := 67) hx hb dX2_soldOf_12 (by decide) (fun c_3 => ?_) (fun c_3 => ?_)
    · exact absurd c_3 (nI_ge hk (by omega))
    · have c_4 := i_nle c_3
      refine lv_iload_n hx hb dX2_soldOf_15 rfl (lv_at hl 1 rfl) ?_
      refine lv_i2l (v := (Int32.toInt64 bs)) hx hb dX2_soldOf_16 rfl ?_
      refine lv_aload_n hx hb dX2_soldOf_17 rfl (lv_at hl 0 rfl) ?_
      refine va_get (D := D) (ci := 2) (v := .ref (q 10)) (C := RX2) (T := TX2) (N := 7) hx hb hts (fun _ h => List.mem_cons_of_mem _ (List.mem_append_right _ h)) hown hK hP 0 rfl rfl 0 (by decide) (hts (.fieldLink RX2 9 "UnderPromise$Things" "batch" "[I") (List.mem_of_getElem? (i := 2) rfl)) (fun _ h9 => h9) rfl dX2_soldOf_18 ?_
      refine lv_iload hx hb dX2_soldOf_21 (lv_at hl 5 rfl) ?_
      refine iaK (v := (F 0 k)) hx hb hK hP 1 0 rfl rfl k (vp_in_nI (by omega) (by decide)) (nI_clamp (by omega)) rfl dX2_soldOf_23 ?_
      refine roNi (As := [.long (Int32.toInt64 bs), .int (F 0 k)]) (rest := []) (v := (bI (sHas (Int32.toInt64 bs) (F 0 k)))) ⟨hx, hb, hml, hown, hts⟩ (c_X4_hasBit l (Int32.toInt64 bs) (F 0 k)) (va_cnB 2 hts gX2_soldOf_X4_hasBit_n49 rfl rfl rfl hN.2.1 (hts (.initialized RX4) (List.mem_of_getElem? (i := 5) rfl)) (by decide +kernel) ⟨Nat.le_of_ble_eq_true rfl, Nat.le_of_ble_eq_true rfl⟩) (hts (.static yX4_hasBit) (List.mem_of_getElem? (i := 4) rfl)) rfl hl.1 rfl (Nat.le_of_ble_eq_true rfl) dX2_soldOf_24 ⟨Nat.zero_le _, Nat.zero_le _⟩ ?_
      refine lv_if_eq (tgt := 61) hx hb dX2_soldOf_27 (by decide) (fun c_5 => ?_) (fun c_5 => ?_)
      · have b_6 : (sHas (Int32.toInt64 bs) (F 0 k)) = false := bI_f c_5
        refine lv_iinc (v := ((nI k) + 1)) (lv' := [(6, .int ((nI k) + 1)), (0, .ref (q 1)), (1, .int bs), (2, .int fr), (3, .int to0), (4, .long (orL (sSold F bs fr to0) (fun k => bit1 (nI k)) k))]) hx hb dX2_soldOf_61 hl (k := 5) rfl rfl (by decide) rfl (fun ls hl => ?_)
        refine lv_goto (tgt := 6) hx hb dX2_soldOf_64 (by decide) ?_
        have h_7 : (orL (sSold F bs fr to0) (fun k => bit1 (nI k)) k) = (orL (sSold F bs fr to0) (fun k => bit1 (nI k)) (k + 1)) := (by first | with_reducible rfl | simp [orL, sSold, bit1, rg, c_3, c_4, b_6])
        have h_8 : ((nI k) + 1) = (nI (k + 1)) := (nI_1 _)
        exact ih _ (lv_cast (lv_sub (l' := [(0, .ref (q 1)), (1, .int bs), (2, .int fr), (3, .int to0), (4, .long (orL (sSold F bs fr to0) (fun k => bit1 (nI k)) k)), (6, .int ((nI k) + 1))]) hl [1, 2, 3, 4, 5, 0] rfl) (cg2 (fun z7 z8 => [(0, .ref (q 1)), (1, .int bs), (2, .int fr), (3, .int to0), (4, .long z7), (6, .int z8)]) h_7 h_8))
      · have b_9 : (sHas (Int32.toInt64 bs) (F 0 k)) = true := bI_t c_5
        refine lv_aload_n hx hb dX2_soldOf_30 rfl (lv_at hl 0 rfl) ?_
        refine va_get (D := D) (ci := 2) (v := .ref (q 11)) (C := RX2) (T := TX2) (N := 7) hx hb hts (fun _ h => List.mem_cons_of_mem _ (List.mem_append_right _ h)) hown hK hP 0 rfl rfl 1 (by decide) (hts (.fieldLink RX2 15 "UnderPromise$Things" "sold" "[I") (List.mem_of_getElem? (i := 3) rfl)) (fun _ h9 => h9) rfl dX2_soldOf_31 ?_
        refine lv_iload hx hb dX2_soldOf_34 (lv_at hl 5 rfl) ?_
        refine iaK (v := (F 1 k)) hx hb hK hP 2 0 rfl rfl k (vp_in_nI (by omega) (by decide)) (nI_clamp (by omega)) rfl dX2_soldOf_36 ?_
        refine lv_iload_n hx hb dX2_soldOf_37 rfl (lv_at hl 2 rfl) ?_
        refine lv_icmp_lt (tgt := 61) hx hb dX2_soldOf_38 (by decide) (fun c_10 => ?_) (fun c_10 => ?_)
        · have c_11 := i_lt c_10
          refine lv_iinc (v := ((nI k) + 1)) (lv' := [(6, .int ((nI k) + 1)), (0, .ref (q 1)), (1, .int bs), (2, .int fr), (3, .int to0), (4, .long (orL (sSold F bs fr to0) (fun k => bit1 (nI k)) k))]) hx hb dX2_soldOf_61 hl (k := 5) rfl rfl (by decide) rfl (fun ls hl => ?_)
          refine lv_goto (tgt := 6) hx hb dX2_soldOf_64 (by decide) ?_
          have h_12 : (orL (sSold F bs fr to0) (fun k => bit1 (nI k)) k) = (orL (sSold F bs fr to0) (fun k => bit1 (nI k)) (k + 1)) := (by first | with_reducible rfl | simp [orL, sSold, bit1, rg, c_3, c_4, b_9, c_10, c_11])
          have h_13 : ((nI k) + 1) = (nI (k + 1)) := (nI_1 _)
          exact ih _ (lv_cast (lv_sub (l' := [(0, .ref (q 1)), (1, .int bs), (2, .int fr), (3, .int to0), (4, .long (orL (sSold F bs fr to0) (fun k => bit1 (nI k)) k)), (6, .int ((nI k) + 1))]) hl [1, 2, 3, 4, 5, 0] rfl) (cg2 (fun z12 z13 => [(0, .ref (q 1)), (1, .int bs), (2, .int fr), (3, .int to0), (4, .long z12), (6, .int z13)]) h_12 h_13))
        · have c_14 := i_nlt c_10
          refine lv_aload_n hx hb dX2_soldOf_41 rfl (lv_at hl 0 rfl) ?_
          refine va_get (D := D) (ci := 2) (v := .ref (q 11)) (C := RX2) (T := TX2) (N := 7) hx hb hts (fun _ h => List.mem_cons_of_mem _ (List.mem_append_right _ h)) hown hK hP 0 rfl rfl 1 (by decide) (hts (.fieldLink RX2 15 "UnderPromise$Things" "sold" "[I") (List.mem_of_getElem? (i := 3) rfl)) (fun _ h9 => h9) rfl dX2_soldOf_42 ?_
          refine lv_iload hx hb dX2_soldOf_45 (lv_at hl 5 rfl) ?_
          refine iaK (v := (F 1 k)) hx hb hK hP 2 0 rfl rfl k (vp_in_nI (by omega) (by decide)) (nI_clamp (by omega)) rfl dX2_soldOf_47 ?_
          refine lv_iload_n hx hb dX2_soldOf_48 rfl (lv_at hl 3 rfl) ?_
          refine lv_icmp_gt (tgt := 61) hx hb dX2_soldOf_49 (by decide) (fun c_15 => ?_) (fun c_15 => ?_)
          · have c_16 := i_lt c_15
            refine lv_iinc (v := ((nI k) + 1)) (lv' := [(6, .int ((nI k) + 1)), (0, .ref (q 1)), (1, .int bs), (2, .int fr), (3, .int to0), (4, .long (orL (sSold F bs fr to0) (fun k => bit1 (nI k)) k))]) hx hb dX2_soldOf_61 hl (k := 5) rfl rfl (by decide) rfl (fun ls hl => ?_)
            refine lv_goto (tgt := 6) hx hb dX2_soldOf_64 (by decide) ?_
            have h_17 : (orL (sSold F bs fr to0) (fun k => bit1 (nI k)) k) = (orL (sSold F bs fr to0) (fun k => bit1 (nI k)) (k + 1)) := (by first | with_reducible rfl | simp [orL, sSold, bit1, rg, c_3, c_4, b_9, c_10, c_14, c_15, c_16])
            have h_18 : ((nI k) + 1) = (nI (k + 1)) := (nI_1 _)
            exact ih _ (lv_cast (lv_sub (l' := [(0, .ref (q 1)), (1, .int bs), (2, .int fr), (3, .int to0), (4, .long (orL (sSold F bs fr to0) (fun k => bit1 (nI k)) k)), (6, .int ((nI k) + 1))]) hl [1, 2, 3, 4, 5, 0] rfl) (cg2 (fun z17 z18 => [(0, .ref (q 1)), (1, .int bs), (2, .int fr), (3, .int to0), (4, .long z17), (6, .int z18)]) h_17 h_18))
          · have c_19 := i_nlt c_15
            refine lv_lload hx hb dX2_soldOf_52 (lv_at hl 4 rfl) ?_
            refine lv_lconst (v := 1) hx hb dX2_soldOf_54 (by decide) ?_
            refine lv_iload hx hb dX2_soldOf_55 (lv_at hl 5 rfl) ?_
            refine lv_lshl (v := (1 <<< (Int32.toInt64 (nI k) &&& 63))) hx hb dX2_soldOf_57 rfl ?_
            refine lv_lor hx hb dX2_soldOf_58 ?_
            refine lv_lstore (lv' := [(4, .long ((orL (sSold F bs fr to0) (fun k => bit1 (nI k)) k) ||| ((1 <<< (Int32.toInt64 (nI k) &&& 63))))), (0, .ref (q 1)), (1, .int bs), (2, .int fr), (3, .int to0), (6, .int (nI k))]) hx hb dX2_soldOf_59 hl (by decide) rfl (fun ls hl => ?_)
            refine lv_iinc (v := ((nI k) + 1)) (lv' := [(6, .int ((nI k) + 1)), (4, .long ((orL (sSold F bs fr to0) (fun k => bit1 (nI k)) k) ||| ((1 <<< (Int32.toInt64 (nI k) &&& 63))))), (0, .ref (q 1)), (1, .int bs), (2, .int fr), (3, .int to0)]) hx hb dX2_soldOf_61 hl (k := 5) rfl rfl (by decide) rfl (fun ls hl => ?_)
            refine lv_goto (tgt := 6) hx hb dX2_soldOf_64 (by decide) ?_
            have h_20 : ((orL (sSold F bs fr to0) (fun k => bit1 (nI k)) k) ||| ((1 <<< (Int32.toInt64 (nI k) &&& 63)))) = (orL (sSold F bs fr to0) (fun k => bit1 (nI k)) (k + 1)) := (by first | with_reducible rfl | simp [orL, sSold, bit1, rg, c_3, c_4, b_9, c_10, c_14, c_15, c_19])
            have h_21 : ((nI k) + 1) = (nI (k + 1)) := (nI_1 _)
            exact ih _ (lv_cast (lv_sub (l' := [(0, .ref (q 1)), (1, .int bs), (2, .int fr), (3, .int to0), (4, .long ((orL (sSold F bs fr to0) (fun k => bit1 (nI k)) k) ||| ((1 <<< (Int32.toInt64 (nI k) &&& 63))))), (6, .int ((nI k) + 1))]) hl [2, 3, 4, 5, 1, 0] rfl) (cg2 (fun z20 z21 => [(0, .ref (q 1)), (1, .int bs), (2, .int fr), (3, .int to0), (4, .long z20), (6, .int z21)]) h_20 h_21))
set_option maxHeartbeats 4000000 in
set_option maxRecDepth 100000 in
/-- X2_ofBatch -/
theorem c_X2_ofBatch (l : Launch) (D : va_G) (cs : Nat → ClassId) (q : Nat → Nat) (F : Nat → Nat → Int32) (n c : Nat) (x : Int32) (hI : Inv F n c) : Met l yX2_ofBatch wsX2_ofBatch ({ frames := 2, cells := 0, slots := 0, locals := 48 }) (va_Pc [.ref (q 1), .int x] (pw D cs (tW q cs F n))) (vp_Sl (fun r => r = (orL (sSold F ((1 : Int32) <<< (x &&& 31)) 0 119) (fun k => bit1 (nI k)) n))) 0 0 (fun _ => False) := by
  refine Met.ofW (cc := cX2_ofBatch) (maxL := 2) (ret := (some .long)) (by decide) rfl ?_
  intro p e s m args below meth c_ s₁ B hml hv
  obtain ⟨rfl, hP, hK, hN⟩ := hv
  have hx := B.exec
  have hb := B.bytes
  have hr := B.returns
  have hts := atoms_spec (ws := wsX2_ofBatch) B.pre
  have hown : s.vm.findClass RX2 = some m.cls := findClass_of_methodNamed B.named
  have hlocks := B.notSynchronized
  have hl := lv_entry ([.ref (q 1), .int x]) (n := 2) (Nat.le_of_ble_eq_true rfl)
  rw [lg_entry_eq]
  generalize (lg_sl ([.ref (q 1), .int x]) ++ List.replicate (2 - (lg_sl ([.ref (q 1), .int x])).length) Slot.unset).toArray = ls at hl ⊢
  have hl : lv_has ls 2 [(0, .ref (q 1)), (1, .int x)] := hl
  have hn60 := hI.n60
  have hc100 := hI.c100
  refine lv_aload_n hx hb dX2_ofBatch_0 rfl (lv_at hl 0 rfl) ?_
  refine lv_iconst (v := 1) hx hb dX2_ofBatch_1 (by decide) ?_
  refine lv_iload_n hx hb dX2_ofBatch_2 rfl (lv_at hl 1 rfl) ?_
  refine lv_ishl hx hb dX2_ofBatch_3 ?_
  refine lv_iconst (v := 0) hx hb dX2_ofBatch_4 (by decide) ?_
  refine lv_bipush (v := 119) hx hb dX2_ofBatch_5 (by decide) ?_
  refine roVl (As := [.int (1 <<< (x &&& 31)), .int 0, .int 119]) (rest := []) (v := (orL (sSold F (1 <<< (x &&& 31)) 0 119) (fun k => bit1 (nI k)) n)) ⟨hx, hb, hml, hown, hts⟩ (c_X2_soldOf l D cs q F n c (1 <<< (x &&& 31)) 0 119 hI) (cwV 3 hts gX2_ofBatch_X2_soldOf rfl rfl rfl (by decide +kernel) ⟨Nat.le_of_ble_eq_true rfl, Nat.le_of_ble_eq_true rfl⟩) hP hK hN 0 rfl rfl rfl hl.1 rfl (Nat.le_of_ble_eq_true rfl) dX2_ofBatch_7 ⟨Nat.zero_le _, Nat.zero_le _⟩ ?_
  exact W.lret (v := (orL (sSold F (1 <<< (x &&& 31)) 0 119) (fun k => bit1 (nI k)) n)) hx hb hr (fun t9 ht9 hW9 => ⟨(orL (sSold F (1 <<< (x &&& 31)) 0 119) (fun k => bit1 (nI k)) n), rfl, (by first | with_reducible rfl | simp []), ht9⟩) (fun _ h => by cases h) dX2_ofBatch_10
set_option maxHeartbeats 4000000 in
set_option maxRecDepth 100000 in
/-- X2_digestOnto -/
theorem c_X2_digestOnto (l : Launch) (D : va_G) (cs : Nat → ClassId) (q : Nat → Nat) (F : Nat → Nat → Int32) (n c : Nat) (h0 : Int64) (hI : Inv F n c) : Met l yX2_digestOnto wsX2_digestOnto ({ frames := 2, cells := 0, slots := 0, locals := 54 }) (va_Pc [.ref (q 1), .long h0] (pw D cs (tW q cs F n))) (vp_Sl (fun r => r = (dgT F h0 n))) 0 0 (fun _ => False) := by
  refine Met.ofW (cc := cX2_digestOnto) (maxL := 6) (ret := (some .long)) (by decide) rfl ?_
  intro p e s m args below meth c_ s₁ B hml hv
  obtain ⟨rfl, hP, hK, hN⟩ := hv
  have hx := B.exec
  have hb := B.bytes
  have hr := B.returns
  have hts := atoms_spec (ws := wsX2_digestOnto) B.pre
  have hown : s.vm.findClass RX2 = some m.cls := findClass_of_methodNamed B.named
  have hlocks := B.notSynchronized
  have hl := lv_entry ([.ref (q 1), .long h0]) (n := 6) (Nat.le_of_ble_eq_true rfl)
  rw [lg_entry_eq]
  generalize (lg_sl ([.ref (q 1), .long h0]) ++ List.replicate (6 - (lg_sl ([.ref (q 1), .long h0])).length) Slot.unset).toArray = ls at hl ⊢
  have hl : lv_has ls 6 [(0, .ref (q 1)), (1, .long h0)] := hl
  have hn60 := hI.n60
  have hc100 := hI.c100
  refine lv_lload_n hx hb dX2_digestOnto_0 rfl (lv_at hl 1 rfl) ?_
  refine lv_lstore_n (lv' := [(3, .long h0), (0, .ref (q 1)), (1, .long h0)]) hx hb dX2_digestOnto_1 rfl hl (by decide) rfl (fun ls hl => ?_)
  refine lv_iconst (v := 0) hx hb dX2_digestOnto_2 (by decide) ?_
  refine lv_istore (lv' := [(5, .int 0), (3, .long h0), (0, .ref (q 1)), (1, .long h0)]) hx hb dX2_digestOnto_3 hl (by decide) rfl (fun ls hl => ?_)
  refine lpW (fun k ls => lv_has ls 6 [(0, .ref (q 1)), (1, .long h0), (3, .long (dgT F h0 k)), (5, .int (nI k))]) n 0 (Nat.zero_le _) ls (show lv_has ls 6 [(0, .ref (q 1)), (1, .long h0), (3, .long (dgT F h0 0)), (5, .int (nI 0))] from lv_sub hl [2, 3, 1, 0] rfl) ?_ ?_
  · intro ls hl
    have hl : lv_has ls 6 [(0, .ref (q 1)), (1, .long h0), (3, .long (dgT F h0 n)), (5, .int (nI n))] := hl
    refine lv_iload hx hb dX2_digestOnto_5 (lv_at hl 3 rfl) ?_
    refine lv_aload_n hx hb dX2_digestOnto_7 rfl (lv_at hl 0 rfl) ?_
    refine va_get (D := D) (ci := 2) (v := .int (nI n)) (C := RX2) (T := TX2) (N := 7) hx hb hts (fun _ h => List.mem_cons_of_mem _ (List.mem_append_right _ h)) hown hK hP 0 rfl rfl 6 (by decide) (hts (.fieldLink RX2 30 "UnderPromise$Things" "size" "I") (List.mem_of_getElem? (i := 1) rfl)) (fun _ h9 => h9) rfl dX2_digestOnto_8 ?_
    refine lv_icmp_ge (tgt := 94) hx hb dX2_digestOnto_11 (by decide) (fun c_1 => ?_) (fun c_1 => ?_)
    · have c_2 := i_le c_1
      refine lv_lload_n hx hb dX2_digestOnto_94 rfl (lv_at hl 2 rfl) ?_
      exact W.lret (v := (dgT F h0 n)) hx hb hr (fun t9 ht9 hW9 => ⟨(dgT F h0 n), rfl, rfl, ht9⟩) (fun _ h => by cases h) dX2_digestOnto_95
    · exact absurd (nI_le (Nat.le_refl _) (by omega)) c_1
  · intro k hk0 hk ih ls hl
    have hl : lv_has ls 6 [(0, .ref (q 1)), (1, .long h0), (3, .long (dgT F h0 k)), (5, .int (nI k))] := hl
    refine lv_iload hx hb dX2_digestOnto_5 (lv_at hl 3 rfl) ?_
    refine lv_aload_n hx hb dX2_digestOnto_7 rfl (lv_at hl 0 rfl) ?_
    refine va_get (D := D) (ci := 2) (v := .int (nI n)) (C := RX2) (T := TX2) (N := 7) hx hb hts (fun _ h => List.mem_cons_of_mem _ (List.mem_append_right _ h)) hown hK hP 0 rfl rfl 6 (by decide) (hts (.fieldLink RX2 30 "UnderPromise$Things" "size" "I") (List.mem_of_getElem? (i := 1) rfl)) (fun _ h9 => h9) rfl dX2_digestOnto_8 ?_
    refine lv_icmp_ge (tgt := 94) hx hb dX2_digestOnto_11 (by decide) (fun c_3 => ?_) (fun c_3 => ?_)
    · exact absurd c_3 (nI_ge hk (by omega))
    · have c_4 := i_nle c_3
      refine lv_ldc2 (v := 31) hx hb hown (hts (.constantLong RX2 53 (31)) (List.mem_of_getElem? (i := 2) rfl)) dX2_digestOnto_14 ?_
      refine lv_lload_n hx hb dX2_digestOnto_17 rfl (lv_at hl 2 rfl) ?_
      refine lv_lmul hx hb dX2_digestOnto_18 ?_
      refine lv_aload_n hx hb dX2_digestOnto_19 rfl (lv_at hl 0 rfl) ?_
      refine va_get (D := D) (ci := 2) (v := .ref (q 10)) (C := RX2) (T := TX2) (N := 7) hx hb hts (fun _ h => List.mem_cons_of_mem _ (List.mem_append_right _ h)) hown hK hP 0 rfl rfl 0 (by decide) (hts (.fieldLink RX2 9 "UnderPromise$Things" "batch" "[I") (List.mem_of_getElem? (i := 3) rfl)) (fun _ h9 => h9) rfl dX2_digestOnto_20 ?_
      refine lv_iload hx hb dX2_digestOnto_23 (lv_at hl 3 rfl) ?_
      refine iaK (v := (F 0 k)) hx hb hK hP 1 0 rfl rfl k (vp_in_nI (by omega) (by decide)) (nI_clamp (by omega)) rfl dX2_digestOnto_25 ?_
      refine lv_i2l (v := (Int32.toInt64 (F 0 k))) hx hb dX2_digestOnto_26 rfl ?_
      refine lv_ladd hx hb dX2_digestOnto_27 ?_
      refine lv_lstore_n (lv' := [(3, .long ((31 * (dgT F h0 k)) + (Int32.toInt64 (F 0 k)))), (0, .ref (q 1)), (1, .long h0), (5, .int (nI k))]) hx hb dX2_digestOnto_28 rfl hl (by decide) rfl (fun ls hl => ?_)
      refine lv_ldc2 (v := 31) hx hb hown (hts (.constantLong RX2 53 (31)) (List.mem_of_getElem? (i := 2) rfl)) dX2_digestOnto_29 ?_
      refine lv_lload_n hx hb dX2_digestOnto_32 rfl (lv_at hl 0 rfl) ?_
      refine lv_lmul hx hb dX2_digestOnto_33 ?_
      refine lv_aload_n hx hb dX2_digestOnto_34 rfl (lv_at hl 1 rfl) ?_
      refine va_get (D := D) (ci := 2) (v := .ref (q 11)) (C := RX2) (T := TX2) (N := 7) hx hb hts (fun _ h => List.mem_cons_of_mem _ (List.mem_append_right _ h)) hown hK hP 0 rfl rfl 1 (by decide) (hts (.fieldLink RX2 15 "UnderPromise$Things" "sold" "[I") (List.mem_of_getElem? (i := 4) rfl)) (fun _ h9 => h9) rfl dX2_digestOnto_35 ?_
      refine lv_iload hx hb dX2_digestOnto_38 (lv_at hl 3 rfl) ?_
      refine iaK (v := (F 1 k)) hx hb hK hP 2 0 rfl rfl k (vp_in_nI (by omega) (by decide)) (nI_clamp (by omega)) rfl dX2_digestOnto_40 ?_
      refine lv_i2l (v := (Int32.toInt64 (F 1 k))) hx hb dX2_digestOnto_41 rfl ?_
      refine lv_ladd hx hb dX2_digestOnto_42 ?_
      refine lv_lstore_n (lv' := [(3, .long ((31 * ((31 * (dgT F h0 k)) + (Int32.toInt64 (F 0 k)))) + (Int32.toInt64 (F 1 k)))), (0, .ref (q 1)), (1, .long h0), (5, .int (nI k))]) hx hb dX2_digestOnto_43 rfl hl (by decide) rfl (fun ls hl => ?_)
      refine lv_ldc2 (v := 31) hx hb hown (hts (.constantLong RX2 53 (31)) (List.mem_of_getElem? (i := 2) rfl)) dX2_digestOnto_44 ?_
      refine lv_lload_n hx hb dX2_digestOnto_47 rfl (lv_at hl 0 rfl) ?_
      refine lv_lmul hx hb dX2_digestOnto_48 ?_
      refine lv_aload_n hx hb dX2_digestOnto_49 rfl (lv_at hl 1 rfl) ?_
      refine va_get (D := D) (ci := 2) (v := .ref (q 12)) (C := RX2) (T := TX2) (N := 7) hx hb hts (fun _ h => List.mem_cons_of_mem _ (List.mem_append_right _ h)) hown hK hP 0 rfl rfl 2 (by decide) (hts (.fieldLink RX2 18 "UnderPromise$Things" "miles" "[I") (List.mem_of_getElem? (i := 5) rfl)) (fun _ h9 => h9) rfl dX2_digestOnto_50 ?_
      refine lv_iload hx hb dX2_digestOnto_53 (lv_at hl 3 rfl) ?_
      refine iaK (v := (F 2 k)) hx hb hK hP 3 0 rfl rfl k (vp_in_nI (by omega) (by decide)) (nI_clamp (by omega)) rfl dX2_digestOnto_55 ?_
      refine lv_i2l (v := (Int32.toInt64 (F 2 k))) hx hb dX2_digestOnto_56 rfl ?_
      refine lv_ladd hx hb dX2_digestOnto_57 ?_
      refine lv_lstore_n (lv' := [(3, .long ((31 * ((31 * ((31 * (dgT F h0 k)) + (Int32.toInt64 (F 0 k)))) + (Int32.toInt64 (F 1 k)))) + (Int32.toInt64 (F 2 k)))), (0, .ref (q 1)), (1, .long h0), (5, .int (nI k))]) hx hb dX2_digestOnto_58 rfl hl (by decide) rfl (fun ls hl => ?_)
      refine lv_ldc2 (v := 31) hx hb hown (hts (.constantLong RX2 53 (31)) (List.mem_of_getElem? (i := 2) rfl)) dX2_digestOnto_59 ?_
      refine lv_lload_n hx hb dX2_digestOnto_62 rfl (lv_at hl 0 rfl) ?_
      refine lv_lmul hx hb dX2_digestOnto_63 ?_
      refine lv_aload_n hx hb dX2_digestOnto_64 rfl (lv_at hl 1 rfl) ?_
      refine va_get (D := D) (ci := 2) (v := .ref (q 13)) (C := RX2) (T := TX2) (N := 7) hx hb hts (fun _ h => List.mem_cons_of_mem _ (List.mem_append_right _ h)) hown hK hP 0 rfl rfl 3 (by decide) (hts (.fieldLink RX2 21 "UnderPromise$Things" "land" "[I") (List.mem_of_getElem? (i := 6) rfl)) (fun _ h9 => h9) rfl dX2_digestOnto_65 ?_
      refine lv_iload hx hb dX2_digestOnto_68 (lv_at hl 3 rfl) ?_
      refine iaK (v := (F 3 k)) hx hb hK hP 4 0 rfl rfl k (vp_in_nI (by omega) (by decide)) (nI_clamp (by omega)) rfl dX2_digestOnto_70 ?_
      refine lv_i2l (v := (Int32.toInt64 (F 3 k))) hx hb dX2_digestOnto_71 rfl ?_
      refine lv_ladd hx hb dX2_digestOnto_72 ?_
      refine lv_lstore_n (lv' := [(3, .long ((31 * ((31 * ((31 * ((31 * (dgT F h0 k)) + (Int32.toInt64 (F 0 k)))) + (Int32.toInt64 (F 1 k)))) + (Int32.toInt64 (F 2 k)))) + (Int32.toInt64 (F 3 k)))), (0, .ref (q 1)), (1, .long h0), (5, .int (nI k))]) hx hb dX2_digestOnto_73 rfl hl (by decide) rfl (fun ls hl => ?_)
      refine lv_ldc2 (v := 31) hx hb hown (hts (.constantLong RX2 53 (31)) (List.mem_of_getElem? (i := 2) rfl)) dX2_digestOnto_74 ?_
      refine lv_lload_n hx hb dX2_digestOnto_77 rfl (lv_at hl 0 rfl) ?_
      refine lv_lmul hx hb dX2_digestOnto_78 ?_
      refine lv_aload_n hx hb dX2_digestOnto_79 rfl (lv_at hl 1 rfl) ?_
      refine lv_iload hx hb dX2_digestOnto_80 (lv_at hl 3 rfl) ?_
      refine roVi (As := [.int (nI k)]) (rest := [.long (31 * ((31 * ((31 * ((31 * ((31 * (dgT F h0 k)) + (Int32.toInt64 (F 0 k)))) + (Int32.toInt64 (F 1 k)))) + (Int32.toInt64 (F 2 k)))) + (Int32.toInt64 (F 3 k))))]) (v := (sLast F k)) ⟨hx, hb, hml, hown, hts⟩ (c_X2_lastCovered l D cs q F n c k hI (by omega)) (cwV 1 hts gX2_digestOnto_X2_lastCovered rfl rfl rfl (by decide +kernel) ⟨Nat.le_of_ble_eq_true rfl, Nat.le_of_ble_eq_true rfl⟩) hP hK hN 0 rfl rfl rfl hl.1 rfl (Nat.le_of_ble_eq_true rfl) dX2_digestOnto_82 ⟨Nat.zero_le _, Nat.zero_le _⟩ ?_
      refine lv_i2l (v := (Int32.toInt64 (sLast F k))) hx hb dX2_digestOnto_85 rfl ?_
      refine lv_ladd hx hb dX2_digestOnto_86 ?_
      refine lv_lstore_n (lv' := [(3, .long ((31 * ((31 * ((31 * ((31 * ((31 * (dgT F h0 k)) + (Int32.toInt64 (F 0 k)))) + (Int32.toInt64 (F 1 k)))) + (Int32.toInt64 (F 2 k)))) + (Int32.toInt64 (F 3 k)))) + (Int32.toInt64 (sLast F k)))), (0, .ref (q 1)), (1, .long h0), (5, .int (nI k))]) hx hb dX2_digestOnto_87 rfl hl (by decide) rfl (fun ls hl => ?_)
      refine lv_iinc (v := ((nI k) + 1)) (lv' := [(5, .int ((nI k) + 1)), (3, .long ((31 * ((31 * ((31 * ((31 * ((31 * (dgT F h0 k)) + (Int32.toInt64 (F 0 k)))) + (Int32.toInt64 (F 1 k)))) + (Int32.toInt64 (F 2 k)))) + (Int32.toInt64 (F 3 k)))) + (Int32.toInt64 (sLast F k)))), (0, .ref (q 1)), (1, .long h0)]) hx hb dX2_digestOnto_88 hl (k := 3) rfl rfl (by decide) rfl (fun ls hl => ?_)
      refine lv_goto (tgt := 5) hx hb dX2_digestOnto_91 (by decide) ?_
      have h_5 : ((31 * ((31 * ((31 * ((31 * ((31 * (dgT F h0 k)) + (Int32.toInt64 (F 0 k)))) + (Int32.toInt64 (F 1 k)))) + (Int32.toInt64 (F 2 k)))) + (Int32.toInt64 (F 3 k)))) + (Int32.toInt64 (sLast F k))) = (dgT F h0 (k + 1)) := rfl
      have h_6 : ((nI k) + 1) = (nI (k + 1)) := (nI_1 _)
      exact ih _ (lv_cast (lv_sub (l' := [(0, .ref (q 1)), (1, .long h0), (3, .long ((31 * ((31 * ((31 * ((31 * ((31 * (dgT F h0 k)) + (Int32.toInt64 (F 0 k)))) + (Int32.toInt64 (F 1 k)))) + (Int32.toInt64 (F 2 k)))) + (Int32.toInt64 (F 3 k)))) + (Int32.toInt64 (sLast F k)))), (5, .int ((nI k) + 1))]) hl [2, 3, 1, 0] rfl) (cg2 (fun z5 z6 => [(0, .ref (q 1)), (1, .long h0), (3, .long z5), (5, .int z6)]) h_5 h_6))
