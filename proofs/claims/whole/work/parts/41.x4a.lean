set_option maxHeartbeats 4000000 in
set_option maxRecDepth 100000 in
/-- X4_promised -/
theorem c_X4_promised (l : Launch) (D : va_G) (cs : Nat → ClassId) (q : Nat → Nat) (F : Nat → Nat → Int32) (n c : Nat) (g : Int32) (x : Int32) (mo : Int32) (hI : Inv F n c) : Met l yX4_promised wsX4_promised ({ frames := 2, cells := 0, slots := 0, locals := 42 }) (va_Pc [.ref (q 0), .int x, .int mo] (pw D cs (xW q cs F n c g))) (vp_Si (fun r => r = (aPromised F n x mo))) 0 0 (fun _ => False) := by
  refine Met.ofW (cc := cX4_promised) (maxL := 3) (ret := (some .int)) (by decide) rfl ?_
  intro p e s m args below meth c_ s₁ B hml hv
  obtain ⟨rfl, hP, hK, hN⟩ := hv
  have hx := B.exec
  have hb := B.bytes
  have hr := B.returns
  have hts := atoms_spec (ws := wsX4_promised) B.pre
  have hown : s.vm.findClass RX4 = some m.cls := findClass_of_methodNamed B.named
  have hlocks := B.notSynchronized
  have hl := lv_entry ([.ref (q 0), .int x, .int mo]) (n := 3) (Nat.le_of_ble_eq_true rfl)
  rw [lg_entry_eq]
  generalize (lg_sl ([.ref (q 0), .int x, .int mo]) ++ List.replicate (3 - (lg_sl ([.ref (q 0), .int x, .int mo])).length) Slot.unset).toArray = ls at hl ⊢
  have hl : lv_has ls 3 [(0, .ref (q 0)), (1, .int x), (2, .int mo)] := hl
  have hPo := va_P_l hP
  have hPt := va_P_l (va_P_r hP)
  have hPc := va_P_l (va_P_r (va_P_r hP))
  have hPp := va_P_l (va_P_r (va_P_r (va_P_r hP)))
  have hPw := va_P_r (va_P_r (va_P_r (va_P_r hP)))
  have hn60 := hI.n60
  have hc100 := hI.c100
  refine lv_aload_n hx hb dX4_promised_0 rfl (lv_at hl 0 rfl) ?_
  refine va_get (D := D) (ci := 4) (v := .ref (q 1)) (C := RX4) (T := TX4) (N := 5) hx hb hts (fun _ h => List.mem_cons_of_mem _ (List.mem_append_left _ (List.mem_append_right _ h))) hown hK hPo 0 rfl rfl 0 (by decide) (hts (.fieldLink RX4 12 "UnderPromise" "things" "LUnderPromise$Things;") (List.mem_of_getElem? (i := 1) rfl)) (fun _ h9 => h9) rfl dX4_promised_1 ?_
  refine lv_iload_n hx hb dX4_promised_4 rfl (lv_at hl 1 rfl) ?_
  refine roVi (As := [.int x]) (rest := []) (v := (bI (hasT n x))) ⟨hx, hb, hml, hown, hts⟩ (c_X2_has l D cs q F n c x hI) (cwV 1 hts gX4_promised_X2_has rfl rfl rfl (by decide +kernel) ⟨Nat.le_of_ble_eq_true rfl, Nat.le_of_ble_eq_true rfl⟩) hPt hK hN 0 rfl rfl rfl hl.1 rfl (Nat.le_of_ble_eq_true rfl) dX4_promised_5 ⟨Nat.zero_le _, Nat.zero_le _⟩ ?_
  refine lv_if_eq (tgt := 18) hx hb dX4_promised_8 (by decide) (fun c_1 => ?_) (fun c_1 => ?_)
  · have b_2 : (hasT n x) = false := bI_f c_1
    refine lv_bipush (v := (-2)) hx hb dX4_promised_18 (by decide) ?_
    exact W.iret (v := (-2)) hx hb hr (fun t9 ht9 hW9 => ⟨(-2), rfl, (by first | with_reducible rfl | simp [aPromised, bI, b_2]), ht9⟩) (fun _ h => by cases h) dX4_promised_20
  · have b_3 : (hasT n x) = true := bI_t c_1
    obtain ⟨t, ht, rfl⟩ := hasT_nat hn60 b_3
    have x_4 : ix (nI t) = t := nI_clamp (by omega)
    refine lv_iload_n hx hb dX4_promised_11 rfl (lv_at hl 2 rfl) ?_
    refine roSi (As := [.int mo]) (rest := []) (v := (bI (rg mo 0 300))) ⟨hx, hb, hml, hown, hts⟩ (c_X4_isMonth l mo) (va_cwS 1 hts gX4_promised_X4_isMonth rfl rfl rfl (by decide +kernel) ⟨Nat.le_of_ble_eq_true rfl, Nat.le_of_ble_eq_true rfl⟩) rfl hl.1 rfl (Nat.le_of_ble_eq_true rfl) dX4_promised_12 ⟨Nat.zero_le _, Nat.zero_le _⟩ ?_
    refine lv_if_ne (tgt := 21) hx hb dX4_promised_15 (by decide) (fun c_5 => ?_) (fun c_5 => ?_)
    · have b_6 : (rg mo 0 300) = true := bI_t c_5
      refine lv_aload_n hx hb dX4_promised_21 rfl (lv_at hl 0 rfl) ?_
      refine va_get (D := D) (ci := 4) (v := .ref (q 1)) (C := RX4) (T := TX4) (N := 5) hx hb hts (fun _ h => List.mem_cons_of_mem _ (List.mem_append_left _ (List.mem_append_right _ h))) hown hK hPo 0 rfl rfl 0 (by decide) (hts (.fieldLink RX4 12 "UnderPromise" "things" "LUnderPromise$Things;") (List.mem_of_getElem? (i := 1) rfl)) (fun _ h9 => h9) rfl dX4_promised_22 ?_
      refine lv_iload_n hx hb dX4_promised_25 rfl (lv_at hl 1 rfl) ?_
      refine lv_iload_n hx hb dX4_promised_26 rfl (lv_at hl 2 rfl) ?_
      refine roVi (As := [.int (nI t), .int mo]) (rest := []) (v := (bI (sProm F t mo))) ⟨hx, hb, hml, hown, hts⟩ (c_X2_covers l D cs q F n c t mo hI (by omega)) (cwV 2 hts gX4_promised_X2_covers rfl rfl rfl (by decide +kernel) ⟨Nat.le_of_ble_eq_true rfl, Nat.le_of_ble_eq_true rfl⟩) hPt hK hN 0 rfl rfl rfl hl.1 rfl (Nat.le_of_ble_eq_true rfl) dX4_promised_27 ⟨Nat.zero_le _, Nat.zero_le _⟩ ?_
      refine lv_if_eq (tgt := 37) hx hb dX4_promised_30 (by decide) (fun c_7 => ?_) (fun c_7 => ?_)
      · have b_8 : (sProm F t mo) = false := bI_f c_7
        refine lv_iconst (v := 0) hx hb dX4_promised_37 (by decide) ?_
        exact W.iret (v := 0) hx hb hr (fun t9 ht9 hW9 => ⟨0, rfl, (by first | with_reducible rfl | simp [aPromised, bI, x_4, b_3, b_6, b_8]), ht9⟩) (fun _ h => by cases h) dX4_promised_38
      · have b_9 : (sProm F t mo) = true := bI_t c_7
        refine lv_iconst (v := 1) hx hb dX4_promised_33 (by decide) ?_
        refine lv_goto (tgt := 38) hx hb dX4_promised_34 (by decide) ?_
        exact W.iret (v := 1) hx hb hr (fun t9 ht9 hW9 => ⟨1, rfl, (by first | with_reducible rfl | simp [aPromised, bI, x_4, b_3, b_6, b_9]), ht9⟩) (fun _ h => by cases h) dX4_promised_38
    · have b_10 : (rg mo 0 300) = false := bI_f c_5
      refine lv_bipush (v := (-2)) hx hb dX4_promised_18 (by decide) ?_
      exact W.iret (v := (-2)) hx hb hr (fun t9 ht9 hW9 => ⟨(-2), rfl, (by first | with_reducible rfl | simp [aPromised, bI, x_4, b_3, b_10]), ht9⟩) (fun _ h => by cases h) dX4_promised_20
set_option maxHeartbeats 4000000 in
set_option maxRecDepth 100000 in
/-- X4_last -/
theorem c_X4_last (l : Launch) (D : va_G) (cs : Nat → ClassId) (q : Nat → Nat) (F : Nat → Nat → Int32) (n c : Nat) (g : Int32) (x : Int32) (hI : Inv F n c) : Met l yX4_last wsX4_last ({ frames := 2, cells := 0, slots := 0, locals := 54 }) (va_Pc [.ref (q 0), .int x] (pw D cs (xW q cs F n c g))) (vp_Si (fun r => r = (if hasT n x = true then sLast F (ix x) else -2))) 0 0 (fun _ => False) := by
  refine Met.ofW (cc := cX4_last) (maxL := 2) (ret := (some .int)) (by decide) rfl ?_
  intro p e s m args below meth c_ s₁ B hml hv
  obtain ⟨rfl, hP, hK, hN⟩ := hv
  have hx := B.exec
  have hb := B.bytes
  have hr := B.returns
  have hts := atoms_spec (ws := wsX4_last) B.pre
  have hown : s.vm.findClass RX4 = some m.cls := findClass_of_methodNamed B.named
  have hlocks := B.notSynchronized
  have hl := lv_entry ([.ref (q 0), .int x]) (n := 2) (Nat.le_of_ble_eq_true rfl)
  rw [lg_entry_eq]
  generalize (lg_sl ([.ref (q 0), .int x]) ++ List.replicate (2 - (lg_sl ([.ref (q 0), .int x])).length) Slot.unset).toArray = ls at hl ⊢
  have hl : lv_has ls 2 [(0, .ref (q 0)), (1, .int x)] := hl
  have hPo := va_P_l hP
  have hPt := va_P_l (va_P_r hP)
  have hPc := va_P_l (va_P_r (va_P_r hP))
  have hPp := va_P_l (va_P_r (va_P_r (va_P_r hP)))
  have hPw := va_P_r (va_P_r (va_P_r (va_P_r hP)))
  have hn60 := hI.n60
  have hc100 := hI.c100
  refine lv_aload_n hx hb dX4_last_0 rfl (lv_at hl 0 rfl) ?_
  refine va_get (D := D) (ci := 4) (v := .ref (q 1)) (C := RX4) (T := TX4) (N := 5) hx hb hts (fun _ h => List.mem_cons_of_mem _ (List.mem_append_left _ (List.mem_append_right _ h))) hown hK hPo 0 rfl rfl 0 (by decide) (hts (.fieldLink RX4 12 "UnderPromise" "things" "LUnderPromise$Things;") (List.mem_of_getElem? (i := 1) rfl)) (fun _ h9 => h9) rfl dX4_last_1 ?_
  refine lv_iload_n hx hb dX4_last_4 rfl (lv_at hl 1 rfl) ?_
  refine roVi (As := [.int x]) (rest := []) (v := (bI (hasT n x))) ⟨hx, hb, hml, hown, hts⟩ (c_X2_has l D cs q F n c x hI) (cwV 1 hts gX4_last_X2_has rfl rfl rfl (by decide +kernel) ⟨Nat.le_of_ble_eq_true rfl, Nat.le_of_ble_eq_true rfl⟩) hPt hK hN 0 rfl rfl rfl hl.1 rfl (Nat.le_of_ble_eq_true rfl) dX4_last_5 ⟨Nat.zero_le _, Nat.zero_le _⟩ ?_
  refine lv_if_eq (tgt := 22) hx hb dX4_last_8 (by decide) (fun c_1 => ?_) (fun c_1 => ?_)
  · have b_2 : (hasT n x) = false := bI_f c_1
    refine lv_bipush (v := (-2)) hx hb dX4_last_22 (by decide) ?_
    exact W.iret (v := (-2)) hx hb hr (fun t9 ht9 hW9 => ⟨(-2), rfl, (by first | with_reducible rfl | simp [b_2]), ht9⟩) (fun _ h => by cases h) dX4_last_24
  · have b_3 : (hasT n x) = true := bI_t c_1
    obtain ⟨t, ht, rfl⟩ := hasT_nat hn60 b_3
    have x_4 : ix (nI t) = t := nI_clamp (by omega)
    refine lv_aload_n hx hb dX4_last_11 rfl (lv_at hl 0 rfl) ?_
    refine va_get (D := D) (ci := 4) (v := .ref (q 1)) (C := RX4) (T := TX4) (N := 5) hx hb hts (fun _ h => List.mem_cons_of_mem _ (List.mem_append_left _ (List.mem_append_right _ h))) hown hK hPo 0 rfl rfl 0 (by decide) (hts (.fieldLink RX4 12 "UnderPromise" "things" "LUnderPromise$Things;") (List.mem_of_getElem? (i := 1) rfl)) (fun _ h9 => h9) rfl dX4_last_12 ?_
    refine lv_iload_n hx hb dX4_last_15 rfl (lv_at hl 1 rfl) ?_
    refine roVi (As := [.int (nI t)]) (rest := []) (v := (sLast F t)) ⟨hx, hb, hml, hown, hts⟩ (c_X2_lastCovered l D cs q F n c t hI (by omega)) (cwV 1 hts gX4_last_X2_lastCovered rfl rfl rfl (by decide +kernel) ⟨Nat.le_of_ble_eq_true rfl, Nat.le_of_ble_eq_true rfl⟩) hPt hK hN 0 rfl rfl rfl hl.1 rfl (Nat.le_of_ble_eq_true rfl) dX4_last_16 ⟨Nat.zero_le _, Nat.zero_le _⟩ ?_
    refine lv_goto (tgt := 24) hx hb dX4_last_19 (by decide) ?_
    exact W.iret (v := (sLast F t)) hx hb hr (fun t9 ht9 hW9 => ⟨(sLast F t), rfl, (by first | with_reducible rfl | simp [x_4, b_3]), ht9⟩) (fun _ h => by cases h) dX4_last_24
set_option maxHeartbeats 4000000 in
set_option maxRecDepth 100000 in
/-- X4_judge -/
theorem c_X4_judge (l : Launch) (D : va_G) (cs : Nat → ClassId) (q : Nat → Nat) (F : Nat → Nat → Int32) (n c : Nat) (g : Int32) (t : Nat) (p0 : Int32) (mo : Int32) (hI : Inv F n c) (ht : t < n) : Met l yX4_judge wsX4_judge ({ frames := 1, cells := 0, slots := 0, locals := 26 }) (va_Pc [.ref (q 0), .int (nI t), .int p0, .int mo] (pw D cs (oW q g ++ (tW q cs F n ++ cW q cs F c)))) (vp_Si (fun r => r = (sJudge F c g t p0 mo))) 0 0 (fun _ => False) := by
  refine Met.ofW (cc := cX4_judge) (maxL := 4) (ret := (some .int)) (by decide) rfl ?_
  intro p e s m args below meth c_ s₁ B hml hv
  obtain ⟨rfl, hP, hK, hN⟩ := hv
  have hx := B.exec
  have hb := B.bytes
  have hr := B.returns
  have hts := atoms_spec (ws := wsX4_judge) B.pre
  have hown : s.vm.findClass RX4 = some m.cls := findClass_of_methodNamed B.named
  have hlocks := B.notSynchronized
  have hl := lv_entry ([.ref (q 0), .int (nI t), .int p0, .int mo]) (n := 4) (Nat.le_of_ble_eq_true rfl)
  rw [lg_entry_eq]
  generalize (lg_sl ([.ref (q 0), .int (nI t), .int p0, .int mo]) ++ List.replicate (4 - (lg_sl ([.ref (q 0), .int (nI t), .int p0, .int mo])).length) Slot.unset).toArray = ls at hl ⊢
  have hl : lv_has ls 4 [(0, .ref (q 0)), (1, .int (nI t)), (2, .int p0), (3, .int mo)] := hl
  have hPo := va_P_l hP
  have hPt := va_P_l (va_P_r hP)
  have hPc := va_P_r (va_P_r hP)
  have hn60 := hI.n60
  have hc100 := hI.c100
  refine lv_iload_n hx hb dX4_judge_0 rfl (lv_at hl 3 rfl) ?_
  refine lv_aload_n hx hb dX4_judge_1 rfl (lv_at hl 0 rfl) ?_
  refine va_get (D := D) (ci := 4) (v := .ref (q 1)) (C := RX4) (T := TX4) (N := 5) hx hb hts (fun _ h => List.mem_cons_of_mem _ (List.mem_append_left _ (List.mem_append_left _ (List.mem_append_right _ h)))) hown hK hPo 0 rfl rfl 0 (by decide) (hts (.fieldLink RX4 12 "UnderPromise" "things" "LUnderPromise$Things;") (List.mem_of_getElem? (i := 1) rfl)) (fun _ h9 => h9) rfl dX4_judge_2 ?_
  refine va_getN (D := D) (ci := 2) (v := .ref (q 11)) (C := RX2) (T := TX2) (N := 7) hx hb hts (fun _ h => List.mem_cons_of_mem _ (List.mem_append_left _ (List.mem_append_right _ h))) hown hK hPt 0 rfl rfl 1 (by decide) (va_Nw.use rfl hN.2.2.2.2.1) (fun _ h9 => h9) rfl dX4_judge_5 ?_
  refine lv_iload_n hx hb dX4_judge_8 rfl (lv_at hl 1 rfl) ?_
  refine iaK (v := (F 1 t)) hx hb hK hPt 2 0 rfl rfl t (vp_in_nI (by omega) (by decide)) (nI_clamp (by omega)) rfl dX4_judge_9 ?_
  refine lv_icmp_ge (tgt := 15) hx hb dX4_judge_10 (by decide) (fun c_1 => ?_) (fun c_1 => ?_)
  · have c_2 := i_le c_1
    refine lv_aload_n hx hb dX4_judge_15 rfl (lv_at hl 0 rfl) ?_
    refine va_get (D := D) (ci := 4) (v := .ref (q 2)) (C := RX4) (T := TX4) (N := 5) hx hb hts (fun _ h => List.mem_cons_of_mem _ (List.mem_append_left _ (List.mem_append_left _ (List.mem_append_right _ h)))) hown hK hPo 0 rfl rfl 1 (by decide) (hts (.fieldLink RX4 19 "UnderPromise" "claims" "LUnderPromise$Claims;") (List.mem_of_getElem? (i := 2) rfl)) (fun _ h9 => h9) rfl dX4_judge_16 ?_
    refine lv_iload_n hx hb dX4_judge_19 rfl (lv_at hl 1 rfl) ?_
    refine lv_iload_n hx hb dX4_judge_20 rfl (lv_at hl 2 rfl) ?_
    refine lv_iload_n hx hb dX4_judge_21 rfl (lv_at hl 3 rfl) ?_
    refine lv_iload_n hx hb dX4_judge_22 rfl (lv_at hl 3 rfl) ?_
    refine roVi (As := [.int (nI t), .int p0, .int mo, .int mo]) (rest := []) (v := (bI (anyB (sAny F (nI t) p0 mo mo) c))) ⟨hx, hb, hml, hown, hts⟩ (c_X0_anyLet l D cs q F n c (nI t) p0 mo mo hI) (cwV 4 hts gX4_judge_X0_anyLet rfl rfl rfl (by decide +kernel) ⟨Nat.le_of_ble_eq_true rfl, Nat.le_of_ble_eq_true rfl⟩) hPc hK hN 0 rfl rfl rfl hl.1 rfl (Nat.le_of_ble_eq_true rfl) dX4_judge_23 ⟨Nat.zero_le _, Nat.zero_le _⟩ ?_
    refine lv_if_eq (tgt := 31) hx hb dX4_judge_26 (by decide) (fun c_3 => ?_) (fun c_3 => ?_)
    · have b_4 : (anyB (sAny F (nI t) p0 mo mo) c) = false := bI_f c_3
      refine lv_aload_n hx hb dX4_judge_31 rfl (lv_at hl 0 rfl) ?_
      refine va_get (D := D) (ci := 4) (v := .ref (q 1)) (C := RX4) (T := TX4) (N := 5) hx hb hts (fun _ h => List.mem_cons_of_mem _ (List.mem_append_left _ (List.mem_append_left _ (List.mem_append_right _ h)))) hown hK hPo 0 rfl rfl 0 (by decide) (hts (.fieldLink RX4 12 "UnderPromise" "things" "LUnderPromise$Things;") (List.mem_of_getElem? (i := 1) rfl)) (fun _ h9 => h9) rfl dX4_judge_32 ?_
      refine lv_iload_n hx hb dX4_judge_35 rfl (lv_at hl 1 rfl) ?_
      refine lv_iload_n hx hb dX4_judge_36 rfl (lv_at hl 3 rfl) ?_
      refine roVi (As := [.int (nI t), .int mo]) (rest := []) (v := (bI (sProm F t mo))) ⟨hx, hb, hml, hown, hts⟩ (c_X2_covers l D cs q F n c t mo hI (by omega)) (cwV 2 hts gX4_judge_X2_covers rfl rfl rfl (by decide +kernel) ⟨Nat.le_of_ble_eq_true rfl, Nat.le_of_ble_eq_true rfl⟩) hPt hK hN 0 rfl rfl rfl hl.1 rfl (Nat.le_of_ble_eq_true rfl) dX4_judge_37 ⟨Nat.zero_le _, Nat.zero_le _⟩ ?_
      refine lv_if_ne (tgt := 45) hx hb dX4_judge_40 (by decide) (fun c_5 => ?_) (fun c_5 => ?_)
      · have b_6 : (sProm F t mo) = true := bI_t c_5
        refine lv_aload_n hx hb dX4_judge_45 rfl (lv_at hl 0 rfl) ?_
        refine va_get (D := D) (ci := 4) (v := .ref (q 2)) (C := RX4) (T := TX4) (N := 5) hx hb hts (fun _ h => List.mem_cons_of_mem _ (List.mem_append_left _ (List.mem_append_left _ (List.mem_append_right _ h)))) hown hK hPo 0 rfl rfl 1 (by decide) (hts (.fieldLink RX4 19 "UnderPromise" "claims" "LUnderPromise$Claims;") (List.mem_of_getElem? (i := 2) rfl)) (fun _ h9 => h9) rfl dX4_judge_46 ?_
        refine lv_iload_n hx hb dX4_judge_49 rfl (lv_at hl 1 rfl) ?_
        refine lv_iload_n hx hb dX4_judge_50 rfl (lv_at hl 2 rfl) ?_
        refine lv_iload_n hx hb dX4_judge_51 rfl (lv_at hl 3 rfl) ?_
        refine lv_aload_n hx hb dX4_judge_52 rfl (lv_at hl 0 rfl) ?_
        refine va_get (D := D) (ci := 4) (v := .int g) (C := RX4) (T := TX4) (N := 5) hx hb hts (fun _ h => List.mem_cons_of_mem _ (List.mem_append_left _ (List.mem_append_left _ (List.mem_append_right _ h)))) hown hK hPo 0 rfl rfl 4 (by decide) (hts (.fieldLink RX4 37 "UnderPromise" "monthsAhead" "I") (List.mem_of_getElem? (i := 3) rfl)) (fun _ h9 => h9) rfl dX4_judge_53 ?_
        refine lv_isub hx hb dX4_judge_56 ?_
        refine lv_iload_n hx hb dX4_judge_57 rfl (lv_at hl 3 rfl) ?_
        refine lv_iconst (v := 1) hx hb dX4_judge_58 (by decide) ?_
        refine lv_isub hx hb dX4_judge_59 ?_
        refine roVi (As := [.int (nI t), .int p0, .int (mo - g), .int (mo - 1)]) (rest := []) (v := (bI (anyB (sAny F (nI t) p0 (mo - g) (mo - 1)) c))) ⟨hx, hb, hml, hown, hts⟩ (c_X0_anyLet l D cs q F n c (nI t) p0 (mo - g) (mo - 1) hI) (cwV 4 hts gX4_judge_X0_anyLet rfl rfl rfl (by decide +kernel) ⟨Nat.le_of_ble_eq_true rfl, Nat.le_of_ble_eq_true rfl⟩) hPc hK hN 0 rfl rfl rfl hl.1 rfl (Nat.le_of_ble_eq_true rfl) dX4_judge_60 ⟨Nat.zero_le _, Nat.zero_le _⟩ ?_
        refine lv_if_eq (tgt := 68) hx hb dX4_judge_63 (by decide) (fun c_7 => ?_) (fun c_7 => ?_)
        · have b_8 : (anyB (sAny F (nI t) p0 (mo - g) (mo - 1)) c) = false := bI_f c_7
          refine lv_iconst (v := 0) hx hb dX4_judge_68 (by decide) ?_
          exact W.iret (v := 0) hx hb hr (fun t9 ht9 hW9 => ⟨0, rfl, (by first | with_reducible rfl | simp [sJudge, c_1, c_2, b_4, b_6, b_8]), ht9⟩) (fun _ h => by cases h) dX4_judge_69
        · have b_9 : (anyB (sAny F (nI t) p0 (mo - g) (mo - 1)) c) = true := bI_t c_7
          refine lv_iconst (v := 4) hx hb dX4_judge_66 (by decide) ?_
          exact W.iret (v := 4) hx hb hr (fun t9 ht9 hW9 => ⟨4, rfl, (by first | with_reducible rfl | simp [sJudge, c_1, c_2, b_4, b_6, b_9]), ht9⟩) (fun _ h => by cases h) dX4_judge_67
      · have b_10 : (sProm F t mo) = false := bI_f c_5
        refine lv_iconst (v := 3) hx hb dX4_judge_43 (by decide) ?_
        exact W.iret (v := 3) hx hb hr (fun t9 ht9 hW9 => ⟨3, rfl, (by first | with_reducible rfl | simp [sJudge, c_1, c_2, b_4, b_10]), ht9⟩) (fun _ h => by cases h) dX4_judge_44
    · have b_11 : (anyB (sAny F (nI t) p0 mo mo) c) = true := bI_t c_3
      refine lv_iconst (v := 2) hx hb dX4_judge_29 (by decide) ?_
      exact W.iret (v := 2) hx hb hr (fun t9 ht9 hW9 => ⟨2, rfl, (by first | with_reducible rfl | simp [sJudge, c_1, c_2, b_11]), ht9⟩) (fun _ h => by cases h) dX4_judge_30
  · have c_12 := i_nle c_1
    refine lv_iconst (v := 1) hx hb dX4_judge_13 (by decide) ?_
    exact W.iret (v := 1) hx hb hr (fun t9 ht9 hW9 => ⟨1, rfl, (by first | with_reducible rfl | simp [sJudge, c_1, c_12]), ht9⟩) (fun _ h => by cases h) dX4_judge_14
set_option maxHeartbeats 4000000 in
set_option maxRecDepth 100000 in
/-- X4_about -/
theorem c_X4_about (l : Launch) (D : va_G) (cs : Nat → ClassId) (q : Nat → Nat) (F : Nat → Nat → Int32) (n c : Nat) (g : Int32) (x : Int32) (w : Int32) (hI : Inv F n c) : Met l yX4_about wsX4_about ({ frames := 2, cells := 0, slots := 0, locals := 43 }) (va_Pc [.ref (q 0), .int x, .int w] (pw D cs (xW q cs F n c g))) (vp_Si (fun r => r = (aAbout F c x w))) 0 0 (fun _ => False) := by
  refine Met.ofW (cc := cX4_about) (maxL := 3) (ret := (some .int)) (by decide) rfl ?_
  intro p e s m args below meth c_ s₁ B hml hv
  obtain ⟨rfl, hP, hK, hN⟩ := hv
  have hx := B.exec
  have hb := B.bytes
  have hr := B.returns
  have hts := atoms_spec (ws := wsX4_about) B.pre
  have hown : s.vm.findClass RX4 = some m.cls := findClass_of_methodNamed B.named
  have hlocks := B.notSynchronized
  have hl := lv_entry ([.ref (q 0), .int x, .int w]) (n := 3) (Nat.le_of_ble_eq_true rfl)
  rw [lg_entry_eq]
  generalize (lg_sl ([.ref (q 0), .int x, .int w]) ++ List.replicate (3 - (lg_sl ([.ref (q 0), .int x, .int w])).length) Slot.unset).toArray = ls at hl ⊢
  have hl : lv_has ls 3 [(0, .ref (q 0)), (1, .int x), (2, .int w)] := hl
  have hPo := va_P_l hP
  have hPt := va_P_l (va_P_r hP)
  have hPc := va_P_l (va_P_r (va_P_r hP))
  have hPp := va_P_l (va_P_r (va_P_r (va_P_r hP)))
  have hPw := va_P_r (va_P_r (va_P_r (va_P_r hP)))
  have hn60 := hI.n60
  have hc100 := hI.c100
  refine lv_iload_n hx hb dX4_about_0 rfl (lv_at hl 1 rfl) ?_
  refine lv_if_lt (tgt := 14) hx hb dX4_about_1 (by decide) (fun c_1 => ?_) (fun c_1 => ?_)
  · have c_2 := i_lt c_1
    refine lv_bipush (v := (-2)) hx hb dX4_about_14 (by decide) ?_
    exact W.iret (v := (-2)) hx hb hr (fun t9 ht9 hW9 => ⟨(-2), rfl, (by first | with_reducible rfl | simp [aAbout, c_1, c_2]), ht9⟩) (fun _ h => by cases h) dX4_about_16
  · have c_3 := i_nlt c_1
    refine lv_iload_n hx hb dX4_about_4 rfl (lv_at hl 2 rfl) ?_
    refine lv_iconst (v := 0) hx hb dX4_about_5 (by decide) ?_
    refine lv_bipush (v := 6) hx hb dX4_about_6 (by decide) ?_
    refine roSi (As := [.int w, .int 0, .int 6]) (rest := []) (v := (bI (rg w 0 6))) ⟨hx, hb, hml, hown, hts⟩ (c_X4_isWithin l w 0 6) (va_cwS 3 hts gX4_about_X4_isWithin rfl rfl rfl (by decide +kernel) ⟨Nat.le_of_ble_eq_true rfl, Nat.le_of_ble_eq_true rfl⟩) rfl hl.1 rfl (Nat.le_of_ble_eq_true rfl) dX4_about_8 ⟨Nat.zero_le _, Nat.zero_le _⟩ ?_
    refine lv_if_ne (tgt := 17) hx hb dX4_about_11 (by decide) (fun c_4 => ?_) (fun c_4 => ?_)
    · have b_5 : (rg w 0 6) = true := bI_t c_4
      refine lv_iload_n hx hb dX4_about_17 rfl (lv_at hl 1 rfl) ?_
      refine lv_aload_n hx hb dX4_about_18 rfl (lv_at hl 0 rfl) ?_
      refine va_get (D := D) (ci := 4) (v := .ref (q 2)) (C := RX4) (T := TX4) (N := 5) hx hb hts (fun _ h => List.mem_cons_of_mem _ (List.mem_append_left _ (List.mem_append_right _ h))) hown hK hPo 0 rfl rfl 1 (by decide) (hts (.fieldLink RX4 19 "UnderPromise" "claims" "LUnderPromise$Claims;") (List.mem_of_getElem? (i := 1) rfl)) (fun _ h9 => h9) rfl dX4_about_19 ?_
      refine va_getN (D := D) (ci := 0) (v := .int (nI c)) (C := RX0) (T := TX0) (N := 8) hx hb hts (fun _ h => List.mem_cons_of_mem _ (List.mem_append_right _ h)) hown hK hPc 0 rfl rfl 7 (by decide) (va_Nw.use rfl hN.2.2.2.2.2.2.2.2.2.2.2.1) (fun _ h9 => h9) rfl dX4_about_22 ?_
      refine lv_icmp_ge (tgt := 40) hx hb dX4_about_25 (by decide) (fun c_6 => ?_) (fun c_6 => ?_)
      · have c_7 := i_le c_6
        refine lv_iconst (v := (-1)) hx hb dX4_about_40 (by decide) ?_
        exact W.iret (v := (-1)) hx hb hr (fun t9 ht9 hW9 => ⟨(-1), rfl, (by first | with_reducible rfl | simp [aAbout, c_1, c_3, b_5, c_6, c_7]), ht9⟩) (fun _ h => by cases h) dX4_about_41
      · have c_8 := i_nle c_6
        obtain ⟨k, hk, rfl⟩ := lt_nat (by omega) c_1 c_8
        have x_9 : ix (nI k) = k := nI_clamp (by omega)
        refine lv_aload_n hx hb dX4_about_28 rfl (lv_at hl 0 rfl) ?_
        refine va_get (D := D) (ci := 4) (v := .ref (q 2)) (C := RX4) (T := TX4) (N := 5) hx hb hts (fun _ h => List.mem_cons_of_mem _ (List.mem_append_left _ (List.mem_append_right _ h))) hown hK hPo 0 rfl rfl 1 (by decide) (hts (.fieldLink RX4 19 "UnderPromise" "claims" "LUnderPromise$Claims;") (List.mem_of_getElem? (i := 1) rfl)) (fun _ h9 => h9) rfl dX4_about_29 ?_
        refine lv_iload_n hx hb dX4_about_32 rfl (lv_at hl 1 rfl) ?_
        refine lv_iload_n hx hb dX4_about_33 rfl (lv_at hl 2 rfl) ?_
        refine roVi (As := [.int (nI k), .int w]) (rest := []) (v := (sTell F k w)) ⟨hx, hb, hml, hown, hts⟩ (c_X0_tell l D cs q F n c k w hI (by omega)) (cwV 2 hts gX4_about_X0_tell rfl rfl rfl (by decide +kernel) ⟨Nat.le_of_ble_eq_true rfl, Nat.le_of_ble_eq_true rfl⟩) hPc hK hN 0 rfl rfl rfl hl.1 rfl (Nat.le_of_ble_eq_true rfl) dX4_about_34 ⟨Nat.zero_le _, Nat.zero_le _⟩ ?_
        refine lv_goto (tgt := 41) hx hb dX4_about_37 (by decide) ?_
        exact W.iret (v := (sTell F k w)) hx hb hr (fun t9 ht9 hW9 => ⟨(sTell F k w), rfl, (by first | with_reducible rfl | simp [aAbout, c_1, c_3, b_5, c_6, c_8, x_9]), ht9⟩) (fun _ h => by cases h) dX4_about_41
    · have b_10 : (rg w 0 6) = false := bI_f c_4
      refine lv_bipush (v := (-2)) hx hb dX4_about_14 (by decide) ?_
      exact W.iret (v := (-2)) hx hb hr (fun t9 ht9 hW9 => ⟨(-2), rfl, (by first | with_reducible rfl | simp [aAbout, c_1, c_3, b_10]), ht9⟩) (fun _ h => by cases h) dX4_about_16
set_option maxHeartbeats 4000000 in
set_option maxRecDepth 100000 in
/-- X4_table -/
theorem c_X4_table (l : Launch) (D : va_G) (cs : Nat → ClassId) (q : Nat → Nat) (F : Nat → Nat → Int32) (n c : Nat) (g : Int32) (s0 : Int32) (a : Int32) (mo : Int32) (hI : Inv F n c) : Met l yX4_table wsX4_table ({ frames := 2, cells := 0, slots := 0, locals := 47 }) (va_Pc [.ref (q 0), .int s0, .int a, .int mo] (pw D cs (xW q cs F n c g))) (vp_Si (fun r => r = (r3 (rg s0 0 119) (rg a 0 300) (rg mo 0 300) (ctI (sTab F s0 a mo) c)))) 0 0 (fun _ => False) := by
  refine Met.ofW (cc := cX4_table) (maxL := 4) (ret := (some .int)) (by decide) rfl ?_
  intro p e s m args below meth c_ s₁ B hml hv
  obtain ⟨rfl, hP, hK, hN⟩ := hv
  have hx := B.exec
  have hb := B.bytes
  have hr := B.returns
  have hts := atoms_spec (ws := wsX4_table) B.pre
  have hown : s.vm.findClass RX4 = some m.cls := findClass_of_methodNamed B.named
  have hlocks := B.notSynchronized
  have hl := lv_entry ([.ref (q 0), .int s0, .int a, .int mo]) (n := 4) (Nat.le_of_ble_eq_true rfl)
  rw [lg_entry_eq]
  generalize (lg_sl ([.ref (q 0), .int s0, .int a, .int mo]) ++ List.replicate (4 - (lg_sl ([.ref (q 0), .int s0, .int a, .int mo])).length) Slot.unset).toArray = ls at hl ⊢
  have hl : lv_has ls 4 [(0, .ref (q 0)), (1, .int s0), (2, .int a), (3, .int mo)] := hl
  have hPo := va_P_l hP
  have hPt := va_P_l (va_P_r hP)
  have hPc := va_P_l (va_P_r (va_P_r hP))
  have hPp := va_P_l (va_P_r (va_P_r (va_P_r hP)))
  have hPw := va_P_r (va_P_r (va_P_r (va_P_r hP)))
  have hn60 := hI.n60
  have hc100 := hI.c100
  refine lv_iload_n hx hb dX4_table_0 rfl (lv_at hl 1 rfl) ?_
  refine roSi (As := [.int s0]) (rest := []) (v := (bI (rg s0 0 119))) ⟨hx, hb, hml, hown, hts⟩ (c_X4_isSaleMonth l s0) (va_cwS 1 hts gX4_table_X4_isSaleMonth rfl rfl rfl (by decide +kernel) ⟨Nat.le_of_ble_eq_true rfl, Nat.le_of_ble_eq_true rfl⟩) rfl hl.1 rfl (Nat.le_of_ble_eq_true rfl) dX4_table_1 ⟨Nat.zero_le _, Nat.zero_le _⟩ ?_
  refine lv_if_eq (tgt := 21) hx hb dX4_table_4 (by decide) (fun c_1 => ?_) (fun c_1 => ?_)
  · have b_2 : (rg s0 0 119) = false := bI_f c_1
    refine lv_bipush (v := (-2)) hx hb dX4_table_21 (by decide) ?_
    exact W.iret (v := (-2)) hx hb hr (fun t9 ht9 hW9 => ⟨(-2), rfl, (by first | with_reducible rfl | simp [r3, b_2]), ht9⟩) (fun _ h => by cases h) dX4_table_23
  · have b_3 : (rg s0 0 119) = true := bI_t c_1
    refine lv_iload_n hx hb dX4_table_7 rfl (lv_at hl 2 rfl) ?_
    refine roSi (As := [.int a]) (rest := []) (v := (bI (rg a 0 300))) ⟨hx, hb, hml, hown, hts⟩ (c_X4_isMonth l a) (va_cwS 1 hts gX4_table_X4_isMonth rfl rfl rfl (by decide +kernel) ⟨Nat.le_of_ble_eq_true rfl, Nat.le_of_ble_eq_true rfl⟩) rfl hl.1 rfl (Nat.le_of_ble_eq_true rfl) dX4_table_8 ⟨Nat.zero_le _, Nat.zero_le _⟩ ?_
    refine lv_if_eq (tgt := 21) hx hb dX4_table_11 (by decide) (fun c_4 => ?_) (fun c_4 => ?_)
    · have b_5 : (rg a 0 300) = false := bI_f c_4
      refine lv_bipush (v := (-2)) hx hb dX4_table_21 (by decide) ?_
      exact W.iret (v := (-2)) hx hb hr (fun t9 ht9 hW9 => ⟨(-2), rfl, (by first | with_reducible rfl | simp [r3, b_3, b_5]), ht9⟩) (fun _ h => by cases h) dX4_table_23
    · have b_6 : (rg a 0 300) = true := bI_t c_4
      refine lv_iload_n hx hb dX4_table_14 rfl (lv_at hl 3 rfl) ?_
      refine roSi (As := [.int mo]) (rest := []) (v := (bI (rg mo 0 300))) ⟨hx, hb, hml, hown, hts⟩ (c_X4_isMonth l mo) (va_cwS 1 hts gX4_table_X4_isMonth rfl rfl rfl (by decide +kernel) ⟨Nat.le_of_ble_eq_true rfl, Nat.le_of_ble_eq_true rfl⟩) rfl hl.1 rfl (Nat.le_of_ble_eq_true rfl) dX4_table_15 ⟨Nat.zero_le _, Nat.zero_le _⟩ ?_
      refine lv_if_ne (tgt := 24) hx hb dX4_table_18 (by decide) (fun c_7 => ?_) (fun c_7 => ?_)
      · have b_8 : (rg mo 0 300) = true := bI_t c_7
        refine lv_aload_n hx hb dX4_table_24 rfl (lv_at hl 0 rfl) ?_
        refine va_get (D := D) (ci := 4) (v := .ref (q 2)) (C := RX4) (T := TX4) (N := 5) hx hb hts (fun _ h => List.mem_cons_of_mem _ (List.mem_append_left _ (List.mem_append_right _ h))) hown hK hPo 0 rfl rfl 1 (by decide) (hts (.fieldLink RX4 19 "UnderPromise" "claims" "LUnderPromise$Claims;") (List.mem_of_getElem? (i := 1) rfl)) (fun _ h9 => h9) rfl dX4_table_25 ?_
        refine lv_iload_n hx hb dX4_table_28 rfl (lv_at hl 1 rfl) ?_
        refine lv_iload_n hx hb dX4_table_29 rfl (lv_at hl 2 rfl) ?_
        refine lv_iload_n hx hb dX4_table_30 rfl (lv_at hl 3 rfl) ?_
        refine roVi (As := [.int s0, .int a, .int mo]) (rest := []) (v := (ctI (sTab F s0 a mo) c)) ⟨hx, hb, hml, hown, hts⟩ (c_X0_letSoldInAtAge l D cs q F n c s0 a mo hI) (cwV 3 hts gX4_table_X0_letSoldInAtAge rfl rfl rfl (by decide +kernel) ⟨Nat.le_of_ble_eq_true rfl, Nat.le_of_ble_eq_true rfl⟩) hPc hK hN 0 rfl rfl rfl hl.1 rfl (Nat.le_of_ble_eq_true rfl) dX4_table_31 ⟨Nat.zero_le _, Nat.zero_le _⟩ ?_
        exact W.iret (v := (ctI (sTab F s0 a mo) c)) hx hb hr (fun t9 ht9 hW9 => ⟨(ctI (sTab F s0 a mo) c), rfl, (by first | with_reducible rfl | simp [r3, b_3, b_6, b_8]), ht9⟩) (fun _ h => by cases h) dX4_table_34
      · have b_9 : (rg mo 0 300) = false := bI_f c_7
        refine lv_bipush (v := (-2)) hx hb dX4_table_21 (by decide) ?_
        exact W.iret (v := (-2)) hx hb hr (fun t9 ht9 hW9 => ⟨(-2), rfl, (by first | with_reducible rfl | simp [r3, b_3, b_6, b_9]), ht9⟩) (fun _ h => by cases h) dX4_table_23
set_option maxHeartbeats 4000000 in
set_option maxRecDepth 100000 in
/-- X4_exposed -/
theorem c_X4_exposed (l : Launch) (D : va_G) (cs : Nat → ClassId) (q : Nat → Nat) (F : Nat → Nat → Int32) (n c : Nat) (g : Int32) (a : Int32) (mo : Int32) (hI : Inv F n c) : Met l yX4_exposed wsX4_exposed ({ frames := 2, cells := 0, slots := 0, locals := 48 }) (va_Pc [.ref (q 0), .int a, .int mo] (pw D cs (xW q cs F n c g))) (vp_Si (fun r => r = (r2 (rg a 0 300) (rg mo 0 300) (ctI (sExp F a mo) n)))) 0 0 (fun _ => False) := by
  refine Met.ofW (cc := cX4_exposed) (maxL := 3) (ret := (some .int)) (by decide) rfl ?_
  intro p e s m args below meth c_ s₁ B hml hv
  obtain ⟨rfl, hP, hK, hN⟩ := hv
  have hx := B.exec
  have hb := B.bytes
  have hr := B.returns
  have hts := atoms_spec (ws := wsX4_exposed) B.pre
  have hown : s.vm.findClass RX4 = some m.cls := findClass_of_methodNamed B.named
  have hlocks := B.notSynchronized
  have hl := lv_entry ([.ref (q 0), .int a, .int mo]) (n := 3) (Nat.le_of_ble_eq_true rfl)
  rw [lg_entry_eq]
  generalize (lg_sl ([.ref (q 0), .int a, .int mo]) ++ List.replicate (3 - (lg_sl ([.ref (q 0), .int a, .int mo])).length) Slot.unset).toArray = ls at hl ⊢
  have hl : lv_has ls 3 [(0, .ref (q 0)), (1, .int a), (2, .int mo)] := hl
  have hPo := va_P_l hP
  have hPt := va_P_l (va_P_r hP)
  have hPc := va_P_l (va_P_r (va_P_r hP))
  have hPp := va_P_l (va_P_r (va_P_r (va_P_r hP)))
  have hPw := va_P_r (va_P_r (va_P_r (va_P_r hP)))
  have hn60 := hI.n60
  have hc100 := hI.c100
  refine lv_iload_n hx hb dX4_exposed_0 rfl (lv_at hl 1 rfl) ?_
  refine roSi (As := [.int a]) (rest := []) (v := (bI (rg a 0 300))) ⟨hx, hb, hml, hown, hts⟩ (c_X4_isMonth l a) (va_cwS 1 hts gX4_exposed_X4_isMonth rfl rfl rfl (by decide +kernel) ⟨Nat.le_of_ble_eq_true rfl, Nat.le_of_ble_eq_true rfl⟩) rfl hl.1 rfl (Nat.le_of_ble_eq_true rfl) dX4_exposed_1 ⟨Nat.zero_le _, Nat.zero_le _⟩ ?_
  refine lv_if_eq (tgt := 14) hx hb dX4_exposed_4 (by decide) (fun c_1 => ?_) (fun c_1 => ?_)
  · have b_2 : (rg a 0 300) = false := bI_f c_1
    refine lv_bipush (v := (-2)) hx hb dX4_exposed_14 (by decide) ?_
    exact W.iret (v := (-2)) hx hb hr (fun t9 ht9 hW9 => ⟨(-2), rfl, (by first | with_reducible rfl | simp [r2, b_2]), ht9⟩) (fun _ h => by cases h) dX4_exposed_16
  · have b_3 : (rg a 0 300) = true := bI_t c_1
    refine lv_iload_n hx hb dX4_exposed_7 rfl (lv_at hl 2 rfl) ?_
    refine roSi (As := [.int mo]) (rest := []) (v := (bI (rg mo 0 300))) ⟨hx, hb, hml, hown, hts⟩ (c_X4_isMonth l mo) (va_cwS 1 hts gX4_exposed_X4_isMonth rfl rfl rfl (by decide +kernel) ⟨Nat.le_of_ble_eq_true rfl, Nat.le_of_ble_eq_true rfl⟩) rfl hl.1 rfl (Nat.le_of_ble_eq_true rfl) dX4_exposed_8 ⟨Nat.zero_le _, Nat.zero_le _⟩ ?_
    refine lv_if_ne (tgt := 17) hx hb dX4_exposed_11 (by decide) (fun c_4 => ?_) (fun c_4 => ?_)
    · have b_5 : (rg mo 0 300) = true := bI_t c_4
      refine lv_aload_n hx hb dX4_exposed_17 rfl (lv_at hl 0 rfl) ?_
      refine va_get (D := D) (ci := 4) (v := .ref (q 1)) (C := RX4) (T := TX4) (N := 5) hx hb hts (fun _ h => List.mem_cons_of_mem _ (List.mem_append_left _ (List.mem_append_right _ h))) hown hK hPo 0 rfl rfl 0 (by decide) (hts (.fieldLink RX4 12 "UnderPromise" "things" "LUnderPromise$Things;") (List.mem_of_getElem? (i := 1) rfl)) (fun _ h9 => h9) rfl dX4_exposed_18 ?_
      refine lv_iload_n hx hb dX4_exposed_21 rfl (lv_at hl 1 rfl) ?_
      refine lv_iload_n hx hb dX4_exposed_22 rfl (lv_at hl 2 rfl) ?_
      refine roVi (As := [.int a, .int mo]) (rest := []) (v := (ctI (sExp F a mo) n)) ⟨hx, hb, hml, hown, hts⟩ (c_X2_coveredAtAge l D cs q F n c a mo hI) (cwV 2 hts gX4_exposed_X2_coveredAtAge rfl rfl rfl (by decide +kernel) ⟨Nat.le_of_ble_eq_true rfl, Nat.le_of_ble_eq_true rfl⟩) hPt hK hN 0 rfl rfl rfl hl.1 rfl (Nat.le_of_ble_eq_true rfl) dX4_exposed_23 ⟨Nat.zero_le _, Nat.zero_le _⟩ ?_
      exact W.iret (v := (ctI (sExp F a mo) n)) hx hb hr (fun t9 ht9 hW9 => ⟨(ctI (sExp F a mo) n), rfl, (by first | with_reducible rfl | simp [r2, b_3, b_5]), ht9⟩) (fun _ h => by cases h) dX4_exposed_26
    · have b_6 : (rg mo 0 300) = false := bI_f c_4
      refine lv_bipush (v := (-2)) hx hb dX4_exposed_14 (by decide) ?_
      exact W.iret (v := (-2)) hx hb hr (fun t9 ht9 hW9 => ⟨(-2), rfl, (by first | with_reducible rfl | simp [r2, b_3, b_6]), ht9⟩) (fun _ h => by cases h) dX4_exposed_16
set_option maxHeartbeats 4000000 in
set_option maxRecDepth 100000 in
/-- X4_delays -/
theorem c_X4_delays (l : Launch) (D : va_G) (cs : Nat → ClassId) (q : Nat → Nat) (F : Nat → Nat → Int32) (n c : Nat) (g : Int32) (mo : Int32) (dl : Int32) (hI : Inv F n c) : Met l yX4_delays wsX4_delays ({ frames := 2, cells := 0, slots := 0, locals := 48 }) (va_Pc [.ref (q 0), .int mo, .int dl] (pw D cs (xW q cs F n c g))) (vp_Si (fun r => r = (r2 (rg mo 0 300) (rg dl 0 11) (ctI (sDel F dl dl mo) c)))) 0 0 (fun _ => False) := by
  refine Met.ofW (cc := cX4_delays) (maxL := 3) (ret := (some .int)) (by decide) rfl ?_
  intro p e s m args below meth c_ s₁ B hml hv
  obtain ⟨rfl, hP, hK, hN⟩ := hv
  have hx := B.exec
  have hb := B.bytes
  have hr := B.returns
  have hts := atoms_spec (ws := wsX4_delays) B.pre
  have hown : s.vm.findClass RX4 = some m.cls := findClass_of_methodNamed B.named
  have hlocks := B.notSynchronized
  have hl := lv_entry ([.ref (q 0), .int mo, .int dl]) (n := 3) (Nat.le_of_ble_eq_true rfl)
  rw [lg_entry_eq]
  generalize (lg_sl ([.ref (q 0), .int mo, .int dl]) ++ List.replicate (3 - (lg_sl ([.ref (q 0), .int mo, .int dl])).length) Slot.unset).toArray = ls at hl ⊢
  have hl : lv_has ls 3 [(0, .ref (q 0)), (1, .int mo), (2, .int dl)] := hl
  have hPo := va_P_l hP
  have hPt := va_P_l (va_P_r hP)
  have hPc := va_P_l (va_P_r (va_P_r hP))
  have hPp := va_P_l (va_P_r (va_P_r (va_P_r hP)))
  have hPw := va_P_r (va_P_r (va_P_r (va_P_r hP)))
  have hn60 := hI.n60
  have hc100 := hI.c100
  refine lv_iload_n hx hb dX4_delays_0 rfl (lv_at hl 1 rfl) ?_
  refine roSi (As := [.int mo]) (rest := []) (v := (bI (rg mo 0 300))) ⟨hx, hb, hml, hown, hts⟩ (c_X4_isMonth l mo) (va_cwS 1 hts gX4_delays_X4_isMonth rfl rfl rfl (by decide +kernel) ⟨Nat.le_of_ble_eq_true rfl, Nat.le_of_ble_eq_true rfl⟩) rfl hl.1 rfl (Nat.le_of_ble_eq_true rfl) dX4_delays_1 ⟨Nat.zero_le _, Nat.zero_le _⟩ ?_
  refine lv_if_eq (tgt := 17) hx hb dX4_delays_4 (by decide) (fun c_1 => ?_) (fun c_1 => ?_)
  · have b_2 : (rg mo 0 300) = false := bI_f c_1
    refine lv_bipush (v := (-2)) hx hb dX4_delays_17 (by decide) ?_
    exact W.iret (v := (-2)) hx hb hr (fun t9 ht9 hW9 => ⟨(-2), rfl, (by first | with_reducible rfl | simp [r2, b_2]), ht9⟩) (fun _ h => by cases h) dX4_delays_19
  · have b_3 : (rg mo 0 300) = true := bI_t c_1
    refine lv_iload_n hx hb dX4_delays_7 rfl (lv_at hl 2 rfl) ?_
    refine lv_iconst (v := 0) hx hb dX4_delays_8 (by decide) ?_
    refine lv_bipush (v := 11) hx hb dX4_delays_9 (by decide) ?_
    refine roSi (As := [.int dl, .int 0, .int 11]) (rest := []) (v := (bI (rg dl 0 11))) ⟨hx, hb, hml, hown, hts⟩ (c_X4_isWithin l dl 0 11) (va_cwS 3 hts gX4_delays_X4_isWithin rfl rfl rfl (by decide +kernel) ⟨Nat.le_of_ble_eq_true rfl, Nat.le_of_ble_eq_true rfl⟩) rfl hl.1 rfl (Nat.le_of_ble_eq_true rfl) dX4_delays_11 ⟨Nat.zero_le _, Nat.zero_le _⟩ ?_
    refine lv_if_ne (tgt := 20) hx hb dX4_delays_14 (by decide) (fun c_4 => ?_) (fun c_4 => ?_)
    · have b_5 : (rg dl 0 11) = true := bI_t c_4
      refine lv_aload_n hx hb dX4_delays_20 rfl (lv_at hl 0 rfl) ?_
      refine va_get (D := D) (ci := 4) (v := .ref (q 2)) (C := RX4) (T := TX4) (N := 5) hx hb hts (fun _ h => List.mem_cons_of_mem _ (List.mem_append_left _ (List.mem_append_right _ h))) hown hK hPo 0 rfl rfl 1 (by decide) (hts (.fieldLink RX4 19 "UnderPromise" "claims" "LUnderPromise$Claims;") (List.mem_of_getElem? (i := 1) rfl)) (fun _ h9 => h9) rfl dX4_delays_21 ?_
      refine lv_iload_n hx hb dX4_delays_24 rfl (lv_at hl 2 rfl) ?_
      refine lv_iload_n hx hb dX4_delays_25 rfl (lv_at hl 2 rfl) ?_
      refine lv_iload_n hx hb dX4_delays_26 rfl (lv_at hl 1 rfl) ?_
      refine roVi (As := [.int dl, .int dl, .int mo]) (rest := []) (v := (ctI (sDel F dl dl mo) c)) ⟨hx, hb, hml, hown, hts⟩ (c_X0_letDelayed l D cs q F n c dl dl mo hI) (cwV 3 hts gX4_delays_X0_letDelayed rfl rfl rfl (by decide +kernel) ⟨Nat.le_of_ble_eq_true rfl, Nat.le_of_ble_eq_true rfl⟩) hPc hK hN 0 rfl rfl rfl hl.1 rfl (Nat.le_of_ble_eq_true rfl) dX4_delays_27 ⟨Nat.zero_le _, Nat.zero_le _⟩ ?_
      exact W.iret (v := (ctI (sDel F dl dl mo) c)) hx hb hr (fun t9 ht9 hW9 => ⟨(ctI (sDel F dl dl mo) c), rfl, (by first | with_reducible rfl | simp [r2, b_3, b_5]), ht9⟩) (fun _ h => by cases h) dX4_delays_30
    · have b_6 : (rg dl 0 11) = false := bI_f c_4
      refine lv_bipush (v := (-2)) hx hb dX4_delays_17 (by decide) ?_
      exact W.iret (v := (-2)) hx hb hr (fun t9 ht9 hW9 => ⟨(-2), rfl, (by first | with_reducible rfl | simp [r2, b_3, b_6]), ht9⟩) (fun _ h => by cases h) dX4_delays_19
set_option maxHeartbeats 4000000 in
set_option maxRecDepth 100000 in
/-- X4_undone -/
theorem c_X4_undone (l : Launch) (D : va_G) (cs : Nat → ClassId) (q : Nat → Nat) (F : Nat → Nat → Int32) (n c : Nat) (g : Int32) (f0 : Int32) (mo : Int32) (hI : Inv F n c) : Met l yX4_undone wsX4_undone ({ frames := 2, cells := 0, slots := 0, locals := 48 }) (va_Pc [.ref (q 0), .int f0, .int mo] (pw D cs (xW q cs F n c g))) (vp_Si (fun r => r = (aUndC F c f0 mo))) 0 0 (fun _ => False) := by
  refine Met.ofW (cc := cX4_undone) (maxL := 5) (ret := (some .int)) (by decide) rfl ?_
  intro p e s m args below meth c_ s₁ B hml hv
  obtain ⟨rfl, hP, hK, hN⟩ := hv
  have hx := B.exec
  have hb := B.bytes
  have hr := B.returns
  have hts := atoms_spec (ws := wsX4_undone) B.pre
  have hown : s.vm.findClass RX4 = some m.cls := findClass_of_methodNamed B.named
  have hlocks := B.notSynchronized
  have hl := lv_entry ([.ref (q 0), .int f0, .int mo]) (n := 5) (Nat.le_of_ble_eq_true rfl)
  rw [lg_entry_eq]
  generalize (lg_sl ([.ref (q 0), .int f0, .int mo]) ++ List.replicate (5 - (lg_sl ([.ref (q 0), .int f0, .int mo])).length) Slot.unset).toArray = ls at hl ⊢
  have hl : lv_has ls 5 [(0, .ref (q 0)), (1, .int f0), (2, .int mo)] := hl
  have hPo := va_P_l hP
  have hPt := va_P_l (va_P_r hP)
  have hPc := va_P_l (va_P_r (va_P_r hP))
  have hPp := va_P_l (va_P_r (va_P_r (va_P_r hP)))
  have hPw := va_P_r (va_P_r (va_P_r (va_P_r hP)))
  have hn60 := hI.n60
  have hc100 := hI.c100
  refine lv_iload_n hx hb dX4_undone_0 rfl (lv_at hl 1 rfl) ?_
  refine roSi (As := [.int f0]) (rest := []) (v := (bI (rg f0 0 300))) ⟨hx, hb, hml, hown, hts⟩ (c_X4_isMonth l f0) (va_cwS 1 hts gX4_undone_X4_isMonth rfl rfl rfl (by decide +kernel) ⟨Nat.le_of_ble_eq_true rfl, Nat.le_of_ble_eq_true rfl⟩) rfl hl.1 rfl (Nat.le_of_ble_eq_true rfl) dX4_undone_1 ⟨Nat.zero_le _, Nat.zero_le _⟩ ?_
  refine lv_if_eq (tgt := 19) hx hb dX4_undone_4 (by decide) (fun c_1 => ?_) (fun c_1 => ?_)
  · have b_2 : (rg f0 0 300) = false := bI_f c_1
    refine lv_bipush (v := (-2)) hx hb dX4_undone_19 (by decide) ?_
    exact W.iret (v := (-2)) hx hb hr (fun t9 ht9 hW9 => ⟨(-2), rfl, (by first | with_reducible rfl | simp [aUndC, b_2]), ht9⟩) (fun _ h => by cases h) dX4_undone_21
  · have b_3 : (rg f0 0 300) = true := bI_t c_1
    refine lv_iload_n hx hb dX4_undone_7 rfl (lv_at hl 2 rfl) ?_
    refine roSi (As := [.int mo]) (rest := []) (v := (bI (rg mo 0 300))) ⟨hx, hb, hml, hown, hts⟩ (c_X4_isMonth l mo) (va_cwS 1 hts gX4_undone_X4_isMonth rfl rfl rfl (by decide +kernel) ⟨Nat.le_of_ble_eq_true rfl, Nat.le_of_ble_eq_true rfl⟩) rfl hl.1 rfl (Nat.le_of_ble_eq_true rfl) dX4_undone_8 ⟨Nat.zero_le _, Nat.zero_le _⟩ ?_
    refine lv_if_eq (tgt := 19) hx hb dX4_undone_11 (by decide) (fun c_4 => ?_) (fun c_4 => ?_)
    · have b_5 : (rg mo 0 300) = false := bI_f c_4
      refine lv_bipush (v := (-2)) hx hb dX4_undone_19 (by decide) ?_
      exact W.iret (v := (-2)) hx hb hr (fun t9 ht9 hW9 => ⟨(-2), rfl, (by first | with_reducible rfl | simp [aUndC, b_3, b_5]), ht9⟩) (fun _ h => by cases h) dX4_undone_21
    · have b_6 : (rg mo 0 300) = true := bI_t c_4
      refine lv_iload_n hx hb dX4_undone_14 rfl (lv_at hl 1 rfl) ?_
      refine lv_iload_n hx hb dX4_undone_15 rfl (lv_at hl 2 rfl) ?_
      refine lv_icmp_le (tgt := 22) hx hb dX4_undone_16 (by decide) (fun c_7 => ?_) (fun c_7 => ?_)
      · have c_8 := i_le c_7
        refine lv_aload_n hx hb dX4_undone_22 rfl (lv_at hl 0 rfl) ?_
        refine va_get (D := D) (ci := 4) (v := .ref (q 2)) (C := RX4) (T := TX4) (N := 5) hx hb hts (fun _ h => List.mem_cons_of_mem _ (List.mem_append_left _ (List.mem_append_right _ h))) hown hK hPo 0 rfl rfl 1 (by decide) (hts (.fieldLink RX4 19 "UnderPromise" "claims" "LUnderPromise$Claims;") (List.mem_of_getElem? (i := 1) rfl)) (fun _ h9 => h9) rfl dX4_undone_23 ?_
        refine lv_iload_n hx hb dX4_undone_26 rfl (lv_at hl 1 rfl) ?_
        refine lv_iload_n hx hb dX4_undone_27 rfl (lv_at hl 2 rfl) ?_
        refine roVi (As := [.int f0, .int mo]) (rest := []) (v := (ctI (sFail F f0 mo) c)) ⟨hx, hb, hml, hown, hts⟩ (c_X0_letFailedIn l D cs q F n c f0 mo hI) (cwV 2 hts gX4_undone_X0_letFailedIn rfl rfl rfl (by decide +kernel) ⟨Nat.le_of_ble_eq_true rfl, Nat.le_of_ble_eq_true rfl⟩) hPc hK hN 0 rfl rfl rfl hl.1 rfl (Nat.le_of_ble_eq_true rfl) dX4_undone_28 ⟨Nat.zero_le _, Nat.zero_le _⟩ ?_
        refine lv_istore_n (lv' := [(3, .int (ctI (sFail F f0 mo) c)), (0, .ref (q 0)), (1, .int f0), (2, .int mo)]) hx hb dX4_undone_31 rfl hl (by decide) rfl (fun ls hl => ?_)
        refine lv_iload_n hx hb dX4_undone_32 rfl (lv_at hl 3 rfl) ?_
        refine lv_iload_n hx hb dX4_undone_33 rfl (lv_at hl 2 rfl) ?_
        refine lv_isub hx hb dX4_undone_34 ?_
        refine lv_bipush (v := 11) hx hb dX4_undone_35 (by decide) ?_
        refine lv_icmp_lt (tgt := 42) hx hb dX4_undone_37 (by decide) (fun c_9 => ?_) (fun c_9 => ?_)
        · have c_10 := i_lt c_9
          refine lv_aload_n hx hb dX4_undone_42 rfl (lv_at hl 1 rfl) ?_
          refine va_get (D := D) (ci := 4) (v := .ref (q 2)) (C := RX4) (T := TX4) (N := 5) hx hb hts (fun _ h => List.mem_cons_of_mem _ (List.mem_append_left _ (List.mem_append_right _ h))) hown hK hPo 0 rfl rfl 1 (by decide) (hts (.fieldLink RX4 19 "UnderPromise" "claims" "LUnderPromise$Claims;") (List.mem_of_getElem? (i := 1) rfl)) (fun _ h9 => h9) rfl dX4_undone_43 ?_
          refine lv_iconst (v := 0) hx hb dX4_undone_46 (by decide) ?_
          refine lv_iload_n hx hb dX4_undone_47 rfl (lv_at hl 3 rfl) ?_
          refine lv_iload_n hx hb dX4_undone_48 rfl (lv_at hl 2 rfl) ?_
          refine lv_isub hx hb dX4_undone_49 ?_
          refine lv_iload_n hx hb dX4_undone_50 rfl (lv_at hl 3 rfl) ?_
          refine roVi (As := [.int 0, .int (mo - f0), .int mo]) (rest := []) (v := (ctI (sDel F 0 (mo - f0) mo) c)) ⟨hx, hb, hml, hown, hts⟩ (c_X0_letDelayed l D cs q F n c 0 (mo - f0) mo hI) (cwV 3 hts gX4_undone_X0_letDelayed rfl rfl rfl (by decide +kernel) ⟨Nat.le_of_ble_eq_true rfl, Nat.le_of_ble_eq_true rfl⟩) hPc hK hN 0 rfl rfl rfl hl.1 rfl (Nat.le_of_ble_eq_true rfl) dX4_undone_51 ⟨Nat.zero_le _, Nat.zero_le _⟩ ?_
          refine lv_istore (lv' := [(4, .int (ctI (sDel F 0 (mo - f0) mo) c)), (3, .int (ctI (sFail F f0 mo) c)), (0, .ref (q 0)), (1, .int f0), (2, .int mo)]) hx hb dX4_undone_54 hl (by decide) rfl (fun ls hl => ?_)
          refine lv_iload hx hb dX4_undone_56 (lv_at hl 0 rfl) ?_
          refine lv_if_ne (tgt := 63) hx hb dX4_undone_58 (by decide) (fun c_11 => ?_) (fun c_11 => ?_)
          · refine lv_iload_n hx hb dX4_undone_63 rfl (lv_at hl 1 rfl) ?_
            refine lv_aload_n hx hb dX4_undone_64 rfl (lv_at hl 2 rfl) ?_
            refine va_get (D := D) (ci := 4) (v := .ref (q 2)) (C := RX4) (T := TX4) (N := 5) hx hb hts (fun _ h => List.mem_cons_of_mem _ (List.mem_append_left _ (List.mem_append_right _ h))) hown hK hPo 0 rfl rfl 1 (by decide) (hts (.fieldLink RX4 19 "UnderPromise" "claims" "LUnderPromise$Claims;") (List.mem_of_getElem? (i := 1) rfl)) (fun _ h9 => h9) rfl dX4_undone_65 ?_
            refine lv_iconst (v := 0) hx hb dX4_undone_68 (by decide) ?_
            refine lv_bipush (v := 11) hx hb dX4_undone_69 (by decide) ?_
            refine lv_iload_n hx hb dX4_undone_71 rfl (lv_at hl 4 rfl) ?_
            refine roVi (As := [.int 0, .int 11, .int mo]) (rest := [.int (ctI (sFail F f0 mo) c)]) (v := (ctI (sDel F 0 11 mo) c)) ⟨hx, hb, hml, hown, hts⟩ (c_X0_letDelayed l D cs q F n c 0 11 mo hI) (cwV 3 hts gX4_undone_X0_letDelayed rfl rfl rfl (by decide +kernel) ⟨Nat.le_of_ble_eq_true rfl, Nat.le_of_ble_eq_true rfl⟩) hPc hK hN 0 rfl rfl rfl hl.1 rfl (Nat.le_of_ble_eq_true rfl) dX4_undone_72 ⟨Nat.zero_le _, Nat.zero_le _⟩ ?_
            refine lv_imul hx hb dX4_undone_75 ?_
            refine lv_iload hx hb dX4_undone_76 (lv_at hl 0 rfl) ?_
            refine lv_idiv hx hb dX4_undone_78 c_11 ?_
            exact W.iret (v := (((ctI (sFail F f0 mo) c) * (ctI (sDel F 0 11 mo) c)) / (ctI (sDel F 0 (mo - f0) mo) c))) hx hb hr (fun t9 ht9 hW9 => ⟨(((ctI (sFail F f0 mo) c) * (ctI (sDel F 0 11 mo) c)) / (ctI (sDel F 0 (mo - f0) mo) c)), rfl, (by first | with_reducible rfl | simp [aUndC, b_3, b_6, c_7, c_8, c_9, c_10, c_11]), ht9⟩) (fun _ h => by cases h) dX4_undone_79
          · refine lv_iconst (v := (-1)) hx hb dX4_undone_61 (by decide) ?_
            exact W.iret (v := (-1)) hx hb hr (fun t9 ht9 hW9 => ⟨(-1), rfl, (by first | with_reducible rfl | simp [aUndC, b_3, b_6, c_7, c_8, c_9, c_10, c_11]), ht9⟩) (fun _ h => by cases h) dX4_undone_62
        · have c_12 := i_nlt c_9
          refine lv_iload_n hx hb dX4_undone_40 rfl (lv_at hl 0 rfl) ?_
          exact W.iret (v := (ctI (sFail F f0 mo) c)) hx hb hr (fun t9 ht9 hW9 => ⟨(ctI (sFail F f0 mo) c), rfl, (by first | with_reducible rfl | simp [aUndC, b_3, b_6, c_7, c_8, c_9, c_12]), ht9⟩) (fun _ h => by cases h) dX4_undone_41
      · have c_13 := i_nle c_7
        refine lv_bipush (v := (-2)) hx hb dX4_undone_19 (by decide) ?_
        exact W.iret (v := (-2)) hx hb hr (fun t9 ht9 hW9 => ⟨(-2), rfl, (by first | with_reducible rfl | simp [aUndC, b_3, b_6, c_7, c_13]), ht9⟩) (fun _ h => by cases h) dX4_undone_21
set_option maxHeartbeats 4000000 in
set_option maxRecDepth 100000 in
/-- X4_payer -/
theorem c_X4_payer (l : Launch) (D : va_G) (cs : Nat → ClassId) (q : Nat → Nat) (F : Nat → Nat → Int32) (n c : Nat) (g : Int32) (x : Int32) (hI : Inv F n c) : Met l yX4_payer wsX4_payer ({ frames := 3, cells := 0, slots := 0, locals := 65 }) (va_Pc [.ref (q 0), .int x] (pw D cs (xW q cs F n c g))) (vp_Si (fun r => r = (aPayer F x))) 0 0 (fun _ => False) := by
  refine Met.ofW (cc := cX4_payer) (maxL := 3) (ret := (some .int)) (by decide) rfl ?_
  intro p e s m args below meth c_ s₁ B hml hv
  obtain ⟨rfl, hP, hK, hN⟩ := hv
  have hx := B.exec
  have hb := B.bytes
  have hr := B.returns
  have hts := atoms_spec (ws := wsX4_payer) B.pre
  have hown : s.vm.findClass RX4 = some m.cls := findClass_of_methodNamed B.named
  have hlocks := B.notSynchronized
  have hl := lv_entry ([.ref (q 0), .int x]) (n := 3) (Nat.le_of_ble_eq_true rfl)
  rw [lg_entry_eq]
  generalize (lg_sl ([.ref (q 0), .int x]) ++ List.replicate (3 - (lg_sl ([.ref (q 0), .int x])).length) Slot.unset).toArray = ls at hl ⊢
  have hl : lv_has ls 3 [(0, .ref (q 0)), (1, .int x)] := hl
  have hPo := va_P_l hP
  have hPt := va_P_l (va_P_r hP)
  have hPc := va_P_l (va_P_r (va_P_r hP))
  have hPp := va_P_l (va_P_r (va_P_r (va_P_r hP)))
  have hPw := va_P_r (va_P_r (va_P_r (va_P_r hP)))
  have hn60 := hI.n60
  have hc100 := hI.c100
  refine lv_iload_n hx hb dX4_payer_0 rfl (lv_at hl 1 rfl) ?_
  refine roSi (As := [.int x]) (rest := []) (v := (bI (rg x 0 9))) ⟨hx, hb, hml, hown, hts⟩ (c_X4_isPart l x) (va_cwS 1 hts gX4_payer_X4_isPart rfl rfl rfl (by decide +kernel) ⟨Nat.le_of_ble_eq_true rfl, Nat.le_of_ble_eq_true rfl⟩) rfl hl.1 rfl (Nat.le_of_ble_eq_true rfl) dX4_payer_1 ⟨Nat.zero_le _, Nat.zero_le _⟩ ?_
  refine lv_if_ne (tgt := 10) hx hb dX4_payer_4 (by decide) (fun c_1 => ?_) (fun c_1 => ?_)
  · have b_2 : (rg x 0 9) = true := bI_t c_1
    refine lv_aload_n hx hb dX4_payer_10 rfl (lv_at hl 0 rfl) ?_
    refine va_get (D := D) (ci := 4) (v := .ref (q 3)) (C := RX4) (T := TX4) (N := 5) hx hb hts (fun _ h => List.mem_cons_of_mem _ (List.mem_append_left _ (List.mem_append_right _ h))) hown hK hPo 0 rfl rfl 2 (by decide) (hts (.fieldLink RX4 26 "UnderPromise" "parts" "LUnderPromise$Parts;") (List.mem_of_getElem? (i := 1) rfl)) (fun _ h9 => h9) rfl dX4_payer_11 ?_
    refine lv_iload_n hx hb dX4_payer_14 rfl (lv_at hl 1 rfl) ?_
    refine roVi (As := [.int x]) (rest := []) (v := (fwm F 10 x)) ⟨hx, hb, hml, hown, hts⟩ (c_X1_firstWithMaker l D cs q F n c x hI) (cwV 1 hts gX4_payer_X1_firstWithMaker rfl rfl rfl (by decide +kernel) ⟨Nat.le_of_ble_eq_true rfl, Nat.le_of_ble_eq_true rfl⟩) hPp hK hN 0 rfl rfl rfl hl.1 rfl (Nat.le_of_ble_eq_true rfl) dX4_payer_15 ⟨Nat.zero_le _, Nat.zero_le _⟩ ?_
    refine lv_istore_n (lv' := [(2, .int (fwm F 10 x)), (0, .ref (q 0)), (1, .int x)]) hx hb dX4_payer_18 rfl hl (by decide) rfl (fun ls hl => ?_)
    refine lv_iload_n hx hb dX4_payer_19 rfl (lv_at hl 0 rfl) ?_
    refine roSi (As := [.int (fwm F 10 x)]) (rest := []) (v := (bI (rg (fwm F 10 x) 0 9))) ⟨hx, hb, hml, hown, hts⟩ (c_X4_isPart l (fwm F 10 x)) (va_cwS 1 hts gX4_payer_X4_isPart rfl rfl rfl (by decide +kernel) ⟨Nat.le_of_ble_eq_true rfl, Nat.le_of_ble_eq_true rfl⟩) rfl hl.1 rfl (Nat.le_of_ble_eq_true rfl) dX4_payer_20 ⟨Nat.zero_le _, Nat.zero_le _⟩ ?_
    refine lv_if_eq (tgt := 38) hx hb dX4_payer_23 (by decide) (fun c_3 => ?_) (fun c_3 => ?_)
    · have b_4 : (rg (fwm F 10 x) 0 9) = false := bI_f c_3
      refine lv_iconst (v := (-1)) hx hb dX4_payer_38 (by decide) ?_
      exact W.iret (v := (-1)) hx hb hr (fun t9 ht9 hW9 => ⟨(-1), rfl, (by first | with_reducible rfl | simp [aPayer, b_2, b_4]), ht9⟩) (fun _ h => by cases h) dX4_payer_39
    · have b_5 : (rg (fwm F 10 x) 0 9) = true := bI_t c_3
      refine lv_aload_n hx hb dX4_payer_26 rfl (lv_at hl 1 rfl) ?_
      refine va_get (D := D) (ci := 4) (v := .ref (q 3)) (C := RX4) (T := TX4) (N := 5) hx hb hts (fun _ h => List.mem_cons_of_mem _ (List.mem_append_left _ (List.mem_append_right _ h))) hown hK hPo 0 rfl rfl 2 (by decide) (hts (.fieldLink RX4 26 "UnderPromise" "parts" "LUnderPromise$Parts;") (List.mem_of_getElem? (i := 1) rfl)) (fun _ h9 => h9) rfl dX4_payer_27 ?_
      refine va_getN (D := D) (ci := 1) (v := .ref (q 31)) (C := RX1) (T := TX1) (N := 3) hx hb hts (fun _ h => List.mem_cons_of_mem _ (List.mem_append_right _ h)) hown hK hPp 0 rfl rfl 1 (by decide) (va_Nw.use rfl hN.2.2.2.2.2.2.2.2.2.2.2.2.2.1) (fun _ h9 => h9) rfl dX4_payer_30 ?_
      refine lv_iload_n hx hb dX4_payer_33 rfl (lv_at hl 0 rfl) ?_
      refine iaK (v := (F 13 (ix (fwm F 10 x)))) hx hb hK hPp 2 0 rfl rfl (ix (fwm F 10 x)) (rg_in (by decide) (by decide) b_5) rfl rfl dX4_payer_34 ?_
      refine lv_goto (tgt := 39) hx hb dX4_payer_35 (by decide) ?_
      exact W.iret (v := (F 13 (ix (fwm F 10 x)))) hx hb hr (fun t9 ht9 hW9 => ⟨(F 13 (ix (fwm F 10 x))), rfl, (by first | with_reducible rfl | simp [aPayer, b_2, b_5]), ht9⟩) (fun _ h => by cases h) dX4_payer_39
  · have b_6 : (rg x 0 9) = false := bI_f c_1
    refine lv_bipush (v := (-2)) hx hb dX4_payer_7 (by decide) ?_
    exact W.iret (v := (-2)) hx hb hr (fun t9 ht9 hW9 => ⟨(-2), rfl, (by first | with_reducible rfl | simp [aPayer, b_6]), ht9⟩) (fun _ h => by cases h) dX4_payer_9
set_option maxHeartbeats 4000000 in
set_option maxRecDepth 100000 in
/-- X4_paidBy -/
theorem c_X4_paidBy (l : Launch) (D : va_G) (cs : Nat → ClassId) (q : Nat → Nat) (F : Nat → Nat → Int32) (n c : Nat) (g : Int32) (who : Int32) (hI : Inv F n c) (hw9 : ¬ who < 0) : Met l yX4_paidBy wsX4_paidBy ({ frames := 3, cells := 0, slots := 0, locals := 65 }) (va_Pc [.ref (q 0), .int who] (pw D cs (xW q cs F n c g))) (vp_Si (fun r => r = (smI (sPaid F who) c))) 0 0 (fun _ => False) := by
  refine Met.ofW (cc := cX4_paidBy) (maxL := 5) (ret := (some .int)) (by decide) rfl ?_
  intro p e s m args below meth c_ s₁ B hml hv
  obtain ⟨rfl, hP, hK, hN⟩ := hv
  have hx := B.exec
  have hb := B.bytes
  have hr := B.returns
  have hts := atoms_spec (ws := wsX4_paidBy) B.pre
  have hown : s.vm.findClass RX4 = some m.cls := findClass_of_methodNamed B.named
  have hlocks := B.notSynchronized
  have hl := lv_entry ([.ref (q 0), .int who]) (n := 5) (Nat.le_of_ble_eq_true rfl)
  rw [lg_entry_eq]
  generalize (lg_sl ([.ref (q 0), .int who]) ++ List.replicate (5 - (lg_sl ([.ref (q 0), .int who])).length) Slot.unset).toArray = ls at hl ⊢
  have hl : lv_has ls 5 [(0, .ref (q 0)), (1, .int who)] := hl
  have hPo := va_P_l hP
  have hPt := va_P_l (va_P_r hP)
  have hPc := va_P_l (va_P_r (va_P_r hP))
  have hPp := va_P_l (va_P_r (va_P_r (va_P_r hP)))
  have hPw := va_P_r (va_P_r (va_P_r (va_P_r hP)))
  have hn60 := hI.n60
  have hc100 := hI.c100
  refine lv_iconst (v := 0) hx hb dX4_paidBy_0 (by decide) ?_
  refine lv_istore_n (lv' := [(2, .int 0), (0, .ref (q 0)), (1, .int who)]) hx hb dX4_paidBy_1 rfl hl (by decide) rfl (fun ls hl => ?_)
  refine lv_iconst (v := 0) hx hb dX4_paidBy_2 (by decide) ?_
  refine lv_istore_n (lv' := [(3, .int 0), (2, .int 0), (0, .ref (q 0)), (1, .int who)]) hx hb dX4_paidBy_3 rfl hl (by decide) rfl (fun ls hl => ?_)
  refine lpW (fun k ls => lv_has ls 5 [(0, .ref (q 0)), (1, .int who), (2, .int (smI (sPaid F who) k)), (3, .int (nI k))]) c 0 (Nat.zero_le _) ls (show lv_has ls 5 [(0, .ref (q 0)), (1, .int who), (2, .int (smI (sPaid F who) 0)), (3, .int (nI 0))] from lv_sub hl [2, 3, 1, 0] rfl) ?_ ?_
  · intro ls hl
    have hl : lv_has ls 5 [(0, .ref (q 0)), (1, .int who), (2, .int (smI (sPaid F who) c)), (3, .int (nI c))] := hl
    refine lv_iload_n hx hb dX4_paidBy_4 rfl (lv_at hl 3 rfl) ?_
    refine lv_aload_n hx hb dX4_paidBy_5 rfl (lv_at hl 0 rfl) ?_
    refine va_get (D := D) (ci := 4) (v := .ref (q 2)) (C := RX4) (T := TX4) (N := 5) hx hb hts (fun _ h => List.mem_cons_of_mem _ (List.mem_append_left _ (List.mem_append_left _ (List.mem_append_right _ h)))) hown hK hPo 0 rfl rfl 1 (by decide) (hts (.fieldLink RX4 19 "UnderPromise" "claims" "LUnderPromise$Claims;") (List.mem_of_getElem? (i := 1) rfl)) (fun _ h9 => h9) rfl dX4_paidBy_6 ?_
    refine va_getN (D := D) (ci := 0) (v := .int (nI c)) (C := RX0) (T := TX0) (N := 8) hx hb hts (fun _ h => List.mem_cons_of_mem _ (List.mem_append_left _ (List.mem_append_right _ h))) hown hK hPc 0 rfl rfl 7 (by decide) (va_Nw.use rfl hN.2.2.2.2.2.2.2.2.2.2.2.1) (fun _ h9 => h9) rfl dX4_paidBy_9 ?_
    refine lv_icmp_ge (tgt := 102) hx hb dX4_paidBy_12 (by decide) (fun c_1 => ?_) (fun c_1 => ?_)
    · have c_2 := i_le c_1
      refine lv_iload_n hx hb dX4_paidBy_102 rfl (lv_at hl 2 rfl) ?_
      exact W.iret (v := (smI (sPaid F who) c)) hx hb hr (fun t9 ht9 hW9 => ⟨(smI (sPaid F who) c), rfl, rfl, ht9⟩) (fun _ h => by cases h) dX4_paidBy_103
    · exact absurd (nI_le (Nat.le_refl _) (by omega)) c_1
  · intro k hk0 hk ih ls hl
    have hl : lv_has ls 5 [(0, .ref (q 0)), (1, .int who), (2, .int (smI (sPaid F who) k)), (3, .int (nI k))] := hl
    refine lv_iload_n hx hb dX4_paidBy_4 rfl (lv_at hl 3 rfl) ?_
    refine lv_aload_n hx hb dX4_paidBy_5 rfl (lv_at hl 0 rfl) ?_
    refine va_get (D := D) (ci := 4) (v := .ref (q 2)) (C := RX4) (T := TX4) (N := 5) hx hb hts (fun _ h => List.mem_cons_of_mem _ (List.mem_append_left _ (List.mem_append_left _ (List.mem_append_right _ h)))) hown hK hPo 0 rfl rfl 1 (by decide) (hts (.fieldLink RX4 19 "UnderPromise" "claims" "LUnderPromise$Claims;") (List.mem_of_getElem? (i := 1) rfl)) (fun _ h9 => h9) rfl dX4_paidBy_6 ?_
    refine va_getN (D := D) (ci := 0) (v := .int (nI c)) (C := RX0) (T := TX0) (N := 8) hx hb hts (fun _ h => List.mem_cons_of_mem _ (List.mem_append_left _ (List.mem_append_right _ h))) hown hK hPc 0 rfl rfl 7 (by decide) (va_Nw.use rfl hN.2.2.2.2.2.2.2.2.2.2.2.1) (fun _ h9 => h9) rfl dX4_paidBy_9 ?_
    refine lv_icmp_ge (tgt := 102) hx hb dX4_paidBy_12 (by decide) (fun c_3 => ?_) (fun c_3 => ?_)
    · exact absurd c_3 (nI_ge hk (by omega))
    · have c_4 := i_nle c_3
      refine lv_aload_n hx hb dX4_paidBy_15 rfl (lv_at hl 0 rfl) ?_
      refine va_get (D := D) (ci := 4) (v := .ref (q 2)) (C := RX4) (T := TX4) (N := 5) hx hb hts (fun _ h => List.mem_cons_of_mem _ (List.mem_append_left _ (List.mem_append_left _ (List.mem_append_right _ h)))) hown hK hPo 0 rfl rfl 1 (by decide) (hts (.fieldLink RX4 19 "UnderPromise" "claims" "LUnderPromise$Claims;") (List.mem_of_getElem? (i := 1) rfl)) (fun _ h9 => h9) rfl dX4_paidBy_16 ?_
      refine va_getN (D := D) (ci := 0) (v := .ref (q 26)) (C := RX0) (T := TX0) (N := 8) hx hb hts (fun _ h => List.mem_cons_of_mem _ (List.mem_append_left _ (List.mem_append_right _ h))) hown hK hPc 0 rfl rfl 6 (by decide) (va_Nw.use rfl hN.2.2.2.2.2.2.2.2.2.2.1) (fun _ h9 => h9) rfl dX4_paidBy_19 ?_
      refine lv_iload_n hx hb dX4_paidBy_22 rfl (lv_at hl 3 rfl) ?_
      refine iaK (v := (F 11 k)) hx hb hK hPc 7 0 rfl rfl k (vp_in_nI (by omega) (by decide)) (nI_clamp (by omega)) rfl dX4_paidBy_23 ?_
      refine lv_if_eq (tgt := 30) hx hb dX4_paidBy_24 (by decide) (fun c_5 => ?_) (fun c_5 => ?_)
      · refine lv_aload_n hx hb dX4_paidBy_30 rfl (lv_at hl 0 rfl) ?_
        refine va_get (D := D) (ci := 4) (v := .ref (q 3)) (C := RX4) (T := TX4) (N := 5) hx hb hts (fun _ h => List.mem_cons_of_mem _ (List.mem_append_left _ (List.mem_append_left _ (List.mem_append_right _ h)))) hown hK hPo 0 rfl rfl 2 (by decide) (hts (.fieldLink RX4 26 "UnderPromise" "parts" "LUnderPromise$Parts;") (List.mem_of_getElem? (i := 2) rfl)) (fun _ h9 => h9) rfl dX4_paidBy_31 ?_
        refine lv_aload_n hx hb dX4_paidBy_34 rfl (lv_at hl 0 rfl) ?_
        refine va_get (D := D) (ci := 4) (v := .ref (q 2)) (C := RX4) (T := TX4) (N := 5) hx hb hts (fun _ h => List.mem_cons_of_mem _ (List.mem_append_left _ (List.mem_append_left _ (List.mem_append_right _ h)))) hown hK hPo 0 rfl rfl 1 (by decide) (hts (.fieldLink RX4 19 "UnderPromise" "claims" "LUnderPromise$Claims;") (List.mem_of_getElem? (i := 1) rfl)) (fun _ h9 => h9) rfl dX4_paidBy_35 ?_
        refine va_getN (D := D) (ci := 0) (v := .ref (q 21)) (C := RX0) (T := TX0) (N := 8) hx hb hts (fun _ h => List.mem_cons_of_mem _ (List.mem_append_left _ (List.mem_append_right _ h))) hown hK hPc 0 rfl rfl 1 (by decide) (va_Nw.use rfl hN.2.2.2.2.2.2.2.2.1) (fun _ h9 => h9) rfl dX4_paidBy_38 ?_
        refine lv_iload_n hx hb dX4_paidBy_41 rfl (lv_at hl 3 rfl) ?_
        refine iaK (v := (F 7 k)) hx hb hK hPc 2 0 rfl rfl k (vp_in_nI (by omega) (by decide)) (nI_clamp (by omega)) rfl dX4_paidBy_42 ?_
        refine roVi (As := [.int (F 7 k)]) (rest := []) (v := (fwm F 10 (F 7 k))) ⟨hx, hb, hml, hown, hts⟩ (c_X1_firstWithMaker l D cs q F n c (F 7 k) hI) (cwV 1 hts gX4_paidBy_X1_firstWithMaker rfl rfl rfl (by decide +kernel) ⟨Nat.le_of_ble_eq_true rfl, Nat.le_of_ble_eq_true rfl⟩) hPp hK hN 0 rfl rfl rfl hl.1 rfl (Nat.le_of_ble_eq_true rfl) dX4_paidBy_43 ⟨Nat.zero_le _, Nat.zero_le _⟩ ?_
        refine lv_istore (lv' := [(4, .int (fwm F 10 (F 7 k))), (0, .ref (q 0)), (1, .int who), (2, .int (smI (sPaid F who) k)), (3, .int (nI k))]) hx hb dX4_paidBy_46 hl (by decide) rfl (fun ls hl => ?_)
        refine lv_iload hx hb dX4_paidBy_48 (lv_at hl 0 rfl) ?_
        refine roSi (As := [.int (fwm F 10 (F 7 k))]) (rest := []) (v := (bI (rg (fwm F 10 (F 7 k)) 0 9))) ⟨hx, hb, hml, hown, hts⟩ (c_X4_isPart l (fwm F 10 (F 7 k))) (va_cwS 1 hts gX4_paidBy_X4_isPart rfl rfl rfl (by decide +kernel) ⟨Nat.le_of_ble_eq_true rfl, Nat.le_of_ble_eq_true rfl⟩) rfl hl.1 rfl (Nat.le_of_ble_eq_true rfl) dX4_paidBy_50 ⟨Nat.zero_le _, Nat.zero_le _⟩ ?_
        refine lv_if_eq (tgt := 96) hx hb dX4_paidBy_53 (by decide) (fun c_6 => ?_) (fun c_6 => ?_)
        · have b_7 : (rg (fwm F 10 (F 7 k)) 0 9) = false := bI_f c_6
          refine lv_iinc (v := ((nI k) + 1)) (lv' := [(3, .int ((nI k) + 1)), (4, .int (fwm F 10 (F 7 k))), (0, .ref (q 0)), (1, .int who), (2, .int (smI (sPaid F who) k))]) hx hb dX4_paidBy_96 hl (k := 4) rfl rfl (by decide) rfl (fun ls hl => ?_)
          refine lv_goto (tgt := 4) hx hb dX4_paidBy_99 (by decide) ?_
          have h_8 : (smI (sPaid F who) k) = (smI (sPaid F who) (k + 1)) := (by first | with_reducible rfl | simp [smI, sPaid, hw9, c_3, c_4, c_5, b_7])
          have h_9 : ((nI k) + 1) = (nI (k + 1)) := (nI_1 _)
          exact ih _ (lv_cast (lv_sub (l' := [(0, .ref (q 0)), (1, .int who), (2, .int (smI (sPaid F who) k)), (3, .int ((nI k) + 1))]) hl [2, 3, 4, 0] rfl) (cg2 (fun z8 z9 => [(0, .ref (q 0)), (1, .int who), (2, .int z8), (3, .int z9)]) h_8 h_9))
        · have b_10 : (rg (fwm F 10 (F 7 k)) 0 9) = true := bI_t c_6
          refine lv_aload_n hx hb dX4_paidBy_56 rfl (lv_at hl 1 rfl) ?_
          refine va_get (D := D) (ci := 4) (v := .ref (q 3)) (C := RX4) (T := TX4) (N := 5) hx hb hts (fun _ h => List.mem_cons_of_mem _ (List.mem_append_left _ (List.mem_append_left _ (List.mem_append_right _ h)))) hown hK hPo 0 rfl rfl 2 (by decide) (hts (.fieldLink RX4 26 "UnderPromise" "parts" "LUnderPromise$Parts;") (List.mem_of_getElem? (i := 2) rfl)) (fun _ h9 => h9) rfl dX4_paidBy_57 ?_
          refine va_getN (D := D) (ci := 1) (v := .ref (q 31)) (C := RX1) (T := TX1) (N := 3) hx hb hts (fun _ h => List.mem_cons_of_mem _ (List.mem_append_right _ h)) hown hK hPp 0 rfl rfl 1 (by decide) (va_Nw.use rfl hN.2.2.2.2.2.2.2.2.2.2.2.2.2.1) (fun _ h9 => h9) rfl dX4_paidBy_60 ?_
          refine lv_iload hx hb dX4_paidBy_63 (lv_at hl 0 rfl) ?_
          refine iaK (v := (F 13 (ix (fwm F 10 (F 7 k))))) hx hb hK hPp 2 0 rfl rfl (ix (fwm F 10 (F 7 k))) (rg_in (by decide) (by decide) b_10) rfl rfl dX4_paidBy_65 ?_
          refine lv_iload_n hx hb dX4_paidBy_66 rfl (lv_at hl 2 rfl) ?_
          refine lv_icmp_ne (tgt := 96) hx hb dX4_paidBy_67 (by decide) (fun c_11 => ?_) (fun c_11 => ?_)
          · refine lv_iinc (v := ((nI k) + 1)) (lv' := [(3, .int ((nI k) + 1)), (4, .int (fwm F 10 (F 7 k))), (0, .ref (q 0)), (1, .int who), (2, .int (smI (sPaid F who) k))]) hx hb dX4_paidBy_96 hl (k := 4) rfl rfl (by decide) rfl (fun ls hl => ?_)
            refine lv_goto (tgt := 4) hx hb dX4_paidBy_99 (by decide) ?_
            have h_12 : (smI (sPaid F who) k) = (smI (sPaid F who) (k + 1)) := (by first | with_reducible rfl | simp [smI, sPaid, hw9, c_3, c_4, c_5, b_10, c_11])
            have h_13 : ((nI k) + 1) = (nI (k + 1)) := (nI_1 _)
            exact ih _ (lv_cast (lv_sub (l' := [(0, .ref (q 0)), (1, .int who), (2, .int (smI (sPaid F who) k)), (3, .int ((nI k) + 1))]) hl [2, 3, 4, 0] rfl) (cg2 (fun z12 z13 => [(0, .ref (q 0)), (1, .int who), (2, .int z12), (3, .int z13)]) h_12 h_13))
          · refine lv_iload_n hx hb dX4_paidBy_70 rfl (lv_at hl 3 rfl) ?_
            refine lv_aload_n hx hb dX4_paidBy_71 rfl (lv_at hl 1 rfl) ?_
            refine va_get (D := D) (ci := 4) (v := .ref (q 2)) (C := RX4) (T := TX4) (N := 5) hx hb hts (fun _ h => List.mem_cons_of_mem _ (List.mem_append_left _ (List.mem_append_left _ (List.mem_append_right _ h)))) hown hK hPo 0 rfl rfl 1 (by decide) (hts (.fieldLink RX4 19 "UnderPromise" "claims" "LUnderPromise$Claims;") (List.mem_of_getElem? (i := 1) rfl)) (fun _ h9 => h9) rfl dX4_paidBy_72 ?_
            refine va_getN (D := D) (ci := 0) (v := .ref (q 24)) (C := RX0) (T := TX0) (N := 8) hx hb hts (fun _ h => List.mem_cons_of_mem _ (List.mem_append_left _ (List.mem_append_right _ h))) hown hK hPc 0 rfl rfl 4 (by decide) (va_Nw.use rfl hN.2.2.2.2.2.2.2.2.2.1) (fun _ h9 => h9) rfl dX4_paidBy_75 ?_
            refine lv_iload_n hx hb dX4_paidBy_78 rfl (lv_at hl 4 rfl) ?_
            refine iaK (v := (F 10 k)) hx hb hK hPc 5 0 rfl rfl k (vp_in_nI (by omega) (by decide)) (nI_clamp (by omega)) rfl dX4_paidBy_79 ?_
            refine lv_aload_n hx hb dX4_paidBy_80 rfl (lv_at hl 1 rfl) ?_
            refine va_get (D := D) (ci := 4) (v := .ref (q 3)) (C := RX4) (T := TX4) (N := 5) hx hb hts (fun _ h => List.mem_cons_of_mem _ (List.mem_append_left _ (List.mem_append_left _ (List.mem_append_right _ h)))) hown hK hPo 0 rfl rfl 2 (by decide) (hts (.fieldLink RX4 26 "UnderPromise" "parts" "LUnderPromise$Parts;") (List.mem_of_getElem? (i := 2) rfl)) (fun _ h9 => h9) rfl dX4_paidBy_81 ?_
            refine va_getN (D := D) (ci := 1) (v := .ref (q 32)) (C := RX1) (T := TX1) (N := 3) hx hb hts (fun _ h => List.mem_cons_of_mem _ (List.mem_append_right _ h)) hown hK hPp 0 rfl rfl 2 (by decide) (va_Nw.use rfl hN.2.2.2.2.2.2.2.2.2.2.2.2.2.2) (fun _ h9 => h9) rfl dX4_paidBy_84 ?_
            refine lv_iload hx hb dX4_paidBy_87 (lv_at hl 0 rfl) ?_
            refine iaK (v := (F 14 (ix (fwm F 10 (F 7 k))))) hx hb hK hPp 3 0 rfl rfl (ix (fwm F 10 (F 7 k))) (rg_in (by decide) (by decide) b_10) rfl rfl dX4_paidBy_89 ?_
            refine lv_imul hx hb dX4_paidBy_90 ?_
            refine lv_bipush (v := 100) hx hb dX4_paidBy_91 (by decide) ?_
            refine lv_idiv hx hb dX4_paidBy_93 (by decide) ?_
            refine lv_iadd hx hb dX4_paidBy_94 ?_
            refine lv_istore_n (lv' := [(2, .int ((smI (sPaid F who) k) + (((F 10 k) * (F 14 (ix (fwm F 10 (F 7 k))))) / 100))), (4, .int (fwm F 10 (F 7 k))), (0, .ref (q 0)), (1, .int who), (3, .int (nI k))]) hx hb dX4_paidBy_95 rfl hl (by decide) rfl (fun ls hl => ?_)
            refine lv_iinc (v := ((nI k) + 1)) (lv' := [(3, .int ((nI k) + 1)), (2, .int ((smI (sPaid F who) k) + (((F 10 k) * (F 14 (ix (fwm F 10 (F 7 k))))) / 100))), (4, .int (fwm F 10 (F 7 k))), (0, .ref (q 0)), (1, .int who)]) hx hb dX4_paidBy_96 hl (k := 4) rfl rfl (by decide) rfl (fun ls hl => ?_)
            refine lv_goto (tgt := 4) hx hb dX4_paidBy_99 (by decide) ?_
            have h_14 : ((smI (sPaid F who) k) + (((F 10 k) * (F 14 (ix (fwm F 10 (F 7 k))))) / 100)) = (smI (sPaid F who) (k + 1)) := (by first | with_reducible rfl | simp [smI, sPaid, hw9, c_3, c_4, c_5, b_10, c_11])
            have h_15 : ((nI k) + 1) = (nI (k + 1)) := (nI_1 _)
            exact ih _ (lv_cast (lv_sub (l' := [(0, .ref (q 0)), (1, .int who), (2, .int ((smI (sPaid F who) k) + (((F 10 k) * (F 14 (ix (fwm F 10 (F 7 k))))) / 100))), (3, .int ((nI k) + 1))]) hl [3, 4, 1, 0] rfl) (cg2 (fun z14 z15 => [(0, .ref (q 0)), (1, .int who), (2, .int z14), (3, .int z15)]) h_14 h_15))
      · refine lv_goto (tgt := 96) hx hb dX4_paidBy_27 (by decide) ?_
        refine lv_iinc (v := ((nI k) + 1)) (lv' := [(3, .int ((nI k) + 1)), (0, .ref (q 0)), (1, .int who), (2, .int (smI (sPaid F who) k))]) hx hb dX4_paidBy_96 hl (k := 3) rfl rfl (by decide) rfl (fun ls hl => ?_)
        refine lv_goto (tgt := 4) hx hb dX4_paidBy_99 (by decide) ?_
        have h_16 : (smI (sPaid F who) k) = (smI (sPaid F who) (k + 1)) := (by first | with_reducible rfl | simp [smI, sPaid, hw9, c_3, c_4, c_5])
        have h_17 : ((nI k) + 1) = (nI (k + 1)) := (nI_1 _)
        exact ih _ (lv_cast (lv_sub (l' := [(0, .ref (q 0)), (1, .int who), (2, .int (smI (sPaid F who) k)), (3, .int ((nI k) + 1))]) hl [1, 2, 3, 0] rfl) (cg2 (fun z16 z17 => [(0, .ref (q 0)), (1, .int who), (2, .int z16), (3, .int z17)]) h_16 h_17))
set_option maxHeartbeats 4000000 in
set_option maxRecDepth 100000 in
/-- X4_pays -/
theorem c_X4_pays (l : Launch) (D : va_G) (cs : Nat → ClassId) (q : Nat → Nat) (F : Nat → Nat → Int32) (n c : Nat) (g : Int32) (who : Int32) (hI : Inv F n c) : Met l yX4_pays wsX4_pays ({ frames := 4, cells := 0, slots := 0, locals := 89 }) (va_Pc [.ref (q 0), .int who] (pw D cs (xW q cs F n c g))) (vp_Si (fun r => r = (aPays F c who))) 0 0 (fun _ => False) := by
  refine Met.ofW (cc := cX4_pays) (maxL := 2) (ret := (some .int)) (by decide) rfl ?_
  intro p e s m args below meth c_ s₁ B hml hv
  obtain ⟨rfl, hP, hK, hN⟩ := hv
  have hx := B.exec
  have hb := B.bytes
  have hr := B.returns
  have hts := atoms_spec (ws := wsX4_pays) B.pre
  have hown : s.vm.findClass RX4 = some m.cls := findClass_of_methodNamed B.named
  have hlocks := B.notSynchronized
  have hl := lv_entry ([.ref (q 0), .int who]) (n := 2) (Nat.le_of_ble_eq_true rfl)
  rw [lg_entry_eq]
  generalize (lg_sl ([.ref (q 0), .int who]) ++ List.replicate (2 - (lg_sl ([.ref (q 0), .int who])).length) Slot.unset).toArray = ls at hl ⊢
  have hl : lv_has ls 2 [(0, .ref (q 0)), (1, .int who)] := hl
  have hPo := va_P_l hP
  have hPt := va_P_l (va_P_r hP)
  have hPc := va_P_l (va_P_r (va_P_r hP))
  have hPp := va_P_l (va_P_r (va_P_r (va_P_r hP)))
  have hPw := va_P_r (va_P_r (va_P_r (va_P_r hP)))
  have hn60 := hI.n60
  have hc100 := hI.c100
  refine lv_iload_n hx hb dX4_pays_0 rfl (lv_at hl 1 rfl) ?_
  refine roSi (As := [.int who]) (rest := []) (v := (bI (rg who 0 5))) ⟨hx, hb, hml, hown, hts⟩ (c_X4_isMaker l who) (va_cwS 1 hts gX4_pays_X4_isMaker rfl rfl rfl (by decide +kernel) ⟨Nat.le_of_ble_eq_true rfl, Nat.le_of_ble_eq_true rfl⟩) rfl hl.1 rfl (Nat.le_of_ble_eq_true rfl) dX4_pays_1 ⟨Nat.zero_le _, Nat.zero_le _⟩ ?_
  refine lv_if_eq (tgt := 15) hx hb dX4_pays_4 (by decide) (fun c_1 => ?_) (fun c_1 => ?_)
  · have b_2 : (rg who 0 5) = false := bI_f c_1
    refine lv_bipush (v := (-2)) hx hb dX4_pays_15 (by decide) ?_
    exact W.iret (v := (-2)) hx hb hr (fun t9 ht9 hW9 => ⟨(-2), rfl, (by first | with_reducible rfl | simp [aPays, b_2]), ht9⟩) (fun _ h => by cases h) dX4_pays_17
  · have b_3 : (rg who 0 5) = true := bI_t c_1
    refine lv_aload_n hx hb dX4_pays_7 rfl (lv_at hl 0 rfl) ?_
    refine lv_iload_n hx hb dX4_pays_8 rfl (lv_at hl 1 rfl) ?_
    refine roVi (As := [.int who]) (rest := []) (v := (smI (sPaid F who) c)) ⟨hx, hb, hml, hown, hts⟩ (c_X4_paidBy l D cs q F n c g who hI (rg_nn b_3)) (cwV 1 hts gX4_pays_X4_paidBy rfl rfl rfl (by decide +kernel) ⟨Nat.le_of_ble_eq_true rfl, Nat.le_of_ble_eq_true rfl⟩) hP hK hN 0 rfl rfl rfl hl.1 rfl (Nat.le_of_ble_eq_true rfl) dX4_pays_9 ⟨Nat.zero_le _, Nat.zero_le _⟩ ?_
    refine lv_goto (tgt := 17) hx hb dX4_pays_12 (by decide) ?_
    exact W.iret (v := (smI (sPaid F who) c)) hx hb hr (fun t9 ht9 hW9 => ⟨(smI (sPaid F who) c), rfl, (by first | with_reducible rfl | simp [aPays, b_3]), ht9⟩) (fun _ h => by cases h) dX4_pays_17
set_option maxHeartbeats 4000000 in
set_option maxRecDepth 100000 in
/-- X4_left -/
theorem c_X4_left (l : Launch) (D : va_G) (cs : Nat → ClassId) (q : Nat → Nat) (F : Nat → Nat → Int32) (n c : Nat) (g : Int32)  (hI : Inv F n c) : Met l yX4_left wsX4_left ({ frames := 4, cells := 0, slots := 0, locals := 89 }) (va_Pc [.ref (q 0)] (pw D cs (xW q cs F n c g))) (vp_Si (fun r => r = (sbI (fun j => smI (sPaid F (nI j)) c) (smI (sCost F) c) 6))) 0 0 (fun _ => False) := by
  refine Met.ofW (cc := cX4_left) (maxL := 3) (ret := (some .int)) (by decide) rfl ?_
  intro p e s m args below meth c_ s₁ B hml hv
  obtain ⟨rfl, hP, hK, hN⟩ := hv
  have hx := B.exec
  have hb := B.bytes
  have hr := B.returns
  have hts := atoms_spec (ws := wsX4_left) B.pre
  have hown : s.vm.findClass RX4 = some m.cls := findClass_of_methodNamed B.named
  have hlocks := B.notSynchronized
  have hl := lv_entry ([.ref (q 0)]) (n := 3) (Nat.le_of_ble_eq_true rfl)
  rw [lg_entry_eq]
  generalize (lg_sl ([.ref (q 0)]) ++ List.replicate (3 - (lg_sl ([.ref (q 0)])).length) Slot.unset).toArray = ls at hl ⊢
  have hl : lv_has ls 3 [(0, .ref (q 0))] := hl
  have hPo := va_P_l hP
  have hPt := va_P_l (va_P_r hP)
  have hPc := va_P_l (va_P_r (va_P_r hP))
  have hPp := va_P_l (va_P_r (va_P_r (va_P_r hP)))
  have hPw := va_P_r (va_P_r (va_P_r (va_P_r hP)))
  have hn60 := hI.n60
  have hc100 := hI.c100
  refine lv_aload_n hx hb dX4_left_0 rfl (lv_at hl 0 rfl) ?_
  refine va_get (D := D) (ci := 4) (v := .ref (q 2)) (C := RX4) (T := TX4) (N := 5) hx hb hts (fun _ h => List.mem_cons_of_mem _ (List.mem_append_left _ (List.mem_append_left _ (List.mem_append_right _ h)))) hown hK hPo 0 rfl rfl 1 (by decide) (hts (.fieldLink RX4 19 "UnderPromise" "claims" "LUnderPromise$Claims;") (List.mem_of_getElem? (i := 1) rfl)) (fun _ h9 => h9) rfl dX4_left_1 ?_
  refine roVi (As := []) (rest := []) (v := (smI (sCost F) c)) ⟨hx, hb, hml, hown, hts⟩ (c_X0_letCost l D cs q F n c  hI) (cwV 0 hts gX4_left_X0_letCost rfl rfl rfl (by decide +kernel) ⟨Nat.le_of_ble_eq_true rfl, Nat.le_of_ble_eq_true rfl⟩) hPc hK hN 0 rfl rfl rfl hl.1 rfl (Nat.le_of_ble_eq_true rfl) dX4_left_4 ⟨Nat.zero_le _, Nat.zero_le _⟩ ?_
  refine lv_istore_n (lv' := [(1, .int (smI (sCost F) c)), (0, .ref (q 0))]) hx hb dX4_left_7 rfl hl (by decide) rfl (fun ls hl => ?_)
  refine lv_iconst (v := 0) hx hb dX4_left_8 (by decide) ?_
  refine lv_istore_n (lv' := [(2, .int 0), (1, .int (smI (sCost F) c)), (0, .ref (q 0))]) hx hb dX4_left_9 rfl hl (by decide) rfl (fun ls hl => ?_)
  refine lpW (fun k ls => lv_has ls 3 [(0, .ref (q 0)), (1, .int (sbI (fun j => smI (sPaid F (nI j)) c) (smI (sCost F) c) k)), (2, .int (nI k))]) 6 0 (Nat.zero_le _) ls (show lv_has ls 3 [(0, .ref (q 0)), (1, .int (sbI (fun j => smI (sPaid F (nI j)) c) (smI (sCost F) c) 0)), (2, .int (nI 0))] from lv_sub hl [2, 1, 0] rfl) ?_ ?_
  · intro ls hl
    have hl : lv_has ls 3 [(0, .ref (q 0)), (1, .int (sbI (fun j => smI (sPaid F (nI j)) c) (smI (sCost F) c) 6)), (2, .int (nI 6))] := hl
    refine lv_iload_n hx hb dX4_left_10 rfl (lv_at hl 2 rfl) ?_
    refine lv_bipush (v := 6) hx hb dX4_left_11 (by decide) ?_
    refine lv_icmp_ge (tgt := 30) hx hb dX4_left_13 (by decide) (fun c_1 => ?_) (fun c_1 => ?_)
    · have c_2 := i_le c_1
      refine lv_iload_n hx hb dX4_left_30 rfl (lv_at hl 1 rfl) ?_
      exact W.iret (v := (sbI (fun j => smI (sPaid F (nI j)) c) (smI (sCost F) c) 6)) hx hb hr (fun t9 ht9 hW9 => ⟨(sbI (fun j => smI (sPaid F (nI j)) c) (smI (sCost F) c) 6), rfl, rfl, ht9⟩) (fun _ h => by cases h) dX4_left_31
    · exact absurd (nI_le (b := 6) (Nat.le_refl 6) (by decide)) c_1
  · intro k hk0 hk ih ls hl
    have hl : lv_has ls 3 [(0, .ref (q 0)), (1, .int (sbI (fun j => smI (sPaid F (nI j)) c) (smI (sCost F) c) k)), (2, .int (nI k))] := hl
    refine lv_iload_n hx hb dX4_left_10 rfl (lv_at hl 2 rfl) ?_
    refine lv_bipush (v := 6) hx hb dX4_left_11 (by decide) ?_
    refine lv_icmp_ge (tgt := 30) hx hb dX4_left_13 (by decide) (fun c_3 => ?_) (fun c_3 => ?_)
    · exact absurd c_3 (nI_ge (b := 6) hk (by decide))
    · have c_4 := i_nle c_3
      refine lv_iload_n hx hb dX4_left_16 rfl (lv_at hl 1 rfl) ?_
      refine lv_aload_n hx hb dX4_left_17 rfl (lv_at hl 0 rfl) ?_
      refine lv_iload_n hx hb dX4_left_18 rfl (lv_at hl 2 rfl) ?_
      refine roVi (As := [.int (nI k)]) (rest := [.int (sbI (fun j => smI (sPaid F (nI j)) c) (smI (sCost F) c) k)]) (v := (smI (sPaid F (nI k)) c)) ⟨hx, hb, hml, hown, hts⟩ (c_X4_paidBy l D cs q F n c g (nI k) hI (nI_nn (by omega))) (cwV 1 hts gX4_left_X4_paidBy rfl rfl rfl (by decide +kernel) ⟨Nat.le_of_ble_eq_true rfl, Nat.le_of_ble_eq_true rfl⟩) hP hK hN 0 rfl rfl rfl hl.1 rfl (Nat.le_of_ble_eq_true rfl) dX4_left_19 ⟨Nat.zero_le _, Nat.zero_le _⟩ ?_
      refine lv_isub hx hb dX4_left_22 ?_
      refine lv_istore_n (lv' := [(1, .int ((sbI (fun j => smI (sPaid F (nI j)) c) (smI (sCost F) c) k) - (smI (sPaid F (nI k)) c))), (0, .ref (q 0)), (2, .int (nI k))]) hx hb dX4_left_23 rfl hl (by decide) rfl (fun ls hl => ?_)
      refine lv_iinc (v := ((nI k) + 1)) (lv' := [(2, .int ((nI k) + 1)), (1, .int ((sbI (fun j => smI (sPaid F (nI j)) c) (smI (sCost F) c) k) - (smI (sPaid F (nI k)) c))), (0, .ref (q 0))]) hx hb dX4_left_24 hl (k := 2) rfl rfl (by decide) rfl (fun ls hl => ?_)
      refine lv_goto (tgt := 10) hx hb dX4_left_27 (by decide) ?_
      have h_5 : ((sbI (fun j => smI (sPaid F (nI j)) c) (smI (sCost F) c) k) - (smI (sPaid F (nI k)) c)) = (sbI (fun j => smI (sPaid F (nI j)) c) (smI (sCost F) c) (k + 1)) := rfl
      have h_6 : ((nI k) + 1) = (nI (k + 1)) := (nI_1 _)
      exact ih _ (lv_cast (lv_sub (l' := [(0, .ref (q 0)), (1, .int ((sbI (fun j => smI (sPaid F (nI j)) c) (smI (sCost F) c) k) - (smI (sPaid F (nI k)) c))), (2, .int ((nI k) + 1))]) hl [2, 1, 0] rfl) (cg2 (fun z5 z6 => [(0, .ref (q 0)), (1, .int z5), (2, .int z6)]) h_5 h_6))
set_option maxHeartbeats 4000000 in
set_option maxRecDepth 100000 in
/-- X4_canBeCalled -/
theorem c_X4_canBeCalled (l : Launch)  (pt : Int32) (bs : Int32) (fr : Int32) (to0 : Int32)  : Met l yX4_canBeCalled wsX4_canBeCalled ({ frames := 2, cells := 0, slots := 0, locals := 42 }) (va_Pc [.int pt, .int bs, .int fr, .int to0] (fun _ => True)) (vp_Si (fun r => r = (bI (canK pt bs fr to0)))) 0 0 (fun _ => False) := by
  refine Met.ofW (cc := cX4_canBeCalled) (maxL := 4) (ret := (some .boolean)) (by decide) rfl ?_
  intro p e s m args below meth c_ s₁ B hml hv
  obtain ⟨rfl, -⟩ := hv
  have hx := B.exec
  have hb := B.bytes
  have hr := B.returns
  have hts := atoms_spec (ws := wsX4_canBeCalled) B.pre
  have hown : s.vm.findClass RX4 = some m.cls := findClass_of_methodNamed B.named
  have hlocks := B.notSynchronized
  have hl := lv_entry ([.int pt, .int bs, .int fr, .int to0]) (n := 4) (Nat.le_of_ble_eq_true rfl)
  rw [lg_entry_eq]
  generalize (lg_sl ([.int pt, .int bs, .int fr, .int to0]) ++ List.replicate (4 - (lg_sl ([.int pt, .int bs, .int fr, .int to0])).length) Slot.unset).toArray = ls at hl ⊢
  have hl : lv_has ls 4 [(0, .int pt), (1, .int bs), (2, .int fr), (3, .int to0)] := hl
  refine lv_iload_n hx hb dX4_canBeCalled_0 rfl (lv_at hl 0 rfl) ?_
  refine roSi (As := [.int pt]) (rest := []) (v := (bI (rg pt 0 9))) ⟨hx, hb, hml, hown, hts⟩ (c_X4_isPart l pt) (va_cwS 1 hts gX4_canBeCalled_X4_isPart rfl rfl rfl (by decide +kernel) ⟨Nat.le_of_ble_eq_true rfl, Nat.le_of_ble_eq_true rfl⟩) rfl hl.1 rfl (Nat.le_of_ble_eq_true rfl) dX4_canBeCalled_1 ⟨Nat.zero_le _, Nat.zero_le _⟩ ?_
  refine lv_if_eq (tgt := 41) hx hb dX4_canBeCalled_4 (by decide) (fun c_1 => ?_) (fun c_1 => ?_)
  · have b_2 : (rg pt 0 9) = false := bI_f c_1
    refine lv_iconst (v := 0) hx hb dX4_canBeCalled_41 (by decide) ?_
    exact W.zret (v := 0) hx hb hr rfl (fun t9 ht9 hW9 => ⟨0, rfl, (by first | with_reducible rfl | simp [canK, bI, b_2]), ht9⟩) (fun _ h => by cases h) dX4_canBeCalled_42
  · have b_3 : (rg pt 0 9) = true := bI_t c_1
    refine lv_iload_n hx hb dX4_canBeCalled_7 rfl (lv_at hl 1 rfl) ?_
    refine lv_iconst (v := 1) hx hb dX4_canBeCalled_8 (by decide) ?_
    refine lv_sipush (v := 255) hx hb dX4_canBeCalled_9 (by decide) ?_
    refine roSi (As := [.int bs, .int 1, .int 255]) (rest := []) (v := (bI (rg bs 1 255))) ⟨hx, hb, hml, hown, hts⟩ (c_X4_isWithin l bs 1 255) (va_cwS 3 hts gX4_canBeCalled_X4_isWithin rfl rfl rfl (by decide +kernel) ⟨Nat.le_of_ble_eq_true rfl, Nat.le_of_ble_eq_true rfl⟩) rfl hl.1 rfl (Nat.le_of_ble_eq_true rfl) dX4_canBeCalled_12 ⟨Nat.zero_le _, Nat.zero_le _⟩ ?_
    refine lv_if_eq (tgt := 41) hx hb dX4_canBeCalled_15 (by decide) (fun c_4 => ?_) (fun c_4 => ?_)
    · have b_5 : (rg bs 1 255) = false := bI_f c_4
      refine lv_iconst (v := 0) hx hb dX4_canBeCalled_41 (by decide) ?_
      exact W.zret (v := 0) hx hb hr rfl (fun t9 ht9 hW9 => ⟨0, rfl, (by first | with_reducible rfl | simp [canK, bI, b_3, b_5]), ht9⟩) (fun _ h => by cases h) dX4_canBeCalled_42
    · have b_6 : (rg bs 1 255) = true := bI_t c_4
      refine lv_iload_n hx hb dX4_canBeCalled_18 rfl (lv_at hl 2 rfl) ?_
      refine roSi (As := [.int fr]) (rest := []) (v := (bI (rg fr 0 119))) ⟨hx, hb, hml, hown, hts⟩ (c_X4_isSaleMonth l fr) (va_cwS 1 hts gX4_canBeCalled_X4_isSaleMonth rfl rfl rfl (by decide +kernel) ⟨Nat.le_of_ble_eq_true rfl, Nat.le_of_ble_eq_true rfl⟩) rfl hl.1 rfl (Nat.le_of_ble_eq_true rfl) dX4_canBeCalled_19 ⟨Nat.zero_le _, Nat.zero_le _⟩ ?_
      refine lv_if_eq (tgt := 41) hx hb dX4_canBeCalled_22 (by decide) (fun c_7 => ?_) (fun c_7 => ?_)
      · have b_8 : (rg fr 0 119) = false := bI_f c_7
        refine lv_iconst (v := 0) hx hb dX4_canBeCalled_41 (by decide) ?_
        exact W.zret (v := 0) hx hb hr rfl (fun t9 ht9 hW9 => ⟨0, rfl, (by first | with_reducible rfl | simp [canK, bI, b_3, b_6, b_8]), ht9⟩) (fun _ h => by cases h) dX4_canBeCalled_42
      · have b_9 : (rg fr 0 119) = true := bI_t c_7
        refine lv_iload_n hx hb dX4_canBeCalled_25 rfl (lv_at hl 3 rfl) ?_
        refine roSi (As := [.int to0]) (rest := []) (v := (bI (rg to0 0 119))) ⟨hx, hb, hml, hown, hts⟩ (c_X4_isSaleMonth l to0) (va_cwS 1 hts gX4_canBeCalled_X4_isSaleMonth rfl rfl rfl (by decide +kernel) ⟨Nat.le_of_ble_eq_true rfl, Nat.le_of_ble_eq_true rfl⟩) rfl hl.1 rfl (Nat.le_of_ble_eq_true rfl) dX4_canBeCalled_26 ⟨Nat.zero_le _, Nat.zero_le _⟩ ?_
        refine lv_if_eq (tgt := 41) hx hb dX4_canBeCalled_29 (by decide) (fun c_10 => ?_) (fun c_10 => ?_)
        · have b_11 : (rg to0 0 119) = false := bI_f c_10
          refine lv_iconst (v := 0) hx hb dX4_canBeCalled_41 (by decide) ?_
          exact W.zret (v := 0) hx hb hr rfl (fun t9 ht9 hW9 => ⟨0, rfl, (by first | with_reducible rfl | simp [canK, bI, b_3, b_6, b_9, b_11]), ht9⟩) (fun _ h => by cases h) dX4_canBeCalled_42
        · have b_12 : (rg to0 0 119) = true := bI_t c_10
          refine lv_iload_n hx hb dX4_canBeCalled_32 rfl (lv_at hl 2 rfl) ?_
          refine lv_iload_n hx hb dX4_canBeCalled_33 rfl (lv_at hl 3 rfl) ?_
          refine lv_icmp_gt (tgt := 41) hx hb dX4_canBeCalled_34 (by decide) (fun c_13 => ?_) (fun c_13 => ?_)
          · have c_14 := i_lt c_13
            refine lv_iconst (v := 0) hx hb dX4_canBeCalled_41 (by decide) ?_
            exact W.zret (v := 0) hx hb hr rfl (fun t9 ht9 hW9 => ⟨0, rfl, (by first | with_reducible rfl | simp [canK, bI, b_3, b_6, b_9, b_12, c_13, c_14]), ht9⟩) (fun _ h => by cases h) dX4_canBeCalled_42
          · have c_15 := i_nlt c_13
            refine lv_iconst (v := 1) hx hb dX4_canBeCalled_37 (by decide) ?_
            refine lv_goto (tgt := 42) hx hb dX4_canBeCalled_38 (by decide) ?_
            exact W.zret (v := 1) hx hb hr rfl (fun t9 ht9 hW9 => ⟨1, rfl, (by first | with_reducible rfl | simp [canK, bI, b_3, b_6, b_9, b_12, c_13, c_15]), ht9⟩) (fun _ h => by cases h) dX4_canBeCalled_42
set_option maxHeartbeats 4000000 in
set_option maxRecDepth 100000 in
/-- X4_thingsCalled -/
theorem c_X4_thingsCalled (l : Launch) (D : va_G) (cs : Nat → ClassId) (q : Nat → Nat) (F : Nat → Nat → Int32) (n c : Nat) (g : Int32) (pt : Int32) (bs : Int32) (fr : Int32) (to0 : Int32) (hI : Inv F n c) : Met l yX4_thingsCalled wsX4_thingsCalled ({ frames := 4, cells := 0, slots := 0, locals := 89 }) (va_Pc [.ref (q 0), .int pt, .int bs, .int fr, .int to0] (pw D cs (xW q cs F n c g))) (vp_Sl (fun r => r = (cald F n c pt bs fr to0))) 0 0 (fun _ => False) := by
  refine Met.ofW (cc := cX4_thingsCalled) (maxL := 7) (ret := (some .long)) (by decide) rfl ?_
  intro p e s m args below meth c_ s₁ B hml hv
  obtain ⟨rfl, hP, hK, hN⟩ := hv
  have hx := B.exec
  have hb := B.bytes
  have hr := B.returns
  have hts := atoms_spec (ws := wsX4_thingsCalled) B.pre
  have hown : s.vm.findClass RX4 = some m.cls := findClass_of_methodNamed B.named
  have hlocks := B.notSynchronized
  have hl := lv_entry ([.ref (q 0), .int pt, .int bs, .int fr, .int to0]) (n := 7) (Nat.le_of_ble_eq_true rfl)
  rw [lg_entry_eq]
  generalize (lg_sl ([.ref (q 0), .int pt, .int bs, .int fr, .int to0]) ++ List.replicate (7 - (lg_sl ([.ref (q 0), .int pt, .int bs, .int fr, .int to0])).length) Slot.unset).toArray = ls at hl ⊢
  have hl : lv_has ls 7 [(0, .ref (q 0)), (1, .int pt), (2, .int bs), (3, .int fr), (4, .int to0)] := hl
  have hPo := va_P_l hP
  have hPt := va_P_l (va_P_r hP)
  have hPc := va_P_l (va_P_r (va_P_r hP))
  have hPp := va_P_l (va_P_r (va_P_r (va_P_r hP)))
  have hPw := va_P_r (va_P_r (va_P_r (va_P_r hP)))
  have hn60 := hI.n60
  have hc100 := hI.c100
  refine lv_aload_n hx hb dX4_thingsCalled_0 rfl (lv_at hl 0 rfl) ?_
  refine va_get (D := D) (ci := 4) (v := .ref (q 2)) (C := RX4) (T := TX4) (N := 5) hx hb hts (fun _ h => List.mem_cons_of_mem _ (List.mem_append_left _ (List.mem_append_left _ (List.mem_append_left _ (List.mem_append_right _ h))))) hown hK hPo 0 rfl rfl 1 (by decide) (hts (.fieldLink RX4 19 "UnderPromise" "claims" "LUnderPromise$Claims;") (List.mem_of_getElem? (i := 1) rfl)) (fun _ h9 => h9) rfl dX4_thingsCalled_1 ?_
  refine lv_aload_n hx hb dX4_thingsCalled_4 rfl (lv_at hl 0 rfl) ?_
  refine va_get (D := D) (ci := 4) (v := .ref (q 3)) (C := RX4) (T := TX4) (N := 5) hx hb hts (fun _ h => List.mem_cons_of_mem _ (List.mem_append_left _ (List.mem_append_left _ (List.mem_append_left _ (List.mem_append_right _ h))))) hown hK hPo 0 rfl rfl 2 (by decide) (hts (.fieldLink RX4 26 "UnderPromise" "parts" "LUnderPromise$Parts;") (List.mem_of_getElem? (i := 2) rfl)) (fun _ h9 => h9) rfl dX4_thingsCalled_5 ?_
  refine lv_iload_n hx hb dX4_thingsCalled_8 rfl (lv_at hl 1 rfl) ?_
  refine roVi (As := [.int pt]) (rest := [.ref (q 2)]) (v := (wau F pt 10)) ⟨hx, hb, hml, hown, hts⟩ (c_X1_withAllUnder l D cs q F n c pt hI) (cwV 1 hts gX4_thingsCalled_X1_withAllUnder rfl rfl rfl (by decide +kernel) ⟨Nat.le_of_ble_eq_true rfl, Nat.le_of_ble_eq_true rfl⟩) hPp hK hN 0 rfl rfl rfl hl.1 rfl (Nat.le_of_ble_eq_true rfl) dX4_thingsCalled_9 ⟨Nat.zero_le _, Nat.zero_le _⟩ ?_
  refine lv_sipush (v := 300) hx hb dX4_thingsCalled_12 (by decide) ?_
  refine roVl (As := [.int (wau F pt 10), .int 300]) (rest := []) (v := (orL (sHit F (wau F pt 10) 300) (fun k => bit1 (F 6 k)) c)) ⟨hx, hb, hml, hown, hts⟩ (c_X0_thingsLetFor l D cs q F n c (wau F pt 10) 300 hI) (cwV 2 hts gX4_thingsCalled_X0_thingsLetFor rfl rfl rfl (by decide +kernel) ⟨Nat.le_of_ble_eq_true rfl, Nat.le_of_ble_eq_true rfl⟩) hPc hK hN 0 rfl rfl rfl hl.1 rfl (Nat.le_of_ble_eq_true rfl) dX4_thingsCalled_15 ⟨Nat.zero_le _, Nat.zero_le _⟩ ?_
  refine lv_lstore (lv' := [(5, .long (orL (sHit F (wau F pt 10) 300) (fun k => bit1 (F 6 k)) c)), (0, .ref (q 0)), (1, .int pt), (2, .int bs), (3, .int fr), (4, .int to0)]) hx hb dX4_thingsCalled_18 hl (by decide) rfl (fun ls hl => ?_)
  refine lv_aload_n hx hb dX4_thingsCalled_20 rfl (lv_at hl 1 rfl) ?_
  refine va_get (D := D) (ci := 4) (v := .ref (q 1)) (C := RX4) (T := TX4) (N := 5) hx hb hts (fun _ h => List.mem_cons_of_mem _ (List.mem_append_left _ (List.mem_append_left _ (List.mem_append_left _ (List.mem_append_right _ h))))) hown hK hPo 0 rfl rfl 0 (by decide) (hts (.fieldLink RX4 12 "UnderPromise" "things" "LUnderPromise$Things;") (List.mem_of_getElem? (i := 3) rfl)) (fun _ h9 => h9) rfl dX4_thingsCalled_21 ?_
  refine lv_iload_n hx hb dX4_thingsCalled_24 rfl (lv_at hl 3 rfl) ?_
  refine lv_iload_n hx hb dX4_thingsCalled_25 rfl (lv_at hl 4 rfl) ?_
  refine lv_iload hx hb dX4_thingsCalled_26 (lv_at hl 5 rfl) ?_
  refine roVl (As := [.int bs, .int fr, .int to0]) (rest := []) (v := (orL (sSold F bs fr to0) (fun k => bit1 (nI k)) n)) ⟨hx, hb, hml, hown, hts⟩ (c_X2_soldOf l D cs q F n c bs fr to0 hI) (cwV 3 hts gX4_thingsCalled_X2_soldOf rfl rfl rfl (by decide +kernel) ⟨Nat.le_of_ble_eq_true rfl, Nat.le_of_ble_eq_true rfl⟩) hPt hK hN 0 rfl rfl rfl hl.1 rfl (Nat.le_of_ble_eq_true rfl) dX4_thingsCalled_28 ⟨Nat.zero_le _, Nat.zero_le _⟩ ?_
  refine lv_lload hx hb dX4_thingsCalled_31 (lv_at hl 0 rfl) ?_
  refine lv_ldc2 (v := (-1)) hx hb hown (hts (.constantLong RX4 231 (-1)) (List.mem_of_getElem? (i := 4) rfl)) dX4_thingsCalled_33 ?_
  refine lv_lxor hx hb dX4_thingsCalled_36 ?_
  refine lv_land hx hb dX4_thingsCalled_37 ?_
  exact W.lret (v := ((orL (sSold F bs fr to0) (fun k => bit1 (nI k)) n) &&& ((orL (sHit F (wau F pt 10) 300) (fun k => bit1 (F 6 k)) c) ^^^ (-1)))) hx hb hr (fun t9 ht9 hW9 => ⟨((orL (sSold F bs fr to0) (fun k => bit1 (nI k)) n) &&& ((orL (sHit F (wau F pt 10) 300) (fun k => bit1 (F 6 k)) c) ^^^ (-1))), rfl, rfl, ht9⟩) (fun _ h => by cases h) dX4_thingsCalled_38
set_option maxHeartbeats 4000000 in
set_option maxRecDepth 100000 in
/-- X4_calledAt -/
theorem c_X4_calledAt (l : Launch) (D : va_G) (cs : Nat → ClassId) (q : Nat → Nat) (F : Nat → Nat → Int32) (n c : Nat) (g : Int32) (pt : Int32) (bs : Int32) (fr : Int32) (to0 : Int32) (i0 : Int32) (hI : Inv F n c) : Met l yX4_calledAt wsX4_calledAt ({ frames := 5, cells := 0, slots := 0, locals := 115 }) (va_Pc [.ref (q 0), .int pt, .int bs, .int fr, .int to0, .int i0] (pw D cs (xW q cs F n c g))) (vp_Si (fun r => r = (if canK pt bs fr to0 = true then (if i0 < 0 then -2 else fnd (fun j => sHas (cald F n c pt bs fr to0) (nI j)) i0 60) else -2))) 0 0 (fun _ => False) := by
  refine Met.ofW (cc := cX4_calledAt) (maxL := 10) (ret := (some .int)) (by decide) rfl ?_
  intro p e s m args below meth c_ s₁ B hml hv
  obtain ⟨rfl, hP, hK, hN⟩ := hv
  have hx := B.exec
  have hb := B.bytes
  have hr := B.returns
  have hts := atoms_spec (ws := wsX4_calledAt) B.pre
  have hown : s.vm.findClass RX4 = some m.cls := findClass_of_methodNamed B.named
  have hlocks := B.notSynchronized
  have hl := lv_entry ([.ref (q 0), .int pt, .int bs, .int fr, .int to0, .int i0]) (n := 10) (Nat.le_of_ble_eq_true rfl)
  rw [lg_entry_eq]
  generalize (lg_sl ([.ref (q 0), .int pt, .int bs, .int fr, .int to0, .int i0]) ++ List.replicate (10 - (lg_sl ([.ref (q 0), .int pt, .int bs, .int fr, .int to0, .int i0])).length) Slot.unset).toArray = ls at hl ⊢
  have hl : lv_has ls 10 [(0, .ref (q 0)), (1, .int pt), (2, .int bs), (3, .int fr), (4, .int to0), (5, .int i0)] := hl
  have hPo := va_P_l hP
  have hPt := va_P_l (va_P_r hP)
  have hPc := va_P_l (va_P_r (va_P_r hP))
  have hPp := va_P_l (va_P_r (va_P_r (va_P_r hP)))
  have hPw := va_P_r (va_P_r (va_P_r (va_P_r hP)))
  have hn60 := hI.n60
  have hc100 := hI.c100
  refine lv_iload_n hx hb dX4_calledAt_0 rfl (lv_at hl 1 rfl) ?_
  refine lv_iload_n hx hb dX4_calledAt_1 rfl (lv_at hl 2 rfl) ?_
  refine lv_iload_n hx hb dX4_calledAt_2 rfl (lv_at hl 3 rfl) ?_
  refine lv_iload hx hb dX4_calledAt_3 (lv_at hl 4 rfl) ?_
  refine roSi (As := [.int pt, .int bs, .int fr, .int to0]) (rest := []) (v := (bI (canK pt bs fr to0))) ⟨hx, hb, hml, hown, hts⟩ (c_X4_canBeCalled l pt bs fr to0) (va_cwS 4 hts gX4_calledAt_X4_canBeCalled rfl rfl rfl (by decide +kernel) ⟨Nat.le_of_ble_eq_true rfl, Nat.le_of_ble_eq_true rfl⟩) rfl hl.1 rfl (Nat.le_of_ble_eq_true rfl) dX4_calledAt_5 ⟨Nat.zero_le _, Nat.zero_le _⟩ ?_
  refine lv_if_eq (tgt := 16) hx hb dX4_calledAt_8 (by decide) (fun c_1 => ?_) (fun c_1 => ?_)
  · have b_2 : (canK pt bs fr to0) = false := bI_f c_1
    refine lv_bipush (v := (-2)) hx hb dX4_calledAt_16 (by decide) ?_
    exact W.iret (v := (-2)) hx hb hr (fun t9 ht9 hW9 => ⟨(-2), rfl, (by first | with_reducible rfl | simp [b_2]), ht9⟩) (fun _ h => by cases h) dX4_calledAt_18
  · have b_3 : (canK pt bs fr to0) = true := bI_t c_1
    refine lv_iload hx hb dX4_calledAt_11 (lv_at hl 5 rfl) ?_
    refine lv_if_ge (tgt := 19) hx hb dX4_calledAt_13 (by decide) (fun c_4 => ?_) (fun c_4 => ?_)
    · have c_5 := i_le c_4
      refine lv_aload_n hx hb dX4_calledAt_19 rfl (lv_at hl 0 rfl) ?_
      refine lv_iload_n hx hb dX4_calledAt_20 rfl (lv_at hl 1 rfl) ?_
      refine lv_iload_n hx hb dX4_calledAt_21 rfl (lv_at hl 2 rfl) ?_
      refine lv_iload_n hx hb dX4_calledAt_22 rfl (lv_at hl 3 rfl) ?_
      refine lv_iload hx hb dX4_calledAt_23 (lv_at hl 4 rfl) ?_
      refine roVl (As := [.int pt, .int bs, .int fr, .int to0]) (rest := []) (v := (cald F n c pt bs fr to0)) ⟨hx, hb, hml, hown, hts⟩ (c_X4_thingsCalled l D cs q F n c g pt bs fr to0 hI) (cwV 4 hts gX4_calledAt_X4_thingsCalled rfl rfl rfl (by decide +kernel) ⟨Nat.le_of_ble_eq_true rfl, Nat.le_of_ble_eq_true rfl⟩) hP hK hN 0 rfl rfl rfl hl.1 rfl (Nat.le_of_ble_eq_true rfl) dX4_calledAt_25 ⟨Nat.zero_le _, Nat.zero_le _⟩ ?_
      refine lv_lstore (lv' := [(6, .long (cald F n c pt bs fr to0)), (0, .ref (q 0)), (1, .int pt), (2, .int bs), (3, .int fr), (4, .int to0), (5, .int i0)]) hx hb dX4_calledAt_28 hl (by decide) rfl (fun ls hl => ?_)
      refine lv_iconst (v := 0) hx hb dX4_calledAt_30 (by decide) ?_
      refine lv_istore (lv' := [(8, .int 0), (6, .long (cald F n c pt bs fr to0)), (0, .ref (q 0)), (1, .int pt), (2, .int bs), (3, .int fr), (4, .int to0), (5, .int i0)]) hx hb dX4_calledAt_31 hl (by decide) rfl (fun ls hl => ?_)
      refine lv_iconst (v := 0) hx hb dX4_calledAt_33 (by decide) ?_
      refine lv_istore (lv' := [(9, .int 0), (8, .int 0), (6, .long (cald F n c pt bs fr to0)), (0, .ref (q 0)), (1, .int pt), (2, .int bs), (3, .int fr), (4, .int to0), (5, .int i0)]) hx hb dX4_calledAt_34 hl (by decide) rfl (fun ls hl => ?_)
      refine lpW (fun k ls => lv_has ls 10 [(0, .ref (q 0)), (1, .int pt), (2, .int bs), (3, .int fr), (4, .int to0), (5, .int i0), (6, .long (cald F n c pt bs fr to0)), (8, .int (ctI (fun j => sHas (cald F n c pt bs fr to0) (nI j)) k)), (9, .int (nI k))] ∧ (∀ j, j < k → (fun j => sHas (cald F n c pt bs fr to0) (nI j)) j = true → ¬ ctI (fun j => sHas (cald F n c pt bs fr to0) (nI j)) j = i0)) 60 0 (Nat.zero_le _) ls ⟨(show lv_has ls 10 [(0, .ref (q 0)), (1, .int pt), (2, .int bs), (3, .int fr), (4, .int to0), (5, .int i0), (6, .long (cald F n c pt bs fr to0)), (8, .int (ctI (fun j => sHas (cald F n c pt bs fr to0) (nI j)) 0)), (9, .int (nI 0))] from lv_sub hl [3, 4, 5, 6, 7, 8, 2, 1, 0] rfl), (fun j hj => absurd hj (Nat.not_lt_zero j))⟩ ?_ ?_
      · intro ls ⟨hl, hE⟩
        have hl : lv_has ls 10 [(0, .ref (q 0)), (1, .int pt), (2, .int bs), (3, .int fr), (4, .int to0), (5, .int i0), (6, .long (cald F n c pt bs fr to0)), (8, .int (ctI (fun j => sHas (cald F n c pt bs fr to0) (nI j)) 60)), (9, .int (nI 60))] := hl
        have hE : ∀ j, j < 60 → (fun j => sHas (cald F n c pt bs fr to0) (nI j)) j = true → ¬ ctI (fun j => sHas (cald F n c pt bs fr to0) (nI j)) j = i0 := hE
        refine lv_iload hx hb dX4_calledAt_36 (lv_at hl 8 rfl) ?_
        refine lv_bipush (v := 60) hx hb dX4_calledAt_38 (by decide) ?_
        refine lv_icmp_ge (tgt := 75) hx hb dX4_calledAt_40 (by decide) (fun c_6 => ?_) (fun c_6 => ?_)
        · have c_7 := i_le c_6
          refine lv_iconst (v := (-1)) hx hb dX4_calledAt_75 (by decide) ?_
          exact W.iret (v := (-1)) hx hb hr (fun t9 ht9 hW9 => ⟨(-1), rfl, (by rw [if_pos b_3, if_neg (i_le c_4)]; exact (fnd_no 60 hE).symm), ht9⟩) (fun _ h => by cases h) dX4_calledAt_76
        · exact absurd (nI_le (b := 60) (Nat.le_refl 60) (by decide)) c_6
      · intro k hk0 hk ih ls ⟨hl, hE⟩
        have hl : lv_has ls 10 [(0, .ref (q 0)), (1, .int pt), (2, .int bs), (3, .int fr), (4, .int to0), (5, .int i0), (6, .long (cald F n c pt bs fr to0)), (8, .int (ctI (fun j => sHas (cald F n c pt bs fr to0) (nI j)) k)), (9, .int (nI k))] := hl
        have hE : ∀ j, j < k → (fun j => sHas (cald F n c pt bs fr to0) (nI j)) j = true → ¬ ctI (fun j => sHas (cald F n c pt bs fr to0) (nI j)) j = i0 := hE
        refine lv_iload hx hb dX4_calledAt_36 (lv_at hl 8 rfl) ?_
        refine lv_bipush (v := 60) hx hb dX4_calledAt_38 (by decide) ?_
        refine lv_icmp_ge (tgt := 75) hx hb dX4_calledAt_40 (by decide) (fun c_8 => ?_) (fun c_8 => ?_)
        · exact absurd c_8 (nI_ge (b := 60) hk (by decide))
        · have c_9 := i_nle c_8
          refine lv_lload hx hb dX4_calledAt_43 (lv_at hl 6 rfl) ?_
          refine lv_iload hx hb dX4_calledAt_45 (lv_at hl 8 rfl) ?_
          refine roSi (As := [.long (cald F n c pt bs fr to0), .int (nI k)]) (rest := []) (v := (bI (sHas (cald F n c pt bs fr to0) (nI k)))) ⟨hx, hb, hml, hown, hts⟩ (c_X4_hasBit l (cald F n c pt bs fr to0) (nI k)) (va_cwS 2 hts gX4_calledAt_X4_hasBit rfl rfl rfl (by decide +kernel) ⟨Nat.le_of_ble_eq_true rfl, Nat.le_of_ble_eq_true rfl⟩) rfl hl.1 rfl (Nat.le_of_ble_eq_true rfl) dX4_calledAt_47 ⟨Nat.zero_le _, Nat.zero_le _⟩ ?_
          refine lv_if_ne (tgt := 56) hx hb dX4_calledAt_50 (by decide) (fun c_10 => ?_) (fun c_10 => ?_)
          · have b_11 : (sHas (cald F n c pt bs fr to0) (nI k)) = true := bI_t c_10
            refine lv_iload hx hb dX4_calledAt_56 (lv_at hl 7 rfl) ?_
            refine lv_iload hx hb dX4_calledAt_58 (lv_at hl 5 rfl) ?_
            refine lv_icmp_ne (tgt := 66) hx hb dX4_calledAt_60 (by decide) (fun c_12 => ?_) (fun c_12 => ?_)
            · refine lv_iinc (v := ((ctI (fun j => sHas (cald F n c pt bs fr to0) (nI j)) k) + 1)) (lv' := [(8, .int ((ctI (fun j => sHas (cald F n c pt bs fr to0) (nI j)) k) + 1)), (0, .ref (q 0)), (1, .int pt), (2, .int bs), (3, .int fr), (4, .int to0), (5, .int i0), (6, .long (cald F n c pt bs fr to0)), (9, .int (nI k))]) hx hb dX4_calledAt_66 hl (k := 7) rfl rfl (by decide) rfl (fun ls hl => ?_)
              refine lv_iinc (v := ((nI k) + 1)) (lv' := [(9, .int ((nI k) + 1)), (8, .int ((ctI (fun j => sHas (cald F n c pt bs fr to0) (nI j)) k) + 1)), (0, .ref (q 0)), (1, .int pt), (2, .int bs), (3, .int fr), (4, .int to0), (5, .int i0), (6, .long (cald F n c pt bs fr to0))]) hx hb dX4_calledAt_69 hl (k := 8) rfl rfl (by decide) rfl (fun ls hl => ?_)
              refine lv_goto (tgt := 36) hx hb dX4_calledAt_72 (by decide) ?_
              have h_13 : ((ctI (fun j => sHas (cald F n c pt bs fr to0) (nI j)) k) + 1) = (ctI (fun j => sHas (cald F n c pt bs fr to0) (nI j)) (k + 1)) := (by first | with_reducible rfl | simp [ctI, b_3, c_4, c_5, c_8, c_9, b_11, c_12])
              have h_14 : ((nI k) + 1) = (nI (k + 1)) := (nI_1 _)
              exact ih _ ⟨(lv_cast (lv_sub (l' := [(0, .ref (q 0)), (1, .int pt), (2, .int bs), (3, .int fr), (4, .int to0), (5, .int i0), (6, .long (cald F n c pt bs fr to0)), (8, .int ((ctI (fun j => sHas (cald F n c pt bs fr to0) (nI j)) k) + 1)), (9, .int ((nI k) + 1))]) hl [2, 3, 4, 5, 6, 7, 8, 1, 0] rfl) (cg2 (fun z13 z14 => [(0, .ref (q 0)), (1, .int pt), (2, .int bs), (3, .int fr), (4, .int to0), (5, .int i0), (6, .long (cald F n c pt bs fr to0)), (8, .int z13), (9, .int z14)]) h_13 h_14)), (fun j hj hp => by rcases Nat.lt_or_ge j k with q9 | q9; exact hE j q9 hp; have e9 : j = k := (by omega); subst e9; exact c_12)⟩
            · refine lv_iload hx hb dX4_calledAt_63 (lv_at hl 8 rfl) ?_
              exact W.iret (v := (nI k)) hx hb hr (fun t9 ht9 hW9 => ⟨(nI k), rfl, (by rw [if_pos b_3, if_neg (i_le c_4)]; have e9 := fnd_at (p := (fun j => sHas (cald F n c pt bs fr to0) (nI j))) (k := k) b_11 c_12 (59 - k) (by omega); rw [show k + 1 + (59 - k) = 60 by omega] at e9; exact e9.symm), ht9⟩) (fun _ h => by cases h) dX4_calledAt_65
          · have b_15 : (sHas (cald F n c pt bs fr to0) (nI k)) = false := bI_f c_10
            refine lv_goto (tgt := 69) hx hb dX4_calledAt_53 (by decide) ?_
            refine lv_iinc (v := ((nI k) + 1)) (lv' := [(9, .int ((nI k) + 1)), (0, .ref (q 0)), (1, .int pt), (2, .int bs), (3, .int fr), (4, .int to0), (5, .int i0), (6, .long (cald F n c pt bs fr to0)), (8, .int (ctI (fun j => sHas (cald F n c pt bs fr to0) (nI j)) k))]) hx hb dX4_calledAt_69 hl (k := 8) rfl rfl (by decide) rfl (fun ls hl => ?_)
            refine lv_goto (tgt := 36) hx hb dX4_calledAt_72 (by decide) ?_
            have h_16 : (ctI (fun j => sHas (cald F n c pt bs fr to0) (nI j)) k) = (ctI (fun j => sHas (cald F n c pt bs fr to0) (nI j)) (k + 1)) := (by first | with_reducible rfl | simp [ctI, b_3, c_4, c_5, c_8, c_9, b_15])
            have h_17 : ((nI k) + 1) = (nI (k + 1)) := (nI_1 _)
            exact ih _ ⟨(lv_cast (lv_sub (l' := [(0, .ref (q 0)), (1, .int pt), (2, .int bs), (3, .int fr), (4, .int to0), (5, .int i0), (6, .long (cald F n c pt bs fr to0)), (8, .int (ctI (fun j => sHas (cald F n c pt bs fr to0) (nI j)) k)), (9, .int ((nI k) + 1))]) hl [1, 2, 3, 4, 5, 6, 7, 8, 0] rfl) (cg2 (fun z16 z17 => [(0, .ref (q 0)), (1, .int pt), (2, .int bs), (3, .int fr), (4, .int to0), (5, .int i0), (6, .long (cald F n c pt bs fr to0)), (8, .int z16), (9, .int z17)]) h_16 h_17)), (fun j hj hp => by rcases Nat.lt_or_ge j k with q9 | q9; exact hE j q9 hp; have e9 : j = k := (by omega); subst e9; exact absurd hp (by simp [b_3, c_4, c_5, c_8, c_9, b_15]))⟩
    · have c_18 := i_nle c_4
      refine lv_bipush (v := (-2)) hx hb dX4_calledAt_16 (by decide) ?_
      exact W.iret (v := (-2)) hx hb hr (fun t9 ht9 hW9 => ⟨(-2), rfl, (by first | with_reducible rfl | simp [b_3, c_4, c_18]), ht9⟩) (fun _ h => by cases h) dX4_calledAt_18
