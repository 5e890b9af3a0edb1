set_option maxHeartbeats 4000000 in
set_option maxRecDepth 100000 in
/-- X5_isUnder -/
theorem c_X5_isUnder (l : Launch) (D : va_G) (cs : Nat → ClassId) (q : Nat → Nat) (F : Nat → Nat → Int32) (n c : Nat) (g : Int32) (up lo : Int64) (x : Int32) (tp : Int32) (hI : Inv F n c) (hx9 : rg x 0 9 = true) (htp9 : rg tp 0 9 = true) : Met l yX5_isUnder wsX5_isUnder ({ frames := 0, cells := 0, slots := 0, locals := 0 }) (va_Pc [.ref (q 200), .int x, .int tp] (pw D cs (mW q cs F n c g up lo))) (vp_Si (fun r => r = (bI (stn F tp 10 x)))) 0 0 (fun _ => False) := by
  refine Met.ofW (cc := cX5_isUnder) (maxL := 4) (ret := (some .boolean)) (by decide) rfl ?_
  intro p e s m args below meth c_ s₁ B hml hv
  obtain ⟨rfl, hP, hK, hN⟩ := hv
  have hx := B.exec
  have hb := B.bytes
  have hr := B.returns
  have hts := atoms_spec (ws := wsX5_isUnder) B.pre
  have hown : s.vm.findClass RX5 = some m.cls := findClass_of_methodNamed B.named
  have hlocks := B.notSynchronized
  have hl := lv_entry ([.ref (q 200), .int x, .int tp]) (n := 4) (Nat.le_of_ble_eq_true rfl)
  rw [lg_entry_eq]
  generalize (lg_sl ([.ref (q 200), .int x, .int tp]) ++ List.replicate (4 - (lg_sl ([.ref (q 200), .int x, .int tp])).length) Slot.unset).toArray = ls at hl ⊢
  have hl : lv_has ls 4 [(0, .ref (q 200)), (1, .int x), (2, .int tp)] := hl
  obtain ⟨J, hJ10, hJe, hJk⟩ := chain hI hx9
  have hn60 := hI.n60
  have hc100 := hI.c100
  refine lv_iload_n hx hb dX5_isUnder_0 rfl (lv_at hl 1 rfl) ?_
  refine lv_istore_n (lv' := [(3, .int x), (0, .ref (q 200)), (1, .int x), (2, .int tp)]) hx hb dX5_isUnder_1 rfl hl (by decide) rfl (fun ls hl => ?_)
  refine lpW (fun k ls => lv_has ls 4 [(0, .ref (q 200)), (1, .int x), (2, .int tp), (3, .int (itP F k x))] ∧ (stn F tp (10 - k) (itP F k x) = stn F tp 10 x)) J 0 (Nat.zero_le _) ls ⟨(show lv_has ls 4 [(0, .ref (q 200)), (1, .int x), (2, .int tp), (3, .int (itP F 0 x))] from lv_sub hl [1, 2, 3, 0] rfl), rfl⟩ ?_ ?_
  · intro ls ⟨hl, hE⟩
    have hl : lv_has ls 4 [(0, .ref (q 200)), (1, .int x), (2, .int tp), (3, .int (itP F J x))] := hl
    have hE : stn F tp (10 - J) (itP F J x) = stn F tp 10 x := hE
    refine lv_iload_n hx hb dX5_isUnder_2 rfl (lv_at hl 3 rfl) ?_
    refine lv_if_lt (tgt := 21) hx hb dX5_isUnder_3 (by decide) (fun c_1 => ?_) (fun c_1 => ?_)
    · have c_2 := i_lt c_1
      refine lv_iload_n hx hb dX5_isUnder_21 rfl (lv_at hl 3 rfl) ?_
      refine lv_iload_n hx hb dX5_isUnder_22 rfl (lv_at hl 2 rfl) ?_
      refine lv_icmp_ne (tgt := 30) hx hb dX5_isUnder_23 (by decide) (fun c_3 => ?_) (fun c_3 => ?_)
      · refine lv_iconst (v := 0) hx hb dX5_isUnder_30 (by decide) ?_
        exact W.zret (v := 0) hx hb hr rfl (fun t9 ht9 hW9 => ⟨0, rfl, (by rw [stn_e (by rw [hJe]; decide) hE]; rfl), ht9⟩) (fun _ h => by cases h) dX5_isUnder_31
      · exact absurd c_3 (by rw [hJe]; exact m1_ne htp9)
    · exact absurd (by rw [hJe]; decide) c_1
  · intro k hk0 hk ih ls ⟨hl, hE⟩
    have hl : lv_has ls 4 [(0, .ref (q 200)), (1, .int x), (2, .int tp), (3, .int (itP F k x))] := hl
    have hE : stn F tp (10 - k) (itP F k x) = stn F tp 10 x := hE
    have hJr := hJk k hk
    have hk10 : k < 10 := by omega
    refine lv_iload_n hx hb dX5_isUnder_2 rfl (lv_at hl 3 rfl) ?_
    refine lv_if_lt (tgt := 21) hx hb dX5_isUnder_3 (by decide) (fun c_4 => ?_) (fun c_4 => ?_)
    · exact absurd c_4 (rg_nn hJr)
    · have c_5 := i_nlt c_4
      refine lv_iload_n hx hb dX5_isUnder_6 rfl (lv_at hl 3 rfl) ?_
      refine lv_iload_n hx hb dX5_isUnder_7 rfl (lv_at hl 2 rfl) ?_
      refine lv_icmp_eq (tgt := 21) hx hb dX5_isUnder_8 (by decide) (fun c_6 => ?_) (fun c_6 => ?_)
      · refine lv_iload_n hx hb dX5_isUnder_21 rfl (lv_at hl 3 rfl) ?_
        refine lv_iload_n hx hb dX5_isUnder_22 rfl (lv_at hl 2 rfl) ?_
        refine lv_icmp_ne (tgt := 30) hx hb dX5_isUnder_23 (by decide) (fun c_7 => ?_) (fun c_7 => ?_)
        · exact absurd c_6 c_7
        · refine lv_iconst (v := 1) hx hb dX5_isUnder_26 (by decide) ?_
          refine lv_goto (tgt := 31) hx hb dX5_isUnder_27 (by decide) ?_
          exact W.zret (v := 1) hx hb hr rfl (fun t9 ht9 hW9 => ⟨1, rfl, (by rw [stn_t hk10 hJr c_7 hE]; rfl), ht9⟩) (fun _ h => by cases h) dX5_isUnder_31
      · refine lv_aload_n hx hb dX5_isUnder_11 rfl (lv_at hl 0 rfl) ?_
        refine va_get (D := D) (ci := 5) (v := .ref (q 214)) (C := RX5) (T := TX5) (N := 21) hx hb hts (fun _ h => List.mem_cons_of_mem _ (List.mem_append_right _ h)) hown hK hP 0 rfl rfl 18 (by decide) (hts (.fieldLink RX5 54 "UnderPromiseModel" "above" "[I") (List.mem_of_getElem? (i := 1) rfl)) (fun _ h9 => h9) rfl dX5_isUnder_12 ?_
        refine lv_iload_n hx hb dX5_isUnder_15 rfl (lv_at hl 3 rfl) ?_
        refine iaK (v := (F 12 (ix (itP F k x)))) hx hb hK hP 14 0 rfl rfl (ix (itP F k x)) (rg_in (by decide) (by decide) hJr) rfl rfl dX5_isUnder_16 ?_
        refine lv_istore_n (lv' := [(3, .int (F 12 (ix (itP F k x)))), (0, .ref (q 200)), (1, .int x), (2, .int tp)]) hx hb dX5_isUnder_17 rfl hl (by decide) rfl (fun ls hl => ?_)
        refine lv_goto (tgt := 2) hx hb dX5_isUnder_18 (by decide) ?_
        have h_8 : (F 12 (ix (itP F k x))) = (itP F (k + 1) x) := (by simp [itP, hJr])
        exact ih _ ⟨(lv_cast (lv_sub (l' := [(0, .ref (q 200)), (1, .int x), (2, .int tp), (3, .int (F 12 (ix (itP F k x))))]) hl [1, 2, 3, 0] rfl) (cg1 (fun z8 => [(0, .ref (q 200)), (1, .int x), (2, .int tp), (3, .int z8)]) h_8)), (stn_s hk10 hJr c_6 hE (by simp [itP, hJr]))⟩
set_option maxHeartbeats 4000000 in
set_option maxRecDepth 100000 in
/-- X5_payingPart -/
theorem c_X5_payingPart (l : Launch) (D : va_G) (cs : Nat → ClassId) (q : Nat → Nat) (F : Nat → Nat → Int32) (n c : Nat) (g : Int32) (up lo : Int64) (x : Int32) (hI : Inv F n c) (hx9 : rg x 0 9 = true) : Met l yX5_payingPart wsX5_payingPart ({ frames := 0, cells := 0, slots := 0, locals := 0 }) (va_Pc [.ref (q 200), .int x] (pw D cs (mW q cs F n c g up lo))) (vp_Si (fun r => r = (fwm F 10 x))) 0 0 (fun _ => False) := by
  refine Met.ofW (cc := cX5_payingPart) (maxL := 3) (ret := (some .int)) (by decide) rfl ?_
  intro p e s m args below meth c_ s₁ B hml hv
  obtain ⟨rfl, hP, hK, hN⟩ := hv
  have hx := B.exec
  have hb := B.bytes
  have hr := B.returns
  have hts := atoms_spec (ws := wsX5_payingPart) B.pre
  have hown : s.vm.findClass RX5 = some m.cls := findClass_of_methodNamed B.named
  have hlocks := B.notSynchronized
  have hl := lv_entry ([.ref (q 200), .int x]) (n := 3) (Nat.le_of_ble_eq_true rfl)
  rw [lg_entry_eq]
  generalize (lg_sl ([.ref (q 200), .int x]) ++ List.replicate (3 - (lg_sl ([.ref (q 200), .int x])).length) Slot.unset).toArray = ls at hl ⊢
  have hl : lv_has ls 3 [(0, .ref (q 200)), (1, .int x)] := hl
  obtain ⟨J, hJ10, hJe, hJk⟩ := chain hI hx9
  have hn60 := hI.n60
  have hc100 := hI.c100
  refine lv_iload_n hx hb dX5_payingPart_0 rfl (lv_at hl 1 rfl) ?_
  refine lv_istore_n (lv' := [(2, .int x), (0, .ref (q 200)), (1, .int x)]) hx hb dX5_payingPart_1 rfl hl (by decide) rfl (fun ls hl => ?_)
  refine lpW (fun k ls => lv_has ls 3 [(0, .ref (q 200)), (1, .int x), (2, .int (itP F k x))] ∧ (fwm F (10 - k) (itP F k x) = fwm F 10 x)) J 0 (Nat.zero_le _) ls ⟨(show lv_has ls 3 [(0, .ref (q 200)), (1, .int x), (2, .int (itP F 0 x))] from lv_sub hl [1, 2, 0] rfl), rfl⟩ ?_ ?_
  · intro ls ⟨hl, hE⟩
    have hl : lv_has ls 3 [(0, .ref (q 200)), (1, .int x), (2, .int (itP F J x))] := hl
    have hE : fwm F (10 - J) (itP F J x) = fwm F 10 x := hE
    refine lv_iload_n hx hb dX5_payingPart_2 rfl (lv_at hl 2 rfl) ?_
    refine lv_if_lt (tgt := 25) hx hb dX5_payingPart_3 (by decide) (fun c_1 => ?_) (fun c_1 => ?_)
    · have c_2 := i_lt c_1
      refine lv_iload_n hx hb dX5_payingPart_25 rfl (lv_at hl 2 rfl) ?_
      exact W.iret (v := (itP F J x)) hx hb hr (fun t9 ht9 hW9 => ⟨(itP F J x), rfl, ((hJe).trans (fwm_e (by rw [hJe]; decide) hE)), ht9⟩) (fun _ h => by cases h) dX5_payingPart_26
    · exact absurd (by rw [hJe]; decide) c_1
  · intro k hk0 hk ih ls ⟨hl, hE⟩
    have hl : lv_has ls 3 [(0, .ref (q 200)), (1, .int x), (2, .int (itP F k x))] := hl
    have hE : fwm F (10 - k) (itP F k x) = fwm F 10 x := hE
    have hJr := hJk k hk
    have hk10 : k < 10 := by omega
    refine lv_iload_n hx hb dX5_payingPart_2 rfl (lv_at hl 2 rfl) ?_
    refine lv_if_lt (tgt := 25) hx hb dX5_payingPart_3 (by decide) (fun c_3 => ?_) (fun c_3 => ?_)
    · exact absurd c_3 (rg_nn hJr)
    · have c_4 := i_nlt c_3
      refine lv_aload_n hx hb dX5_payingPart_6 rfl (lv_at hl 0 rfl) ?_
      refine va_get (D := D) (ci := 5) (v := .ref (q 215)) (C := RX5) (T := TX5) (N := 21) hx hb hts (fun _ h => List.mem_cons_of_mem _ (List.mem_append_right _ h)) hown hK hP 0 rfl rfl 19 (by decide) (hts (.fieldLink RX5 57 "UnderPromiseModel" "maker" "[I") (List.mem_of_getElem? (i := 1) rfl)) (fun _ h9 => h9) rfl dX5_payingPart_7 ?_
      refine lv_iload_n hx hb dX5_payingPart_10 rfl (lv_at hl 2 rfl) ?_
      refine iaK (v := (F 13 (ix (itP F k x)))) hx hb hK hP 15 0 rfl rfl (ix (itP F k x)) (rg_in (by decide) (by decide) hJr) rfl rfl dX5_payingPart_11 ?_
      refine lv_if_ge (tgt := 25) hx hb dX5_payingPart_12 (by decide) (fun c_5 => ?_) (fun c_5 => ?_)
      · have c_6 := i_le c_5
        refine lv_iload_n hx hb dX5_payingPart_25 rfl (lv_at hl 2 rfl) ?_
        exact W.iret (v := (itP F k x)) hx hb hr (fun t9 ht9 hW9 => ⟨(itP F k x), rfl, (fwm_t hk10 hJr (fun h9 => i_le c_5 ((hI.mk hJr).mpr h9)) hE), ht9⟩) (fun _ h => by cases h) dX5_payingPart_26
      · have c_7 := i_nle c_5
        refine lv_aload_n hx hb dX5_payingPart_15 rfl (lv_at hl 0 rfl) ?_
        refine va_get (D := D) (ci := 5) (v := .ref (q 214)) (C := RX5) (T := TX5) (N := 21) hx hb hts (fun _ h => List.mem_cons_of_mem _ (List.mem_append_right _ h)) hown hK hP 0 rfl rfl 18 (by decide) (hts (.fieldLink RX5 54 "UnderPromiseModel" "above" "[I") (List.mem_of_getElem? (i := 2) rfl)) (fun _ h9 => h9) rfl dX5_payingPart_16 ?_
        refine lv_iload_n hx hb dX5_payingPart_19 rfl (lv_at hl 2 rfl) ?_
        refine iaK (v := (F 12 (ix (itP F k x)))) hx hb hK hP 14 0 rfl rfl (ix (itP F k x)) (rg_in (by decide) (by decide) hJr) rfl rfl dX5_payingPart_20 ?_
        refine lv_istore_n (lv' := [(2, .int (F 12 (ix (itP F k x)))), (0, .ref (q 200)), (1, .int x)]) hx hb dX5_payingPart_21 rfl hl (by decide) rfl (fun ls hl => ?_)
        refine lv_goto (tgt := 2) hx hb dX5_payingPart_22 (by decide) ?_
        have h_8 : (F 12 (ix (itP F k x))) = (itP F (k + 1) x) := (by simp [itP, hJr])
        exact ih _ ⟨(lv_cast (lv_sub (l' := [(0, .ref (q 200)), (1, .int x), (2, .int (F 12 (ix (itP F k x))))]) hl [1, 2, 0] rfl) (cg1 (fun z8 => [(0, .ref (q 200)), (1, .int x), (2, .int z8)]) h_8)), (fwm_s hk10 hJr ((hI.mk hJr).mp c_7) hE (by simp [itP, hJr]))⟩
set_option maxHeartbeats 4000000 in
set_option maxRecDepth 100000 in
/-- X5_payer -/
theorem c_X5_payer (l : Launch) (D : va_G) (cs : Nat → ClassId) (q : Nat → Nat) (F : Nat → Nat → Int32) (n c : Nat) (g : Int32) (up lo : Int64) (x : Int32) (hI : Inv F n c) : Met l yX5_payer wsX5_payer ({ frames := 1, cells := 0, slots := 0, locals := 25 }) (va_Pc [.ref (q 200), .int x] (pw D cs (mW q cs F n c g up lo))) (vp_Si (fun r => r = (aPayer F x))) 0 0 (fun _ => False) := by
  refine Met.ofW (cc := cX5_payer) (maxL := 3) (ret := (some .int)) (by decide) rfl ?_
  intro p e s m args below meth c_ s₁ B hml hv
  obtain ⟨rfl, hP, hK, hN⟩ := hv
  have hx := B.exec
  have hb := B.bytes
  have hr := B.returns
  have hts := atoms_spec (ws := wsX5_payer) B.pre
  have hown : s.vm.findClass RX5 = some m.cls := findClass_of_methodNamed B.named
  have hlocks := B.notSynchronized
  have hl := lv_entry ([.ref (q 200), .int x]) (n := 3) (Nat.le_of_ble_eq_true rfl)
  rw [lg_entry_eq]
  generalize (lg_sl ([.ref (q 200), .int x]) ++ List.replicate (3 - (lg_sl ([.ref (q 200), .int x])).length) Slot.unset).toArray = ls at hl ⊢
  have hl : lv_has ls 3 [(0, .ref (q 200)), (1, .int x)] := hl
  have hn60 := hI.n60
  have hc100 := hI.c100
  refine lv_iload_n hx hb dX5_payer_0 rfl (lv_at hl 1 rfl) ?_
  refine lv_i2l (v := (Int32.toInt64 x)) hx hb dX5_payer_1 rfl ?_
  refine lv_lconst (v := 0) hx hb dX5_payer_2 (by decide) ?_
  refine lv_ldc2 (v := 9) hx hb hown (hts (.constantLong RX5 109 (9)) (List.mem_of_getElem? (i := 1) rfl)) dX5_payer_3 ?_
  refine roSi (As := [.long (Int32.toInt64 x), .long 0, .long 9]) (rest := []) (v := (bI (rg x 0 9))) ⟨hx, hb, hml, hown, hts⟩ (c_X5_in l x 0 9 0 9 (by decide) (by decide)) (va_cwS 3 hts gX5_payer_X5_in rfl rfl rfl (by decide +kernel) ⟨Nat.le_of_ble_eq_true rfl, Nat.le_of_ble_eq_true rfl⟩) rfl hl.1 rfl (Nat.le_of_ble_eq_true rfl) dX5_payer_6 ⟨Nat.zero_le _, Nat.zero_le _⟩ ?_
  refine lv_if_ne (tgt := 15) hx hb dX5_payer_9 (by decide) (fun c_1 => ?_) (fun c_1 => ?_)
  · have b_2 : (rg x 0 9) = true := bI_t c_1
    refine lv_aload_n hx hb dX5_payer_15 rfl (lv_at hl 0 rfl) ?_
    refine lv_iload_n hx hb dX5_payer_16 rfl (lv_at hl 1 rfl) ?_
    refine roVi (As := [.int x]) (rest := []) (v := (fwm F 10 x)) ⟨hx, hb, hml, hown, hts⟩ (c_X5_payingPart l D cs q F n c g up lo x hI b_2) (cwV 1 hts gX5_payer_X5_payingPart rfl rfl rfl (by decide +kernel) ⟨Nat.le_of_ble_eq_true rfl, Nat.le_of_ble_eq_true rfl⟩) hP hK hN 0 rfl rfl rfl hl.1 rfl (Nat.le_of_ble_eq_true rfl) dX5_payer_17 ⟨Nat.zero_le _, Nat.zero_le _⟩ ?_
    refine lv_istore_n (lv' := [(2, .int (fwm F 10 x)), (0, .ref (q 200)), (1, .int x)]) hx hb dX5_payer_20 rfl hl (by decide) rfl (fun ls hl => ?_)
    refine lv_iload_n hx hb dX5_payer_21 rfl (lv_at hl 0 rfl) ?_
    refine lv_if_ge (tgt := 29) hx hb dX5_payer_22 (by decide) (fun c_3 => ?_) (fun c_3 => ?_)
    · have c_4 := i_le c_3
      have b_5 : rg (fwm F 10 x) 0 9 = true := fwm_pos (i_le c_3)
      refine lv_aload_n hx hb dX5_payer_29 rfl (lv_at hl 1 rfl) ?_
      refine va_get (D := D) (ci := 5) (v := .ref (q 215)) (C := RX5) (T := TX5) (N := 21) hx hb hts (fun _ h => List.mem_cons_of_mem _ (List.mem_append_right _ h)) hown hK hP 0 rfl rfl 19 (by decide) (hts (.fieldLink RX5 57 "UnderPromiseModel" "maker" "[I") (List.mem_of_getElem? (i := 2) rfl)) (fun _ h9 => h9) rfl dX5_payer_30 ?_
      refine lv_iload_n hx hb dX5_payer_33 rfl (lv_at hl 0 rfl) ?_
      refine iaK (v := (F 13 (ix (fwm F 10 x)))) hx hb hK hP 15 0 rfl rfl (ix (fwm F 10 x)) (rg_in (by decide) (by decide) b_5) rfl rfl dX5_payer_34 ?_
      exact W.iret (v := (F 13 (ix (fwm F 10 x)))) hx hb hr (fun t9 ht9 hW9 => ⟨(F 13 (ix (fwm F 10 x))), rfl, (by first | with_reducible rfl | simp [aPayer, b_2, c_3, c_4, b_5]), ht9⟩) (fun _ h => by cases h) dX5_payer_35
    · have c_6 := i_nle c_3
      have b_7 : rg (fwm F 10 x) 0 9 = false := fwm_neg (i_nle c_3)
      refine lv_iconst (v := (-1)) hx hb dX5_payer_25 (by decide) ?_
      refine lv_goto (tgt := 35) hx hb dX5_payer_26 (by decide) ?_
      exact W.iret (v := (-1)) hx hb hr (fun t9 ht9 hW9 => ⟨(-1), rfl, (by first | with_reducible rfl | simp [aPayer, b_2, c_3, c_6, b_7]), ht9⟩) (fun _ h => by cases h) dX5_payer_35
  · have b_8 : (rg x 0 9) = false := bI_f c_1
    refine lv_bipush (v := (-2)) hx hb dX5_payer_12 (by decide) ?_
    exact W.iret (v := (-2)) hx hb hr (fun t9 ht9 hW9 => ⟨(-2), rfl, (by first | with_reducible rfl | simp [aPayer, b_8]), ht9⟩) (fun _ h => by cases h) dX5_payer_14
set_option maxHeartbeats 4000000 in
set_option maxRecDepth 100000 in
/-- X5_paidFor -/
theorem c_X5_paidFor (l : Launch) (D : va_G) (cs : Nat → ClassId) (q : Nat → Nat) (F : Nat → Nat → Int32) (n c : Nat) (g : Int32) (up lo : Int64) (k : Nat) (who : Int32) (hI : Inv F n c) (hk : k < c) : Met l yX5_paidFor wsX5_paidFor ({ frames := 1, cells := 0, slots := 0, locals := 22 }) (va_Pc [.ref (q 200), .int (nI k), .int who] (pw D cs (mW q cs F n c g up lo))) (vp_Si (fun r => r = (sPaid F who k))) 0 0 (fun _ => False) := by
  refine Met.ofW (cc := cX5_paidFor) (maxL := 5) (ret := (some .int)) (by decide) rfl ?_
  intro p e s m args below meth c_ s₁ B hml hv
  obtain ⟨rfl, hP, hK, hN⟩ := hv
  have hx := B.exec
  have hb := B.bytes
  have hr := B.returns
  have hts := atoms_spec (ws := wsX5_paidFor) B.pre
  have hown : s.vm.findClass RX5 = some m.cls := findClass_of_methodNamed B.named
  have hlocks := B.notSynchronized
  have hl := lv_entry ([.ref (q 200), .int (nI k), .int who]) (n := 5) (Nat.le_of_ble_eq_true rfl)
  rw [lg_entry_eq]
  generalize (lg_sl ([.ref (q 200), .int (nI k), .int who]) ++ List.replicate (5 - (lg_sl ([.ref (q 200), .int (nI k), .int who])).length) Slot.unset).toArray = ls at hl ⊢
  have hl : lv_has ls 5 [(0, .ref (q 200)), (1, .int (nI k)), (2, .int who)] := hl
  have hn60 := hI.n60
  have hc100 := hI.c100
  refine lv_aload_n hx hb dX5_paidFor_0 rfl (lv_at hl 0 rfl) ?_
  refine lv_aload_n hx hb dX5_paidFor_1 rfl (lv_at hl 0 rfl) ?_
  refine va_get (D := D) (ci := 5) (v := .ref (q 208)) (C := RX5) (T := TX5) (N := 21) hx hb hts (fun _ h => List.mem_cons_of_mem _ (List.mem_append_right _ h)) hown hK hP 0 rfl rfl 10 (by decide) (hts (.fieldLink RX5 35 "UnderPromiseModel" "ofPart" "[I") (List.mem_of_getElem? (i := 1) rfl)) (fun _ h9 => h9) rfl dX5_paidFor_2 ?_
  refine lv_iload_n hx hb dX5_paidFor_5 rfl (lv_at hl 1 rfl) ?_
  refine iaK (v := (F 7 k)) hx hb hK hP 8 0 rfl rfl k (vp_in_nI (by omega) (by decide)) (nI_clamp (by omega)) rfl dX5_paidFor_6 ?_
  refine roVi (As := [.int (F 7 k)]) (rest := []) (v := (fwm F 10 (F 7 k))) ⟨hx, hb, hml, hown, hts⟩ (c_X5_payingPart l D cs q F n c g up lo (F 7 k) hI (hI.C hk).2.1) (cwV 1 hts gX5_paidFor_X5_payingPart rfl rfl rfl (by decide +kernel) ⟨Nat.le_of_ble_eq_true rfl, Nat.le_of_ble_eq_true rfl⟩) hP hK hN 0 rfl rfl rfl hl.1 rfl (Nat.le_of_ble_eq_true rfl) dX5_paidFor_7 ⟨Nat.zero_le _, Nat.zero_le _⟩ ?_
  refine lv_istore_n (lv' := [(3, .int (fwm F 10 (F 7 k))), (0, .ref (q 200)), (1, .int (nI k)), (2, .int who)]) hx hb dX5_paidFor_10 rfl hl (by decide) rfl (fun ls hl => ?_)
  refine lv_aload_n hx hb dX5_paidFor_11 rfl (lv_at hl 1 rfl) ?_
  refine va_get (D := D) (ci := 5) (v := .ref (q 212)) (C := RX5) (T := TX5) (N := 21) hx hb hts (fun _ h => List.mem_cons_of_mem _ (List.mem_append_right _ h)) hown hK hP 0 rfl rfl 14 (by decide) (hts (.fieldLink RX5 47 "UnderPromiseModel" "judged" "[I") (List.mem_of_getElem? (i := 2) rfl)) (fun _ h9 => h9) rfl dX5_paidFor_12 ?_
  refine lv_iload_n hx hb dX5_paidFor_15 rfl (lv_at hl 2 rfl) ?_
  refine iaK (v := (F 11 k)) hx hb hK hP 12 0 rfl rfl k (vp_in_nI (by omega) (by decide)) (nI_clamp (by omega)) rfl dX5_paidFor_16 ?_
  refine lv_if_ne (tgt := 42) hx hb dX5_paidFor_17 (by decide) (fun c_1 => ?_) (fun c_1 => ?_)
  · refine lv_iconst (v := 0) hx hb dX5_paidFor_42 (by decide) ?_
    refine lv_istore (lv' := [(4, .int 0), (3, .int (fwm F 10 (F 7 k))), (0, .ref (q 200)), (1, .int (nI k)), (2, .int who)]) hx hb dX5_paidFor_43 hl (by decide) rfl (fun ls hl => ?_)
    refine lv_iload hx hb dX5_paidFor_45 (lv_at hl 0 rfl) ?_
    refine lv_if_eq (tgt := 69) hx hb dX5_paidFor_47 (by decide) (fun c_2 => ?_) (fun c_2 => ?_)
    · refine lv_iconst (v := 0) hx hb dX5_paidFor_69 (by decide) ?_
      exact W.iret (v := 0) hx hb hr (fun t9 ht9 hW9 => ⟨0, rfl, (by first | with_reducible rfl | simp [sPaid, c_1, c_2]), ht9⟩) (fun _ h => by cases h) dX5_paidFor_70
    · exact absurd c_2 (by decide)
  · refine lv_iload_n hx hb dX5_paidFor_20 rfl (lv_at hl 0 rfl) ?_
    refine lv_if_lt (tgt := 42) hx hb dX5_paidFor_21 (by decide) (fun c_3 => ?_) (fun c_3 => ?_)
    · have c_4 := i_lt c_3
      have b_5 : rg (fwm F 10 (F 7 k)) 0 9 = false := fwm_neg c_3
      refine lv_iconst (v := 0) hx hb dX5_paidFor_42 (by decide) ?_
      refine lv_istore (lv' := [(4, .int 0), (3, .int (fwm F 10 (F 7 k))), (0, .ref (q 200)), (1, .int (nI k)), (2, .int who)]) hx hb dX5_paidFor_43 hl (by decide) rfl (fun ls hl => ?_)
      refine lv_iload hx hb dX5_paidFor_45 (lv_at hl 0 rfl) ?_
      refine lv_if_eq (tgt := 69) hx hb dX5_paidFor_47 (by decide) (fun c_6 => ?_) (fun c_6 => ?_)
      · refine lv_iconst (v := 0) hx hb dX5_paidFor_69 (by decide) ?_
        exact W.iret (v := 0) hx hb hr (fun t9 ht9 hW9 => ⟨0, rfl, (by first | with_reducible rfl | simp [sPaid, c_1, c_3, c_4, b_5, c_6]), ht9⟩) (fun _ h => by cases h) dX5_paidFor_70
      · exact absurd c_6 (by decide)
    · have c_7 := i_nlt c_3
      have b_8 : rg (fwm F 10 (F 7 k)) 0 9 = true := fwm_pos c_3
      refine lv_iload_n hx hb dX5_paidFor_24 rfl (lv_at hl 3 rfl) ?_
      refine lv_if_lt (tgt := 38) hx hb dX5_paidFor_25 (by decide) (fun c_9 => ?_) (fun c_9 => ?_)
      · have c_10 := i_lt c_9
        refine lv_iconst (v := 1) hx hb dX5_paidFor_38 (by decide) ?_
        refine lv_goto (tgt := 43) hx hb dX5_paidFor_39 (by decide) ?_
        refine lv_istore (lv' := [(4, .int 1), (3, .int (fwm F 10 (F 7 k))), (0, .ref (q 200)), (1, .int (nI k)), (2, .int who)]) hx hb dX5_paidFor_43 hl (by decide) rfl (fun ls hl => ?_)
        refine lv_iload hx hb dX5_paidFor_45 (lv_at hl 0 rfl) ?_
        refine lv_if_eq (tgt := 69) hx hb dX5_paidFor_47 (by decide) (fun c_11 => ?_) (fun c_11 => ?_)
        · exact absurd c_11 (by decide)
        · refine lv_aload_n hx hb dX5_paidFor_50 rfl (lv_at hl 2 rfl) ?_
          refine va_get (D := D) (ci := 5) (v := .ref (q 211)) (C := RX5) (T := TX5) (N := 21) hx hb hts (fun _ h => List.mem_cons_of_mem _ (List.mem_append_right _ h)) hown hK hP 0 rfl rfl 13 (by decide) (hts (.fieldLink RX5 44 "UnderPromiseModel" "costs" "[I") (List.mem_of_getElem? (i := 4) rfl)) (fun _ h9 => h9) rfl dX5_paidFor_51 ?_
          refine lv_iload_n hx hb dX5_paidFor_54 rfl (lv_at hl 3 rfl) ?_
          refine iaK (v := (F 10 k)) hx hb hK hP 11 0 rfl rfl k (vp_in_nI (by omega) (by decide)) (nI_clamp (by omega)) rfl dX5_paidFor_55 ?_
          refine lv_aload_n hx hb dX5_paidFor_56 rfl (lv_at hl 2 rfl) ?_
          refine va_get (D := D) (ci := 5) (v := .ref (q 216)) (C := RX5) (T := TX5) (N := 21) hx hb hts (fun _ h => List.mem_cons_of_mem _ (List.mem_append_right _ h)) hown hK hP 0 rfl rfl 20 (by decide) (hts (.fieldLink RX5 60 "UnderPromiseModel" "share" "[I") (List.mem_of_getElem? (i := 5) rfl)) (fun _ h9 => h9) rfl dX5_paidFor_57 ?_
          refine lv_iload_n hx hb dX5_paidFor_60 rfl (lv_at hl 1 rfl) ?_
          refine iaK (v := (F 14 (ix (fwm F 10 (F 7 k))))) hx hb hK hP 16 0 rfl rfl (ix (fwm F 10 (F 7 k))) (rg_in (by decide) (by decide) b_8) rfl rfl dX5_paidFor_61 ?_
          refine lv_imul hx hb dX5_paidFor_62 ?_
          refine lv_bipush (v := 100) hx hb dX5_paidFor_63 (by decide) ?_
          refine lv_idiv hx hb dX5_paidFor_65 (by decide) ?_
          refine lv_goto (tgt := 70) hx hb dX5_paidFor_66 (by decide) ?_
          exact W.iret (v := (((F 10 k) * (F 14 (ix (fwm F 10 (F 7 k))))) / 100)) hx hb hr (fun t9 ht9 hW9 => ⟨(((F 10 k) * (F 14 (ix (fwm F 10 (F 7 k))))) / 100), rfl, (by first | with_reducible rfl | simp [sPaid, c_1, c_3, c_7, b_8, c_9, c_10, c_11]), ht9⟩) (fun _ h => by cases h) dX5_paidFor_70
      · have c_12 := i_nlt c_9
        refine lv_aload_n hx hb dX5_paidFor_28 rfl (lv_at hl 1 rfl) ?_
        refine va_get (D := D) (ci := 5) (v := .ref (q 215)) (C := RX5) (T := TX5) (N := 21) hx hb hts (fun _ h => List.mem_cons_of_mem _ (List.mem_append_right _ h)) hown hK hP 0 rfl rfl 19 (by decide) (hts (.fieldLink RX5 57 "UnderPromiseModel" "maker" "[I") (List.mem_of_getElem? (i := 3) rfl)) (fun _ h9 => h9) rfl dX5_paidFor_29 ?_
        refine lv_iload_n hx hb dX5_paidFor_32 rfl (lv_at hl 0 rfl) ?_
        refine iaK (v := (F 13 (ix (fwm F 10 (F 7 k))))) hx hb hK hP 15 0 rfl rfl (ix (fwm F 10 (F 7 k))) (rg_in (by decide) (by decide) b_8) rfl rfl dX5_paidFor_33 ?_
        refine lv_iload_n hx hb dX5_paidFor_34 rfl (lv_at hl 3 rfl) ?_
        refine lv_icmp_ne (tgt := 42) hx hb dX5_paidFor_35 (by decide) (fun c_13 => ?_) (fun c_13 => ?_)
        · refine lv_iconst (v := 0) hx hb dX5_paidFor_42 (by decide) ?_
          refine lv_istore (lv' := [(4, .int 0), (3, .int (fwm F 10 (F 7 k))), (0, .ref (q 200)), (1, .int (nI k)), (2, .int who)]) hx hb dX5_paidFor_43 hl (by decide) rfl (fun ls hl => ?_)
          refine lv_iload hx hb dX5_paidFor_45 (lv_at hl 0 rfl) ?_
          refine lv_if_eq (tgt := 69) hx hb dX5_paidFor_47 (by decide) (fun c_14 => ?_) (fun c_14 => ?_)
          · refine lv_iconst (v := 0) hx hb dX5_paidFor_69 (by decide) ?_
            exact W.iret (v := 0) hx hb hr (fun t9 ht9 hW9 => ⟨0, rfl, (by first | with_reducible rfl | simp [sPaid, c_1, c_3, c_7, b_8, c_9, c_12, c_13, c_14]), ht9⟩) (fun _ h => by cases h) dX5_paidFor_70
          · exact absurd c_14 (by decide)
        · refine lv_iconst (v := 1) hx hb dX5_paidFor_38 (by decide) ?_
          refine lv_goto (tgt := 43) hx hb dX5_paidFor_39 (by decide) ?_
          refine lv_istore (lv' := [(4, .int 1), (3, .int (fwm F 10 (F 7 k))), (0, .ref (q 200)), (1, .int (nI k)), (2, .int who)]) hx hb dX5_paidFor_43 hl (by decide) rfl (fun ls hl => ?_)
          refine lv_iload hx hb dX5_paidFor_45 (lv_at hl 0 rfl) ?_
          refine lv_if_eq (tgt := 69) hx hb dX5_paidFor_47 (by decide) (fun c_15 => ?_) (fun c_15 => ?_)
          · exact absurd c_15 (by decide)
          · refine lv_aload_n hx hb dX5_paidFor_50 rfl (lv_at hl 2 rfl) ?_
            refine va_get (D := D) (ci := 5) (v := .ref (q 211)) (C := RX5) (T := TX5) (N := 21) hx hb hts (fun _ h => List.mem_cons_of_mem _ (List.mem_append_right _ h)) hown hK hP 0 rfl rfl 13 (by decide) (hts (.fieldLink RX5 44 "UnderPromiseModel" "costs" "[I") (List.mem_of_getElem? (i := 4) rfl)) (fun _ h9 => h9) rfl dX5_paidFor_51 ?_
            refine lv_iload_n hx hb dX5_paidFor_54 rfl (lv_at hl 3 rfl) ?_
            refine iaK (v := (F 10 k)) hx hb hK hP 11 0 rfl rfl k (vp_in_nI (by omega) (by decide)) (nI_clamp (by omega)) rfl dX5_paidFor_55 ?_
            refine lv_aload_n hx hb dX5_paidFor_56 rfl (lv_at hl 2 rfl) ?_
            refine va_get (D := D) (ci := 5) (v := .ref (q 216)) (C := RX5) (T := TX5) (N := 21) hx hb hts (fun _ h => List.mem_cons_of_mem _ (List.mem_append_right _ h)) hown hK hP 0 rfl rfl 20 (by decide) (hts (.fieldLink RX5 60 "UnderPromiseModel" "share" "[I") (List.mem_of_getElem? (i := 5) rfl)) (fun _ h9 => h9) rfl dX5_paidFor_57 ?_
            refine lv_iload_n hx hb dX5_paidFor_60 rfl (lv_at hl 1 rfl) ?_
            refine iaK (v := (F 14 (ix (fwm F 10 (F 7 k))))) hx hb hK hP 16 0 rfl rfl (ix (fwm F 10 (F 7 k))) (rg_in (by decide) (by decide) b_8) rfl rfl dX5_paidFor_61 ?_
            refine lv_imul hx hb dX5_paidFor_62 ?_
            refine lv_bipush (v := 100) hx hb dX5_paidFor_63 (by decide) ?_
            refine lv_idiv hx hb dX5_paidFor_65 (by decide) ?_
            refine lv_goto (tgt := 70) hx hb dX5_paidFor_66 (by decide) ?_
            exact W.iret (v := (((F 10 k) * (F 14 (ix (fwm F 10 (F 7 k))))) / 100)) hx hb hr (fun t9 ht9 hW9 => ⟨(((F 10 k) * (F 14 (ix (fwm F 10 (F 7 k))))) / 100), rfl, (by first | with_reducible rfl | simp [sPaid, c_1, c_3, c_7, b_8, c_9, c_12, c_13, c_15]), ht9⟩) (fun _ h => by cases h) dX5_paidFor_70
set_option maxHeartbeats 4000000 in
set_option maxRecDepth 100000 in
/-- X5_pays -/
theorem c_X5_pays (l : Launch) (D : va_G) (cs : Nat → ClassId) (q : Nat → Nat) (F : Nat → Nat → Int32) (n c : Nat) (g : Int32) (up lo : Int64) (who : Int32) (hI : Inv F n c) : Met l yX5_pays wsX5_pays ({ frames := 2, cells := 0, slots := 0, locals := 46 }) (va_Pc [.ref (q 200), .int who] (pw D cs (mW q cs F n c g up lo))) (vp_Si (fun r => r = (aPays F c who))) 0 0 (fun _ => False) := by
  refine Met.ofW (cc := cX5_pays) (maxL := 4) (ret := (some .int)) (by decide) rfl ?_
  intro p e s m args below meth c_ s₁ B hml hv
  obtain ⟨rfl, hP, hK, hN⟩ := hv
  have hx := B.exec
  have hb := B.bytes
  have hr := B.returns
  have hts := atoms_spec (ws := wsX5_pays) B.pre
  have hown : s.vm.findClass RX5 = some m.cls := findClass_of_methodNamed B.named
  have hlocks := B.notSynchronized
  have hl := lv_entry ([.ref (q 200), .int who]) (n := 4) (Nat.le_of_ble_eq_true rfl)
  rw [lg_entry_eq]
  generalize (lg_sl ([.ref (q 200), .int who]) ++ List.replicate (4 - (lg_sl ([.ref (q 200), .int who])).length) Slot.unset).toArray = ls at hl ⊢
  have hl : lv_has ls 4 [(0, .ref (q 200)), (1, .int who)] := hl
  have hn60 := hI.n60
  have hc100 := hI.c100
  refine lv_iload_n hx hb dX5_pays_0 rfl (lv_at hl 1 rfl) ?_
  refine lv_i2l (v := (Int32.toInt64 who)) hx hb dX5_pays_1 rfl ?_
  refine lv_lconst (v := 0) hx hb dX5_pays_2 (by decide) ?_
  refine lv_ldc2 (v := 5) hx hb hown (hts (.constantLong RX5 169 (5)) (List.mem_of_getElem? (i := 1) rfl)) dX5_pays_3 ?_
  refine roSi (As := [.long (Int32.toInt64 who), .long 0, .long 5]) (rest := []) (v := (bI (rg who 0 5))) ⟨hx, hb, hml, hown, hts⟩ (c_X5_in l who 0 5 0 5 (by decide) (by decide)) (va_cwS 3 hts gX5_pays_X5_in rfl rfl rfl (by decide +kernel) ⟨Nat.le_of_ble_eq_true rfl, Nat.le_of_ble_eq_true rfl⟩) rfl hl.1 rfl (Nat.le_of_ble_eq_true rfl) dX5_pays_6 ⟨Nat.zero_le _, Nat.zero_le _⟩ ?_
  refine lv_if_ne (tgt := 15) hx hb dX5_pays_9 (by decide) (fun c_1 => ?_) (fun c_1 => ?_)
  · have b_2 : (rg who 0 5) = true := bI_t c_1
    refine lv_iconst (v := 0) hx hb dX5_pays_15 (by decide) ?_
    refine lv_istore_n (lv' := [(2, .int 0), (0, .ref (q 200)), (1, .int who)]) hx hb dX5_pays_16 rfl hl (by decide) rfl (fun ls hl => ?_)
    refine lv_iconst (v := 0) hx hb dX5_pays_17 (by decide) ?_
    refine lv_istore_n (lv' := [(3, .int 0), (2, .int 0), (0, .ref (q 200)), (1, .int who)]) hx hb dX5_pays_18 rfl hl (by decide) rfl (fun ls hl => ?_)
    refine lpW (fun k ls => lv_has ls 4 [(0, .ref (q 200)), (1, .int who), (2, .int (smI (sPaid F who) k)), (3, .int (nI k))]) c 0 (Nat.zero_le _) ls (show lv_has ls 4 [(0, .ref (q 200)), (1, .int who), (2, .int (smI (sPaid F who) 0)), (3, .int (nI 0))] from lv_sub hl [2, 3, 1, 0] rfl) ?_ ?_
    · intro ls hl
      have hl : lv_has ls 4 [(0, .ref (q 200)), (1, .int who), (2, .int (smI (sPaid F who) c)), (3, .int (nI c))] := hl
      refine lv_iload_n hx hb dX5_pays_19 rfl (lv_at hl 3 rfl) ?_
      refine lv_aload_n hx hb dX5_pays_20 rfl (lv_at hl 0 rfl) ?_
      refine va_get (D := D) (ci := 5) (v := .int (nI c)) (C := RX5) (T := TX5) (N := 21) hx hb hts (fun _ h => List.mem_cons_of_mem _ (List.mem_append_right _ h)) hown hK hP 0 rfl rfl 8 (by decide) (hts (.fieldLink RX5 102 "UnderPromiseModel" "claims" "I") (List.mem_of_getElem? (i := 2) rfl)) (fun _ h9 => h9) rfl dX5_pays_21 ?_
      refine lv_icmp_ge (tgt := 42) hx hb dX5_pays_24 (by decide) (fun c_3 => ?_) (fun c_3 => ?_)
      · have c_4 := i_le c_3
        refine lv_iload_n hx hb dX5_pays_42 rfl (lv_at hl 2 rfl) ?_
        exact W.iret (v := (smI (sPaid F who) c)) hx hb hr (fun t9 ht9 hW9 => ⟨(smI (sPaid F who) c), rfl, (by first | with_reducible rfl | simp [aPays, b_2, c_3, c_4]), ht9⟩) (fun _ h => by cases h) dX5_pays_43
      · exact absurd (nI_le (Nat.le_refl _) (by omega)) c_3
    · intro k hk0 hk ih ls hl
      have hl : lv_has ls 4 [(0, .ref (q 200)), (1, .int who), (2, .int (smI (sPaid F who) k)), (3, .int (nI k))] := hl
      refine lv_iload_n hx hb dX5_pays_19 rfl (lv_at hl 3 rfl) ?_
      refine lv_aload_n hx hb dX5_pays_20 rfl (lv_at hl 0 rfl) ?_
      refine va_get (D := D) (ci := 5) (v := .int (nI c)) (C := RX5) (T := TX5) (N := 21) hx hb hts (fun _ h => List.mem_cons_of_mem _ (List.mem_append_right _ h)) hown hK hP 0 rfl rfl 8 (by decide) (hts (.fieldLink RX5 102 "UnderPromiseModel" "claims" "I") (List.mem_of_getElem? (i := 2) rfl)) (fun _ h9 => h9) rfl dX5_pays_21 ?_
      refine lv_icmp_ge (tgt := 42) hx hb dX5_pays_24 (by decide) (fun c_5 => ?_) (fun c_5 => ?_)
      · exact absurd c_5 (nI_ge hk (by omega))
      · have c_6 := i_nle c_5
        refine lv_iload_n hx hb dX5_pays_27 rfl (lv_at hl 2 rfl) ?_
        refine lv_aload_n hx hb dX5_pays_28 rfl (lv_at hl 0 rfl) ?_
        refine lv_iload_n hx hb dX5_pays_29 rfl (lv_at hl 3 rfl) ?_
        refine lv_iload_n hx hb dX5_pays_30 rfl (lv_at hl 1 rfl) ?_
        refine roVi (As := [.int (nI k), .int who]) (rest := [.int (smI (sPaid F who) k)]) (v := (sPaid F who k)) ⟨hx, hb, hml, hown, hts⟩ (c_X5_paidFor l D cs q F n c g up lo k who hI (by omega)) (cwV 2 hts gX5_pays_X5_paidFor rfl rfl rfl (by decide +kernel) ⟨Nat.le_of_ble_eq_true rfl, Nat.le_of_ble_eq_true rfl⟩) hP hK hN 0 rfl rfl rfl hl.1 rfl (Nat.le_of_ble_eq_true rfl) dX5_pays_31 ⟨Nat.zero_le _, Nat.zero_le _⟩ ?_
        refine lv_iadd hx hb dX5_pays_34 ?_
        refine lv_istore_n (lv' := [(2, .int ((smI (sPaid F who) k) + (sPaid F who k))), (0, .ref (q 200)), (1, .int who), (3, .int (nI k))]) hx hb dX5_pays_35 rfl hl (by decide) rfl (fun ls hl => ?_)
        refine lv_iinc (v := ((nI k) + 1)) (lv' := [(3, .int ((nI k) + 1)), (2, .int ((smI (sPaid F who) k) + (sPaid F who k))), (0, .ref (q 200)), (1, .int who)]) hx hb dX5_pays_36 hl (k := 3) rfl rfl (by decide) rfl (fun ls hl => ?_)
        refine lv_goto (tgt := 19) hx hb dX5_pays_39 (by decide) ?_
        have h_7 : ((smI (sPaid F who) k) + (sPaid F who k)) = (smI (sPaid F who) (k + 1)) := rfl
        have h_8 : ((nI k) + 1) = (nI (k + 1)) := (nI_1 _)
        exact ih _ (lv_cast (lv_sub (l' := [(0, .ref (q 200)), (1, .int who), (2, .int ((smI (sPaid F who) k) + (sPaid F who k))), (3, .int ((nI k) + 1))]) hl [2, 3, 1, 0] rfl) (cg2 (fun z7 z8 => [(0, .ref (q 200)), (1, .int who), (2, .int z7), (3, .int z8)]) h_7 h_8))
  · have b_9 : (rg who 0 5) = false := bI_f c_1
    refine lv_bipush (v := (-2)) hx hb dX5_pays_12 (by decide) ?_
    exact W.iret (v := (-2)) hx hb hr (fun t9 ht9 hW9 => ⟨(-2), rfl, (by first | with_reducible rfl | simp [aPays, b_9]), ht9⟩) (fun _ h => by cases h) dX5_pays_14
set_option maxHeartbeats 4000000 in
set_option maxRecDepth 100000 in
/-- X5_letCosts -/
theorem c_X5_letCosts (l : Launch) (D : va_G) (cs : Nat → ClassId) (q : Nat → Nat) (F : Nat → Nat → Int32) (n c : Nat) (g : Int32) (up lo : Int64)  (hI : Inv F n c) : Met l yX5_letCosts wsX5_letCosts ({ frames := 0, cells := 0, slots := 0, locals := 0 }) (va_Pc [.ref (q 200)] (pw D cs (mW q cs F n c g up lo))) (vp_Si (fun r => r = (smI (sCost F) c))) 0 0 (fun _ => False) := by
  refine Met.ofW (cc := cX5_letCosts) (maxL := 3) (ret := (some .int)) (by decide) rfl ?_
  intro p e s m args below meth c_ s₁ B hml hv
  obtain ⟨rfl, hP, hK, hN⟩ := hv
  have hx := B.exec
  have hb := B.bytes
  have hr := B.returns
  have hts := atoms_spec (ws := wsX5_letCosts) B.pre
  have hown : s.vm.findClass RX5 = some m.cls := findClass_of_methodNamed B.named
  have hlocks := B.notSynchronized
  have hl := lv_entry ([.ref (q 200)]) (n := 3) (Nat.le_of_ble_eq_true rfl)
  rw [lg_entry_eq]
  generalize (lg_sl ([.ref (q 200)]) ++ List.replicate (3 - (lg_sl ([.ref (q 200)])).length) Slot.unset).toArray = ls at hl ⊢
  have hl : lv_has ls 3 [(0, .ref (q 200))] := hl
  have hn60 := hI.n60
  have hc100 := hI.c100
  refine lv_iconst (v := 0) hx hb dX5_letCosts_0 (by decide) ?_
  refine lv_istore_n (lv' := [(1, .int 0), (0, .ref (q 200))]) hx hb dX5_letCosts_1 rfl hl (by decide) rfl (fun ls hl => ?_)
  refine lv_iconst (v := 0) hx hb dX5_letCosts_2 (by decide) ?_
  refine lv_istore_n (lv' := [(2, .int 0), (1, .int 0), (0, .ref (q 200))]) hx hb dX5_letCosts_3 rfl hl (by decide) rfl (fun ls hl => ?_)
  refine lpW (fun k ls => lv_has ls 3 [(0, .ref (q 200)), (1, .int (smI (sCost F) k)), (2, .int (nI k))]) c 0 (Nat.zero_le _) ls (show lv_has ls 3 [(0, .ref (q 200)), (1, .int (smI (sCost F) 0)), (2, .int (nI 0))] from lv_sub hl [2, 1, 0] rfl) ?_ ?_
  · intro ls hl
    have hl : lv_has ls 3 [(0, .ref (q 200)), (1, .int (smI (sCost F) c)), (2, .int (nI c))] := hl
    refine lv_iload_n hx hb dX5_letCosts_4 rfl (lv_at hl 2 rfl) ?_
    refine lv_aload_n hx hb dX5_letCosts_5 rfl (lv_at hl 0 rfl) ?_
    refine va_get (D := D) (ci := 5) (v := .int (nI c)) (C := RX5) (T := TX5) (N := 21) hx hb hts (fun _ h => List.mem_cons_of_mem _ (List.mem_append_right _ h)) hown hK hP 0 rfl rfl 8 (by decide) (hts (.fieldLink RX5 102 "UnderPromiseModel" "claims" "I") (List.mem_of_getElem? (i := 1) rfl)) (fun _ h9 => h9) rfl dX5_letCosts_6 ?_
    refine lv_icmp_ge (tgt := 40) hx hb dX5_letCosts_9 (by decide) (fun c_1 => ?_) (fun c_1 => ?_)
    · have c_2 := i_le c_1
      refine lv_iload_n hx hb dX5_letCosts_40 rfl (lv_at hl 1 rfl) ?_
      exact W.iret (v := (smI (sCost F) c)) hx hb hr (fun t9 ht9 hW9 => ⟨(smI (sCost F) c), rfl, rfl, ht9⟩) (fun _ h => by cases h) dX5_letCosts_41
    · exact absurd (nI_le (Nat.le_refl _) (by omega)) c_1
  · intro k hk0 hk ih ls hl
    have hl : lv_has ls 3 [(0, .ref (q 200)), (1, .int (smI (sCost F) k)), (2, .int (nI k))] := hl
    refine lv_iload_n hx hb dX5_letCosts_4 rfl (lv_at hl 2 rfl) ?_
    refine lv_aload_n hx hb dX5_letCosts_5 rfl (lv_at hl 0 rfl) ?_
    refine va_get (D := D) (ci := 5) (v := .int (nI c)) (C := RX5) (T := TX5) (N := 21) hx hb hts (fun _ h => List.mem_cons_of_mem _ (List.mem_append_right _ h)) hown hK hP 0 rfl rfl 8 (by decide) (hts (.fieldLink RX5 102 "UnderPromiseModel" "claims" "I") (List.mem_of_getElem? (i := 1) rfl)) (fun _ h9 => h9) rfl dX5_letCosts_6 ?_
    refine lv_icmp_ge (tgt := 40) hx hb dX5_letCosts_9 (by decide) (fun c_3 => ?_) (fun c_3 => ?_)
    · exact absurd c_3 (nI_ge hk (by omega))
    · have c_4 := i_nle c_3
      refine lv_iload_n hx hb dX5_letCosts_12 rfl (lv_at hl 1 rfl) ?_
      refine lv_aload_n hx hb dX5_letCosts_13 rfl (lv_at hl 0 rfl) ?_
      refine va_get (D := D) (ci := 5) (v := .ref (q 212)) (C := RX5) (T := TX5) (N := 21) hx hb hts (fun _ h => List.mem_cons_of_mem _ (List.mem_append_right _ h)) hown hK hP 0 rfl rfl 14 (by decide) (hts (.fieldLink RX5 47 "UnderPromiseModel" "judged" "[I") (List.mem_of_getElem? (i := 2) rfl)) (fun _ h9 => h9) rfl dX5_letCosts_14 ?_
      refine lv_iload_n hx hb dX5_letCosts_17 rfl (lv_at hl 2 rfl) ?_
      refine iaK (v := (F 11 k)) hx hb hK hP 12 0 rfl rfl k (vp_in_nI (by omega) (by decide)) (nI_clamp (by omega)) rfl dX5_letCosts_18 ?_
      refine lv_if_ne (tgt := 31) hx hb dX5_letCosts_19 (by decide) (fun c_5 => ?_) (fun c_5 => ?_)
      · refine lv_iconst (v := 0) hx hb dX5_letCosts_31 (by decide) ?_
        refine lv_iadd hx hb dX5_letCosts_32 ?_
        refine lv_istore_n (lv' := [(1, .int ((smI (sCost F) k) + 0)), (0, .ref (q 200)), (2, .int (nI k))]) hx hb dX5_letCosts_33 rfl hl (by decide) rfl (fun ls hl => ?_)
        refine lv_iinc (v := ((nI k) + 1)) (lv' := [(2, .int ((nI k) + 1)), (1, .int ((smI (sCost F) k) + 0)), (0, .ref (q 200))]) hx hb dX5_letCosts_34 hl (k := 2) rfl rfl (by decide) rfl (fun ls hl => ?_)
        refine lv_goto (tgt := 4) hx hb dX5_letCosts_37 (by decide) ?_
        have h_6 : ((smI (sCost F) k) + 0) = (smI (sCost F) (k + 1)) := (by first | with_reducible rfl | simp [smI, sCost, c_3, c_4, c_5])
        have h_7 : ((nI k) + 1) = (nI (k + 1)) := (nI_1 _)
        exact ih _ (lv_cast (lv_sub (l' := [(0, .ref (q 200)), (1, .int ((smI (sCost F) k) + 0)), (2, .int ((nI k) + 1))]) hl [2, 1, 0] rfl) (cg2 (fun z6 z7 => [(0, .ref (q 200)), (1, .int z6), (2, .int z7)]) h_6 h_7))
      · refine lv_aload_n hx hb dX5_letCosts_22 rfl (lv_at hl 0 rfl) ?_
        refine va_get (D := D) (ci := 5) (v := .ref (q 211)) (C := RX5) (T := TX5) (N := 21) hx hb hts (fun _ h => List.mem_cons_of_mem _ (List.mem_append_right _ h)) hown hK hP 0 rfl rfl 13 (by decide) (hts (.fieldLink RX5 44 "UnderPromiseModel" "costs" "[I") (List.mem_of_getElem? (i := 3) rfl)) (fun _ h9 => h9) rfl dX5_letCosts_23 ?_
        refine lv_iload_n hx hb dX5_letCosts_26 rfl (lv_at hl 2 rfl) ?_
        refine iaK (v := (F 10 k)) hx hb hK hP 11 0 rfl rfl k (vp_in_nI (by omega) (by decide)) (nI_clamp (by omega)) rfl dX5_letCosts_27 ?_
        refine lv_goto (tgt := 32) hx hb dX5_letCosts_28 (by decide) ?_
        refine lv_iadd hx hb dX5_letCosts_32 ?_
        refine lv_istore_n (lv' := [(1, .int ((smI (sCost F) k) + (F 10 k))), (0, .ref (q 200)), (2, .int (nI k))]) hx hb dX5_letCosts_33 rfl hl (by decide) rfl (fun ls hl => ?_)
        refine lv_iinc (v := ((nI k) + 1)) (lv' := [(2, .int ((nI k) + 1)), (1, .int ((smI (sCost F) k) + (F 10 k))), (0, .ref (q 200))]) hx hb dX5_letCosts_34 hl (k := 2) rfl rfl (by decide) rfl (fun ls hl => ?_)
        refine lv_goto (tgt := 4) hx hb dX5_letCosts_37 (by decide) ?_
        have h_8 : ((smI (sCost F) k) + (F 10 k)) = (smI (sCost F) (k + 1)) := (by first | with_reducible rfl | simp [smI, sCost, c_3, c_4, c_5])
        have h_9 : ((nI k) + 1) = (nI (k + 1)) := (nI_1 _)
        exact ih _ (lv_cast (lv_sub (l' := [(0, .ref (q 200)), (1, .int ((smI (sCost F) k) + (F 10 k))), (2, .int ((nI k) + 1))]) hl [2, 1, 0] rfl) (cg2 (fun z8 z9 => [(0, .ref (q 200)), (1, .int z8), (2, .int z9)]) h_8 h_9))
set_option maxHeartbeats 4000000 in
set_option maxRecDepth 100000 in
/-- X5_left -/
theorem c_X5_left (l : Launch) (D : va_G) (cs : Nat → ClassId) (q : Nat → Nat) (F : Nat → Nat → Int32) (n c : Nat) (g : Int32) (up lo : Int64)  (hI : Inv F n c) : Met l yX5_left wsX5_left ({ frames := 2, cells := 0, slots := 0, locals := 46 }) (va_Pc [.ref (q 200)] (pw D cs (mW q cs F n c g up lo))) (vp_Si (fun r => r = (sbI (sPaid F (-1)) (smI (sCost F) c) c))) 0 0 (fun _ => False) := by
  refine Met.ofW (cc := cX5_left) (maxL := 3) (ret := (some .int)) (by decide) rfl ?_
  intro p e s m args below meth c_ s₁ B hml hv
  obtain ⟨rfl, hP, hK, hN⟩ := hv
  have hx := B.exec
  have hb := B.bytes
  have hr := B.returns
  have hts := atoms_spec (ws := wsX5_left) B.pre
  have hown : s.vm.findClass RX5 = some m.cls := findClass_of_methodNamed B.named
  have hlocks := B.notSynchronized
  have hl := lv_entry ([.ref (q 200)]) (n := 3) (Nat.le_of_ble_eq_true rfl)
  rw [lg_entry_eq]
  generalize (lg_sl ([.ref (q 200)]) ++ List.replicate (3 - (lg_sl ([.ref (q 200)])).length) Slot.unset).toArray = ls at hl ⊢
  have hl : lv_has ls 3 [(0, .ref (q 200))] := hl
  have hn60 := hI.n60
  have hc100 := hI.c100
  refine lv_aload_n hx hb dX5_left_0 rfl (lv_at hl 0 rfl) ?_
  refine roVi (As := []) (rest := []) (v := (smI (sCost F) c)) ⟨hx, hb, hml, hown, hts⟩ (c_X5_letCosts l D cs q F n c g up lo  hI) (cwV 0 hts gX5_left_X5_letCosts rfl rfl rfl (by decide +kernel) ⟨Nat.le_of_ble_eq_true rfl, Nat.le_of_ble_eq_true rfl⟩) hP hK hN 0 rfl rfl rfl hl.1 rfl (Nat.le_of_ble_eq_true rfl) dX5_left_1 ⟨Nat.zero_le _, Nat.zero_le _⟩ ?_
  refine lv_istore_n (lv' := [(1, .int (smI (sCost F) c)), (0, .ref (q 200))]) hx hb dX5_left_4 rfl hl (by decide) rfl (fun ls hl => ?_)
  refine lv_iconst (v := 0) hx hb dX5_left_5 (by decide) ?_
  refine lv_istore_n (lv' := [(2, .int 0), (1, .int (smI (sCost F) c)), (0, .ref (q 200))]) hx hb dX5_left_6 rfl hl (by decide) rfl (fun ls hl => ?_)
  refine lpW (fun k ls => lv_has ls 3 [(0, .ref (q 200)), (1, .int (sbI (sPaid F (-1)) (smI (sCost F) c) k)), (2, .int (nI k))]) c 0 (Nat.zero_le _) ls (show lv_has ls 3 [(0, .ref (q 200)), (1, .int (sbI (sPaid F (-1)) (smI (sCost F) c) 0)), (2, .int (nI 0))] from lv_sub hl [2, 1, 0] rfl) ?_ ?_
  · intro ls hl
    have hl : lv_has ls 3 [(0, .ref (q 200)), (1, .int (sbI (sPaid F (-1)) (smI (sCost F) c) c)), (2, .int (nI c))] := hl
    refine lv_iload_n hx hb dX5_left_7 rfl (lv_at hl 2 rfl) ?_
    refine lv_aload_n hx hb dX5_left_8 rfl (lv_at hl 0 rfl) ?_
    refine va_get (D := D) (ci := 5) (v := .int (nI c)) (C := RX5) (T := TX5) (N := 21) hx hb hts (fun _ h => List.mem_cons_of_mem _ (List.mem_append_right _ h)) hown hK hP 0 rfl rfl 8 (by decide) (hts (.fieldLink RX5 102 "UnderPromiseModel" "claims" "I") (List.mem_of_getElem? (i := 1) rfl)) (fun _ h9 => h9) rfl dX5_left_9 ?_
    refine lv_icmp_ge (tgt := 30) hx hb dX5_left_12 (by decide) (fun c_1 => ?_) (fun c_1 => ?_)
    · have c_2 := i_le c_1
      refine lv_iload_n hx hb dX5_left_30 rfl (lv_at hl 1 rfl) ?_
      exact W.iret (v := (sbI (sPaid F (-1)) (smI (sCost F) c) c)) hx hb hr (fun t9 ht9 hW9 => ⟨(sbI (sPaid F (-1)) (smI (sCost F) c) c), rfl, rfl, ht9⟩) (fun _ h => by cases h) dX5_left_31
    · exact absurd (nI_le (Nat.le_refl _) (by omega)) c_1
  · intro k hk0 hk ih ls hl
    have hl : lv_has ls 3 [(0, .ref (q 200)), (1, .int (sbI (sPaid F (-1)) (smI (sCost F) c) k)), (2, .int (nI k))] := hl
    refine lv_iload_n hx hb dX5_left_7 rfl (lv_at hl 2 rfl) ?_
    refine lv_aload_n hx hb dX5_left_8 rfl (lv_at hl 0 rfl) ?_
    refine va_get (D := D) (ci := 5) (v := .int (nI c)) (C := RX5) (T := TX5) (N := 21) hx hb hts (fun _ h => List.mem_cons_of_mem _ (List.mem_append_right _ h)) hown hK hP 0 rfl rfl 8 (by decide) (hts (.fieldLink RX5 102 "UnderPromiseModel" "claims" "I") (List.mem_of_getElem? (i := 1) rfl)) (fun _ h9 => h9) rfl dX5_left_9 ?_
    refine lv_icmp_ge (tgt := 30) hx hb dX5_left_12 (by decide) (fun c_3 => ?_) (fun c_3 => ?_)
    · exact absurd c_3 (nI_ge hk (by omega))
    · have c_4 := i_nle c_3
      refine lv_iload_n hx hb dX5_left_15 rfl (lv_at hl 1 rfl) ?_
      refine lv_aload_n hx hb dX5_left_16 rfl (lv_at hl 0 rfl) ?_
      refine lv_iload_n hx hb dX5_left_17 rfl (lv_at hl 2 rfl) ?_
      refine lv_iconst (v := (-1)) hx hb dX5_left_18 (by decide) ?_
      refine roVi (As := [.int (nI k), .int (-1)]) (rest := [.int (sbI (sPaid F (-1)) (smI (sCost F) c) k)]) (v := (sPaid F (-1) k)) ⟨hx, hb, hml, hown, hts⟩ (c_X5_paidFor l D cs q F n c g up lo k (-1) hI (by omega)) (cwV 2 hts gX5_left_X5_paidFor rfl rfl rfl (by decide +kernel) ⟨Nat.le_of_ble_eq_true rfl, Nat.le_of_ble_eq_true rfl⟩) hP hK hN 0 rfl rfl rfl hl.1 rfl (Nat.le_of_ble_eq_true rfl) dX5_left_19 ⟨Nat.zero_le _, Nat.zero_le _⟩ ?_
      refine lv_isub hx hb dX5_left_22 ?_
      refine lv_istore_n (lv' := [(1, .int ((sbI (sPaid F (-1)) (smI (sCost F) c) k) - (sPaid F (-1) k))), (0, .ref (q 200)), (2, .int (nI k))]) hx hb dX5_left_23 rfl hl (by decide) rfl (fun ls hl => ?_)
      refine lv_iinc (v := ((nI k) + 1)) (lv' := [(2, .int ((nI k) + 1)), (1, .int ((sbI (sPaid F (-1)) (smI (sCost F) c) k) - (sPaid F (-1) k))), (0, .ref (q 200))]) hx hb dX5_left_24 hl (k := 2) rfl rfl (by decide) rfl (fun ls hl => ?_)
      refine lv_goto (tgt := 7) hx hb dX5_left_27 (by decide) ?_
      have h_5 : ((sbI (sPaid F (-1)) (smI (sCost F) c) k) - (sPaid F (-1) k)) = (sbI (sPaid F (-1)) (smI (sCost F) c) (k + 1)) := rfl
      have h_6 : ((nI k) + 1) = (nI (k + 1)) := (nI_1 _)
      exact ih _ (lv_cast (lv_sub (l' := [(0, .ref (q 200)), (1, .int ((sbI (sPaid F (-1)) (smI (sCost F) c) k) - (sPaid F (-1) k))), (2, .int ((nI k) + 1))]) hl [2, 1, 0] rfl) (cg2 (fun z5 z6 => [(0, .ref (q 200)), (1, .int z5), (2, .int z6)]) h_5 h_6))
set_option maxHeartbeats 4000000 in
set_option maxRecDepth 100000 in
/-- X5_isCalled -/
theorem c_X5_isCalled (l : Launch) (D : va_G) (cs : Nat → ClassId) (q : Nat → Nat) (F : Nat → Nat → Int32) (n c : Nat) (g : Int32) (up lo : Int64) (t : Nat) (pt : Int32) (bs : Int32) (fr : Int32) (to0 : Int32) (hI : Inv F n c) (ht : t < n) (hp9 : rg pt 0 9 = true) : Met l yX5_isCalled wsX5_isCalled ({ frames := 1, cells := 0, slots := 0, locals := 25 }) (va_Pc [.ref (q 200), .int (nI t), .int pt, .int bs, .int fr, .int to0] (pw D cs (mW q cs F n c g up lo))) (vp_Si (fun r => r = (bI (sCal F bs fr to0 t pt c)))) 0 0 (fun _ => False) := by
  refine Met.ofW (cc := cX5_isCalled) (maxL := 8) (ret := (some .boolean)) (by decide) rfl ?_
  intro p e s m args below meth c_ s₁ B hml hv
  obtain ⟨rfl, hP, hK, hN⟩ := hv
  have hx := B.exec
  have hb := B.bytes
  have hr := B.returns
  have hts := atoms_spec (ws := wsX5_isCalled) B.pre
  have hown : s.vm.findClass RX5 = some m.cls := findClass_of_methodNamed B.named
  have hlocks := B.notSynchronized
  have hl := lv_entry ([.ref (q 200), .int (nI t), .int pt, .int bs, .int fr, .int to0]) (n := 8) (Nat.le_of_ble_eq_true rfl)
  rw [lg_entry_eq]
  generalize (lg_sl ([.ref (q 200), .int (nI t), .int pt, .int bs, .int fr, .int to0]) ++ List.replicate (8 - (lg_sl ([.ref (q 200), .int (nI t), .int pt, .int bs, .int fr, .int to0])).length) Slot.unset).toArray = ls at hl ⊢
  have hl : lv_has ls 8 [(0, .ref (q 200)), (1, .int (nI t)), (2, .int pt), (3, .int bs), (4, .int fr), (5, .int to0)] := hl
  have hn60 := hI.n60
  have hc100 := hI.c100
  refine lv_iload_n hx hb dX5_isCalled_0 rfl (lv_at hl 3 rfl) ?_
  refine lv_aload_n hx hb dX5_isCalled_1 rfl (lv_at hl 0 rfl) ?_
  refine va_get (D := D) (ci := 5) (v := .ref (q 203)) (C := RX5) (T := TX5) (N := 21) hx hb hts (fun _ h => List.mem_cons_of_mem _ (List.mem_append_right _ h)) hown hK hP 0 rfl rfl 3 (by decide) (hts (.fieldLink RX5 16 "UnderPromiseModel" "batchOf" "[I") (List.mem_of_getElem? (i := 1) rfl)) (fun _ h9 => h9) rfl dX5_isCalled_2 ?_
  refine lv_iload_n hx hb dX5_isCalled_5 rfl (lv_at hl 1 rfl) ?_
  refine iaK (v := (F 0 t)) hx hb hK hP 3 0 rfl rfl t (vp_in_nI (by omega) (by decide)) (nI_clamp (by omega)) rfl dX5_isCalled_6 ?_
  refine lv_ishr hx hb dX5_isCalled_7 ?_
  refine lv_iconst (v := 1) hx hb dX5_isCalled_8 (by decide) ?_
  refine lv_iand hx hb dX5_isCalled_9 ?_
  refine lv_iconst (v := 1) hx hb dX5_isCalled_10 (by decide) ?_
  refine lv_icmp_ne (tgt := 37) hx hb dX5_isCalled_11 (by decide) (fun c_1 => ?_) (fun c_1 => ?_)
  · refine lv_iconst (v := 0) hx hb dX5_isCalled_37 (by decide) ?_
    refine lv_istore (lv' := [(6, .int 0), (0, .ref (q 200)), (1, .int (nI t)), (2, .int pt), (3, .int bs), (4, .int fr), (5, .int to0)]) hx hb dX5_isCalled_38 hl (by decide) rfl (fun ls hl => ?_)
    refine lv_iconst (v := 0) hx hb dX5_isCalled_40 (by decide) ?_
    refine lv_istore (lv' := [(7, .int 0), (6, .int 0), (0, .ref (q 200)), (1, .int (nI t)), (2, .int pt), (3, .int bs), (4, .int fr), (5, .int to0)]) hx hb dX5_isCalled_41 hl (by decide) rfl (fun ls hl => ?_)
    have hz0 : bI (sCal F bs fr to0 t pt 0) = 0 := by simp [sCal, sCb, anyB, bI, c_1]
    refine lpW (fun k ls => lv_has ls 8 [(0, .ref (q 200)), (1, .int (nI t)), (2, .int pt), (3, .int bs), (4, .int fr), (5, .int to0), (6, .int (bI (sCal F bs fr to0 t pt k))), (7, .int (nI k))]) c 0 (Nat.zero_le _) ls (lv_cast (lv_sub (l' := [(0, .ref (q 200)), (1, .int (nI t)), (2, .int pt), (3, .int bs), (4, .int fr), (5, .int to0), (6, .int 0), (7, .int 0)]) hl [2, 3, 4, 5, 6, 7, 1, 0] rfl) (by rw [hz0]; first | done | rfl)) ?_ ?_
    · intro ls hl
      have hl : lv_has ls 8 [(0, .ref (q 200)), (1, .int (nI t)), (2, .int pt), (3, .int bs), (4, .int fr), (5, .int to0), (6, .int (bI (sCal F bs fr to0 t pt c))), (7, .int (nI c))] := hl
      refine lv_iload hx hb dX5_isCalled_43 (lv_at hl 7 rfl) ?_
      refine lv_aload_n hx hb dX5_isCalled_45 rfl (lv_at hl 0 rfl) ?_
      refine va_get (D := D) (ci := 5) (v := .int (nI c)) (C := RX5) (T := TX5) (N := 21) hx hb hts (fun _ h => List.mem_cons_of_mem _ (List.mem_append_right _ h)) hown hK hP 0 rfl rfl 8 (by decide) (hts (.fieldLink RX5 102 "UnderPromiseModel" "claims" "I") (List.mem_of_getElem? (i := 3) rfl)) (fun _ h9 => h9) rfl dX5_isCalled_46 ?_
      refine lv_icmp_ge (tgt := 106) hx hb dX5_isCalled_49 (by decide) (fun c_2 => ?_) (fun c_2 => ?_)
      · have c_3 := i_le c_2
        refine lv_iload hx hb dX5_isCalled_106 (lv_at hl 6 rfl) ?_
        exact W.zret (v := (bI (sCal F bs fr to0 t pt c))) hx hb hr (bI_n (sCal F bs fr to0 t pt c)) (fun t9 ht9 hW9 => ⟨(bI (sCal F bs fr to0 t pt c)), rfl, rfl, ht9⟩) (fun _ h => by cases h) dX5_isCalled_108
      · exact absurd (nI_le (Nat.le_refl _) (by omega)) c_2
    · intro k hk0 hk ih ls hl
      have hl : lv_has ls 8 [(0, .ref (q 200)), (1, .int (nI t)), (2, .int pt), (3, .int bs), (4, .int fr), (5, .int to0), (6, .int (bI (sCal F bs fr to0 t pt k))), (7, .int (nI k))] := hl
      refine lv_iload hx hb dX5_isCalled_43 (lv_at hl 7 rfl) ?_
      refine lv_aload_n hx hb dX5_isCalled_45 rfl (lv_at hl 0 rfl) ?_
      refine va_get (D := D) (ci := 5) (v := .int (nI c)) (C := RX5) (T := TX5) (N := 21) hx hb hts (fun _ h => List.mem_cons_of_mem _ (List.mem_append_right _ h)) hown hK hP 0 rfl rfl 8 (by decide) (hts (.fieldLink RX5 102 "UnderPromiseModel" "claims" "I") (List.mem_of_getElem? (i := 3) rfl)) (fun _ h9 => h9) rfl dX5_isCalled_46 ?_
      refine lv_icmp_ge (tgt := 106) hx hb dX5_isCalled_49 (by decide) (fun c_4 => ?_) (fun c_4 => ?_)
      · exact absurd c_4 (nI_ge hk (by omega))
      · have c_5 := i_nle c_4
        refine lv_iload hx hb dX5_isCalled_52 (lv_at hl 6 rfl) ?_
        refine lv_if_eq (tgt := 97) hx hb dX5_isCalled_54 (by decide) (fun c_6 => ?_) (fun c_6 => ?_)
        · have b_7 : (sCal F bs fr to0 t pt k) = false := bI_f c_6
          refine lv_iconst (v := 0) hx hb dX5_isCalled_97 (by decide) ?_
          refine lv_istore (lv' := [(6, .int 0), (0, .ref (q 200)), (1, .int (nI t)), (2, .int pt), (3, .int bs), (4, .int fr), (5, .int to0), (7, .int (nI k))]) hx hb dX5_isCalled_98 hl (by decide) rfl (fun ls hl => ?_)
          refine lv_iinc (v := ((nI k) + 1)) (lv' := [(7, .int ((nI k) + 1)), (6, .int 0), (0, .ref (q 200)), (1, .int (nI t)), (2, .int pt), (3, .int bs), (4, .int fr), (5, .int to0)]) hx hb dX5_isCalled_100 hl (k := 7) rfl rfl (by decide) rfl (fun ls hl => ?_)
          refine lv_goto (tgt := 43) hx hb dX5_isCalled_103 (by decide) ?_
          have h_8 : 0 = (bI (sCal F bs fr to0 t pt (k + 1))) := (by first | with_reducible rfl | simp [sCal_s, sCc, bI, c_1, c_4, c_5, b_7])
          have h_9 : ((nI k) + 1) = (nI (k + 1)) := (nI_1 _)
          exact ih _ (lv_cast (lv_sub (l' := [(0, .ref (q 200)), (1, .int (nI t)), (2, .int pt), (3, .int bs), (4, .int fr), (5, .int to0), (6, .int 0), (7, .int ((nI k) + 1))]) hl [2, 3, 4, 5, 6, 7, 1, 0] rfl) (cg2 (fun z8 z9 => [(0, .ref (q 200)), (1, .int (nI t)), (2, .int pt), (3, .int bs), (4, .int fr), (5, .int to0), (6, .int z8), (7, .int z9)]) h_8 h_9))
        · have b_10 : (sCal F bs fr to0 t pt k) = true := bI_t c_6
          refine lv_aload_n hx hb dX5_isCalled_57 rfl (lv_at hl 0 rfl) ?_
          refine va_get (D := D) (ci := 5) (v := .ref (q 212)) (C := RX5) (T := TX5) (N := 21) hx hb hts (fun _ h => List.mem_cons_of_mem _ (List.mem_append_right _ h)) hown hK hP 0 rfl rfl 14 (by decide) (hts (.fieldLink RX5 47 "UnderPromiseModel" "judged" "[I") (List.mem_of_getElem? (i := 4) rfl)) (fun _ h9 => h9) rfl dX5_isCalled_58 ?_
          refine lv_iload hx hb dX5_isCalled_61 (lv_at hl 7 rfl) ?_
          refine iaK (v := (F 11 k)) hx hb hK hP 12 0 rfl rfl k (vp_in_nI (by omega) (by decide)) (nI_clamp (by omega)) rfl dX5_isCalled_63 ?_
          refine lv_if_ne (tgt := 93) hx hb dX5_isCalled_64 (by decide) (fun c_11 => ?_) (fun c_11 => ?_)
          · refine lv_iconst (v := 1) hx hb dX5_isCalled_93 (by decide) ?_
            refine lv_goto (tgt := 98) hx hb dX5_isCalled_94 (by decide) ?_
            refine lv_istore (lv' := [(6, .int 1), (0, .ref (q 200)), (1, .int (nI t)), (2, .int pt), (3, .int bs), (4, .int fr), (5, .int to0), (7, .int (nI k))]) hx hb dX5_isCalled_98 hl (by decide) rfl (fun ls hl => ?_)
            refine lv_iinc (v := ((nI k) + 1)) (lv' := [(7, .int ((nI k) + 1)), (6, .int 1), (0, .ref (q 200)), (1, .int (nI t)), (2, .int pt), (3, .int bs), (4, .int fr), (5, .int to0)]) hx hb dX5_isCalled_100 hl (k := 7) rfl rfl (by decide) rfl (fun ls hl => ?_)
            refine lv_goto (tgt := 43) hx hb dX5_isCalled_103 (by decide) ?_
            have h_12 : 1 = (bI (sCal F bs fr to0 t pt (k + 1))) := (by first | with_reducible rfl | simp [sCal_s, sCc, bI, c_1, c_4, c_5, b_10, c_11])
            have h_13 : ((nI k) + 1) = (nI (k + 1)) := (nI_1 _)
            exact ih _ (lv_cast (lv_sub (l' := [(0, .ref (q 200)), (1, .int (nI t)), (2, .int pt), (3, .int bs), (4, .int fr), (5, .int to0), (6, .int 1), (7, .int ((nI k) + 1))]) hl [2, 3, 4, 5, 6, 7, 1, 0] rfl) (cg2 (fun z12 z13 => [(0, .ref (q 200)), (1, .int (nI t)), (2, .int pt), (3, .int bs), (4, .int fr), (5, .int to0), (6, .int z12), (7, .int z13)]) h_12 h_13))
          · refine lv_aload_n hx hb dX5_isCalled_67 rfl (lv_at hl 0 rfl) ?_
            refine va_get (D := D) (ci := 5) (v := .ref (q 207)) (C := RX5) (T := TX5) (N := 21) hx hb hts (fun _ h => List.mem_cons_of_mem _ (List.mem_append_right _ h)) hown hK hP 0 rfl rfl 9 (by decide) (hts (.fieldLink RX5 32 "UnderPromiseModel" "ofThing" "[I") (List.mem_of_getElem? (i := 5) rfl)) (fun _ h9 => h9) rfl dX5_isCalled_68 ?_
            refine lv_iload hx hb dX5_isCalled_71 (lv_at hl 7 rfl) ?_
            refine iaK (v := (F 6 k)) hx hb hK hP 7 0 rfl rfl k (vp_in_nI (by omega) (by decide)) (nI_clamp (by omega)) rfl dX5_isCalled_73 ?_
            refine lv_iload_n hx hb dX5_isCalled_74 rfl (lv_at hl 1 rfl) ?_
            refine lv_icmp_ne (tgt := 93) hx hb dX5_isCalled_75 (by decide) (fun c_14 => ?_) (fun c_14 => ?_)
            · refine lv_iconst (v := 1) hx hb dX5_isCalled_93 (by decide) ?_
              refine lv_goto (tgt := 98) hx hb dX5_isCalled_94 (by decide) ?_
              refine lv_istore (lv' := [(6, .int 1), (0, .ref (q 200)), (1, .int (nI t)), (2, .int pt), (3, .int bs), (4, .int fr), (5, .int to0), (7, .int (nI k))]) hx hb dX5_isCalled_98 hl (by decide) rfl (fun ls hl => ?_)
              refine lv_iinc (v := ((nI k) + 1)) (lv' := [(7, .int ((nI k) + 1)), (6, .int 1), (0, .ref (q 200)), (1, .int (nI t)), (2, .int pt), (3, .int bs), (4, .int fr), (5, .int to0)]) hx hb dX5_isCalled_100 hl (k := 7) rfl rfl (by decide) rfl (fun ls hl => ?_)
              refine lv_goto (tgt := 43) hx hb dX5_isCalled_103 (by decide) ?_
              have h_15 : 1 = (bI (sCal F bs fr to0 t pt (k + 1))) := (by first | with_reducible rfl | simp [sCal_s, sCc, bI, c_1, c_4, c_5, b_10, c_11, c_14])
              have h_16 : ((nI k) + 1) = (nI (k + 1)) := (nI_1 _)
              exact ih _ (lv_cast (lv_sub (l' := [(0, .ref (q 200)), (1, .int (nI t)), (2, .int pt), (3, .int bs), (4, .int fr), (5, .int to0), (6, .int 1), (7, .int ((nI k) + 1))]) hl [2, 3, 4, 5, 6, 7, 1, 0] rfl) (cg2 (fun z15 z16 => [(0, .ref (q 200)), (1, .int (nI t)), (2, .int pt), (3, .int bs), (4, .int fr), (5, .int to0), (6, .int z15), (7, .int z16)]) h_15 h_16))
            · refine lv_aload_n hx hb dX5_isCalled_78 rfl (lv_at hl 0 rfl) ?_
              refine lv_aload_n hx hb dX5_isCalled_79 rfl (lv_at hl 0 rfl) ?_
              refine va_get (D := D) (ci := 5) (v := .ref (q 208)) (C := RX5) (T := TX5) (N := 21) hx hb hts (fun _ h => List.mem_cons_of_mem _ (List.mem_append_right _ h)) hown hK hP 0 rfl rfl 10 (by decide) (hts (.fieldLink RX5 35 "UnderPromiseModel" "ofPart" "[I") (List.mem_of_getElem? (i := 6) rfl)) (fun _ h9 => h9) rfl dX5_isCalled_80 ?_
              refine lv_iload hx hb dX5_isCalled_83 (lv_at hl 7 rfl) ?_
              refine iaK (v := (F 7 k)) hx hb hK hP 8 0 rfl rfl k (vp_in_nI (by omega) (by decide)) (nI_clamp (by omega)) rfl dX5_isCalled_85 ?_
              refine lv_iload_n hx hb dX5_isCalled_86 rfl (lv_at hl 2 rfl) ?_
              refine roVi (As := [.int (F 7 k), .int pt]) (rest := []) (v := (bI (stn F pt 10 (F 7 k)))) ⟨hx, hb, hml, hown, hts⟩ (c_X5_isUnder l D cs q F n c g up lo (F 7 k) pt hI (hI.C hk).2.1 hp9) (cwV 2 hts gX5_isCalled_X5_isUnder rfl rfl rfl (by decide +kernel) ⟨Nat.le_of_ble_eq_true rfl, Nat.le_of_ble_eq_true rfl⟩) hP hK hN 0 rfl rfl rfl hl.1 rfl (Nat.le_of_ble_eq_true rfl) dX5_isCalled_87 ⟨Nat.zero_le _, Nat.zero_le _⟩ ?_
              refine lv_if_ne (tgt := 97) hx hb dX5_isCalled_90 (by decide) (fun c_17 => ?_) (fun c_17 => ?_)
              · have b_18 : (stn F pt 10 (F 7 k)) = true := bI_t c_17
                refine lv_iconst (v := 0) hx hb dX5_isCalled_97 (by decide) ?_
                refine lv_istore (lv' := [(6, .int 0), (0, .ref (q 200)), (1, .int (nI t)), (2, .int pt), (3, .int bs), (4, .int fr), (5, .int to0), (7, .int (nI k))]) hx hb dX5_isCalled_98 hl (by decide) rfl (fun ls hl => ?_)
                refine lv_iinc (v := ((nI k) + 1)) (lv' := [(7, .int ((nI k) + 1)), (6, .int 0), (0, .ref (q 200)), (1, .int (nI t)), (2, .int pt), (3, .int bs), (4, .int fr), (5, .int to0)]) hx hb dX5_isCalled_100 hl (k := 7) rfl rfl (by decide) rfl (fun ls hl => ?_)
                refine lv_goto (tgt := 43) hx hb dX5_isCalled_103 (by decide) ?_
                have h_19 : 0 = (bI (sCal F bs fr to0 t pt (k + 1))) := (by first | with_reducible rfl | simp [sCal_s, sCc, bI, c_1, c_4, c_5, b_10, c_11, c_14, b_18])
                have h_20 : ((nI k) + 1) = (nI (k + 1)) := (nI_1 _)
                exact ih _ (lv_cast (lv_sub (l' := [(0, .ref (q 200)), (1, .int (nI t)), (2, .int pt), (3, .int bs), (4, .int fr), (5, .int to0), (6, .int 0), (7, .int ((nI k) + 1))]) hl [2, 3, 4, 5, 6, 7, 1, 0] rfl) (cg2 (fun z19 z20 => [(0, .ref (q 200)), (1, .int (nI t)), (2, .int pt), (3, .int bs), (4, .int fr), (5, .int to0), (6, .int z19), (7, .int z20)]) h_19 h_20))
              · have b_21 : (stn F pt 10 (F 7 k)) = false := bI_f c_17
                refine lv_iconst (v := 1) hx hb dX5_isCalled_93 (by decide) ?_
                refine lv_goto (tgt := 98) hx hb dX5_isCalled_94 (by decide) ?_
                refine lv_istore (lv' := [(6, .int 1), (0, .ref (q 200)), (1, .int (nI t)), (2, .int pt), (3, .int bs), (4, .int fr), (5, .int to0), (7, .int (nI k))]) hx hb dX5_isCalled_98 hl (by decide) rfl (fun ls hl => ?_)
                refine lv_iinc (v := ((nI k) + 1)) (lv' := [(7, .int ((nI k) + 1)), (6, .int 1), (0, .ref (q 200)), (1, .int (nI t)), (2, .int pt), (3, .int bs), (4, .int fr), (5, .int to0)]) hx hb dX5_isCalled_100 hl (k := 7) rfl rfl (by decide) rfl (fun ls hl => ?_)
                refine lv_goto (tgt := 43) hx hb dX5_isCalled_103 (by decide) ?_
                have h_22 : 1 = (bI (sCal F bs fr to0 t pt (k + 1))) := (by first | with_reducible rfl | simp [sCal_s, sCc, bI, c_1, c_4, c_5, b_10, c_11, c_14, b_21])
                have h_23 : ((nI k) + 1) = (nI (k + 1)) := (nI_1 _)
                exact ih _ (lv_cast (lv_sub (l' := [(0, .ref (q 200)), (1, .int (nI t)), (2, .int pt), (3, .int bs), (4, .int fr), (5, .int to0), (6, .int 1), (7, .int ((nI k) + 1))]) hl [2, 3, 4, 5, 6, 7, 1, 0] rfl) (cg2 (fun z22 z23 => [(0, .ref (q 200)), (1, .int (nI t)), (2, .int pt), (3, .int bs), (4, .int fr), (5, .int to0), (6, .int z22), (7, .int z23)]) h_22 h_23))
  · refine lv_aload_n hx hb dX5_isCalled_14 rfl (lv_at hl 0 rfl) ?_
    refine va_get (D := D) (ci := 5) (v := .ref (q 204)) (C := RX5) (T := TX5) (N := 21) hx hb hts (fun _ h => List.mem_cons_of_mem _ (List.mem_append_right _ h)) hown hK hP 0 rfl rfl 4 (by decide) (hts (.fieldLink RX5 19 "UnderPromiseModel" "soldIn" "[I") (List.mem_of_getElem? (i := 2) rfl)) (fun _ h9 => h9) rfl dX5_isCalled_15 ?_
    refine lv_iload_n hx hb dX5_isCalled_18 rfl (lv_at hl 1 rfl) ?_
    refine iaK (v := (F 1 t)) hx hb hK hP 4 0 rfl rfl t (vp_in_nI (by omega) (by decide)) (nI_clamp (by omega)) rfl dX5_isCalled_19 ?_
    refine lv_i2l (v := (Int32.toInt64 (F 1 t))) hx hb dX5_isCalled_20 rfl ?_
    refine lv_iload hx hb dX5_isCalled_21 (lv_at hl 4 rfl) ?_
    refine lv_i2l (v := (Int32.toInt64 fr)) hx hb dX5_isCalled_23 rfl ?_
    refine lv_iload hx hb dX5_isCalled_24 (lv_at hl 5 rfl) ?_
    refine lv_i2l (v := (Int32.toInt64 to0)) hx hb dX5_isCalled_26 rfl ?_
    refine roSi (As := [.long (Int32.toInt64 (F 1 t)), .long (Int32.toInt64 fr), .long (Int32.toInt64 to0)]) (rest := []) (v := (bI (rg (F 1 t) fr to0))) ⟨hx, hb, hml, hown, hts⟩ (c_X5_in l (F 1 t) fr to0 (Int32.toInt64 fr) (Int32.toInt64 to0) rfl rfl) (va_cwS 3 hts gX5_isCalled_X5_in rfl rfl rfl (by decide +kernel) ⟨Nat.le_of_ble_eq_true rfl, Nat.le_of_ble_eq_true rfl⟩) rfl hl.1 rfl (Nat.le_of_ble_eq_true rfl) dX5_isCalled_27 ⟨Nat.zero_le _, Nat.zero_le _⟩ ?_
    refine lv_if_eq (tgt := 37) hx hb dX5_isCalled_30 (by decide) (fun c_24 => ?_) (fun c_24 => ?_)
    · have b_25 : (rg (F 1 t) fr to0) = false := bI_f c_24
      refine lv_iconst (v := 0) hx hb dX5_isCalled_37 (by decide) ?_
      refine lv_istore (lv' := [(6, .int 0), (0, .ref (q 200)), (1, .int (nI t)), (2, .int pt), (3, .int bs), (4, .int fr), (5, .int to0)]) hx hb dX5_isCalled_38 hl (by decide) rfl (fun ls hl => ?_)
      refine lv_iconst (v := 0) hx hb dX5_isCalled_40 (by decide) ?_
      refine lv_istore (lv' := [(7, .int 0), (6, .int 0), (0, .ref (q 200)), (1, .int (nI t)), (2, .int pt), (3, .int bs), (4, .int fr), (5, .int to0)]) hx hb dX5_isCalled_41 hl (by decide) rfl (fun ls hl => ?_)
      have hz0 : bI (sCal F bs fr to0 t pt 0) = 0 := by simp [sCal, sCb, anyB, bI, c_1, b_25]
      refine lpW (fun k ls => lv_has ls 8 [(0, .ref (q 200)), (1, .int (nI t)), (2, .int pt), (3, .int bs), (4, .int fr), (5, .int to0), (6, .int (bI (sCal F bs fr to0 t pt k))), (7, .int (nI k))]) c 0 (Nat.zero_le _) ls (lv_cast (lv_sub (l' := [(0, .ref (q 200)), (1, .int (nI t)), (2, .int pt), (3, .int bs), (4, .int fr), (5, .int to0), (6, .int 0), (7, .int 0)]) hl [2, 3, 4, 5, 6, 7, 1, 0] rfl) (by rw [hz0]; first | done | rfl)) ?_ ?_
      · intro ls hl
        have hl : lv_has ls 8 [(0, .ref (q 200)), (1, .int (nI t)), (2, .int pt), (3, .int bs), (4, .int fr), (5, .int to0), (6, .int (bI (sCal F bs fr to0 t pt c))), (7, .int (nI c))] := hl
        refine lv_iload hx hb dX5_isCalled_43 (lv_at hl 7 rfl) ?_
        refine lv_aload_n hx hb dX5_isCalled_45 rfl (lv_at hl 0 rfl) ?_
        refine va_get (D := D) (ci := 5) (v := .int (nI c)) (C := RX5) (T := TX5) (N := 21) hx hb hts (fun _ h => List.mem_cons_of_mem _ (List.mem_append_right _ h)) hown hK hP 0 rfl rfl 8 (by decide) (hts (.fieldLink RX5 102 "UnderPromiseModel" "claims" "I") (List.mem_of_getElem? (i := 3) rfl)) (fun _ h9 => h9) rfl dX5_isCalled_46 ?_
        refine lv_icmp_ge (tgt := 106) hx hb dX5_isCalled_49 (by decide) (fun c_26 => ?_) (fun c_26 => ?_)
        · have c_27 := i_le c_26
          refine lv_iload hx hb dX5_isCalled_106 (lv_at hl 6 rfl) ?_
          exact W.zret (v := (bI (sCal F bs fr to0 t pt c))) hx hb hr (bI_n (sCal F bs fr to0 t pt c)) (fun t9 ht9 hW9 => ⟨(bI (sCal F bs fr to0 t pt c)), rfl, rfl, ht9⟩) (fun _ h => by cases h) dX5_isCalled_108
        · exact absurd (nI_le (Nat.le_refl _) (by omega)) c_26
      · intro k hk0 hk ih ls hl
        have hl : lv_has ls 8 [(0, .ref (q 200)), (1, .int (nI t)), (2, .int pt), (3, .int bs), (4, .int fr), (5, .int to0), (6, .int (bI (sCal F bs fr to0 t pt k))), (7, .int (nI k))] := hl
        refine lv_iload hx hb dX5_isCalled_43 (lv_at hl 7 rfl) ?_
        refine lv_aload_n hx hb dX5_isCalled_45 rfl (lv_at hl 0 rfl) ?_
        refine va_get (D := D) (ci := 5) (v := .int (nI c)) (C := RX5) (T := TX5) (N := 21) hx hb hts (fun _ h => List.mem_cons_of_mem _ (List.mem_append_right _ h)) hown hK hP 0 rfl rfl 8 (by decide) (hts (.fieldLink RX5 102 "UnderPromiseModel" "claims" "I") (List.mem_of_getElem? (i := 3) rfl)) (fun _ h9 => h9) rfl dX5_isCalled_46 ?_
        refine lv_icmp_ge (tgt := 106) hx hb dX5_isCalled_49 (by decide) (fun c_28 => ?_) (fun c_28 => ?_)
        · exact absurd c_28 (nI_ge hk (by omega))
        · have c_29 := i_nle c_28
          refine lv_iload hx hb dX5_isCalled_52 (lv_at hl 6 rfl) ?_
          refine lv_if_eq (tgt := 97) hx hb dX5_isCalled_54 (by decide) (fun c_30 => ?_) (fun c_30 => ?_)
          · have b_31 : (sCal F bs fr to0 t pt k) = false := bI_f c_30
            refine lv_iconst (v := 0) hx hb dX5_isCalled_97 (by decide) ?_
            refine lv_istore (lv' := [(6, .int 0), (0, .ref (q 200)), (1, .int (nI t)), (2, .int pt), (3, .int bs), (4, .int fr), (5, .int to0), (7, .int (nI k))]) hx hb dX5_isCalled_98 hl (by decide) rfl (fun ls hl => ?_)
            refine lv_iinc (v := ((nI k) + 1)) (lv' := [(7, .int ((nI k) + 1)), (6, .int 0), (0, .ref (q 200)), (1, .int (nI t)), (2, .int pt), (3, .int bs), (4, .int fr), (5, .int to0)]) hx hb dX5_isCalled_100 hl (k := 7) rfl rfl (by decide) rfl (fun ls hl => ?_)
            refine lv_goto (tgt := 43) hx hb dX5_isCalled_103 (by decide) ?_
            have h_32 : 0 = (bI (sCal F bs fr to0 t pt (k + 1))) := (by first | with_reducible rfl | simp [sCal_s, sCc, bI, c_1, b_25, c_28, c_29, b_31])
            have h_33 : ((nI k) + 1) = (nI (k + 1)) := (nI_1 _)
            exact ih _ (lv_cast (lv_sub (l' := [(0, .ref (q 200)), (1, .int (nI t)), (2, .int pt), (3, .int bs), (4, .int fr), (5, .int to0), (6, .int 0), (7, .int ((nI k) + 1))]) hl [2, 3, 4, 5, 6, 7, 1, 0] rfl) (cg2 (fun z32 z33 => [(0, .ref (q 200)), (1, .int (nI t)), (2, .int pt), (3, .int bs), (4, .int fr), (5, .int to0), (6, .int z32), (7, .int z33)]) h_32 h_33))
          · have b_34 : (sCal F bs fr to0 t pt k) = true := bI_t c_30
            refine lv_aload_n hx hb dX5_isCalled_57 rfl (lv_at hl 0 rfl) ?_
            refine va_get (D := D) (ci := 5) (v := .ref (q 212)) (C := RX5) (T := TX5) (N := 21) hx hb hts (fun _ h => List.mem_cons_of_mem _ (List.mem_append_right _ h)) hown hK hP 0 rfl rfl 14 (by decide) (hts (.fieldLink RX5 47 "UnderPromiseModel" "judged" "[I") (List.mem_of_getElem? (i := 4) rfl)) (fun _ h9 => h9) rfl dX5_isCalled_58 ?_
            refine lv_iload hx hb dX5_isCalled_61 (lv_at hl 7 rfl) ?_
            refine iaK (v := (F 11 k)) hx hb hK hP 12 0 rfl rfl k (vp_in_nI (by omega) (by decide)) (nI_clamp (by omega)) rfl dX5_isCalled_63 ?_
            refine lv_if_ne (tgt := 93) hx hb dX5_isCalled_64 (by decide) (fun c_35 => ?_) (fun c_35 => ?_)
            · refine lv_iconst (v := 1) hx hb dX5_isCalled_93 (by decide) ?_
              refine lv_goto (tgt := 98) hx hb dX5_isCalled_94 (by decide) ?_
              refine lv_istore (lv' := [(6, .int 1), (0, .ref (q 200)), (1, .int (nI t)), (2, .int pt), (3, .int bs), (4, .int fr), (5, .int to0), (7, .int (nI k))]) hx hb dX5_isCalled_98 hl (by decide) rfl (fun ls hl => ?_)
              refine lv_iinc (v := ((nI k) + 1)) (lv' := [(7, .int ((nI k) + 1)), (6, .int 1), (0, .ref (q 200)), (1, .int (nI t)), (2, .int pt), (3, .int bs), (4, .int fr), (5, .int to0)]) hx hb dX5_isCalled_100 hl (k := 7) rfl rfl (by decide) rfl (fun ls hl => ?_)
              refine lv_goto (tgt := 43) hx hb dX5_isCalled_103 (by decide) ?_
              have h_36 : 1 = (bI (sCal F bs fr to0 t pt (k + 1))) := (by first | with_reducible rfl | simp [sCal_s, sCc, bI, c_1, b_25, c_28, c_29, b_34, c_35])
              have h_37 : ((nI k) + 1) = (nI (k + 1)) := (nI_1 _)
              exact ih _ (lv_cast (lv_sub (l' := [(0, .ref (q 200)), (1, .int (nI t)), (2, .int pt), (3, .int bs), (4, .int fr), (5, .int to0), (6, .int 1), (7, .int ((nI k) + 1))]) hl [2, 3, 4, 5, 6, 7, 1, 0] rfl) (cg2 (fun z36 z37 => [(0, .ref (q 200)), (1, .int (nI t)), (2, .int pt), (3, .int bs), (4, .int fr), (5, .int to0), (6, .int z36), (7, .int z37)]) h_36 h_37))
            · refine lv_aload_n hx hb dX5_isCalled_67 rfl (lv_at hl 0 rfl) ?_
              refine va_get (D := D) (ci := 5) (v := .ref (q 207)) (C := RX5) (T := TX5) (N := 21) hx hb hts (fun _ h => List.mem_cons_of_mem _ (List.mem_append_right _ h)) hown hK hP 0 rfl rfl 9 (by decide) (hts (.fieldLink RX5 32 "UnderPromiseModel" "ofThing" "[I") (List.mem_of_getElem? (i := 5) rfl)) (fun _ h9 => h9) rfl dX5_isCalled_68 ?_
              refine lv_iload hx hb dX5_isCalled_71 (lv_at hl 7 rfl) ?_
              refine iaK (v := (F 6 k)) hx hb hK hP 7 0 rfl rfl k (vp_in_nI (by omega) (by decide)) (nI_clamp (by omega)) rfl dX5_isCalled_73 ?_
              refine lv_iload_n hx hb dX5_isCalled_74 rfl (lv_at hl 1 rfl) ?_
              refine lv_icmp_ne (tgt := 93) hx hb dX5_isCalled_75 (by decide) (fun c_38 => ?_) (fun c_38 => ?_)
              · refine lv_iconst (v := 1) hx hb dX5_isCalled_93 (by decide) ?_
                refine lv_goto (tgt := 98) hx hb dX5_isCalled_94 (by decide) ?_
                refine lv_istore (lv' := [(6, .int 1), (0, .ref (q 200)), (1, .int (nI t)), (2, .int pt), (3, .int bs), (4, .int fr), (5, .int to0), (7, .int (nI k))]) hx hb dX5_isCalled_98 hl (by decide) rfl (fun ls hl => ?_)
                refine lv_iinc (v := ((nI k) + 1)) (lv' := [(7, .int ((nI k) + 1)), (6, .int 1), (0, .ref (q 200)), (1, .int (nI t)), (2, .int pt), (3, .int bs), (4, .int fr), (5, .int to0)]) hx hb dX5_isCalled_100 hl (k := 7) rfl rfl (by decide) rfl (fun ls hl => ?_)
                refine lv_goto (tgt := 43) hx hb dX5_isCalled_103 (by decide) ?_
                have h_39 : 1 = (bI (sCal F bs fr to0 t pt (k + 1))) := (by first | with_reducible rfl | simp [sCal_s, sCc, bI, c_1, b_25, c_28, c_29, b_34, c_35, c_38])
                have h_40 : ((nI k) + 1) = (nI (k + 1)) := (nI_1 _)
                exact ih _ (lv_cast (lv_sub (l' := [(0, .ref (q 200)), (1, .int (nI t)), (2, .int pt), (3, .int bs), (4, .int fr), (5, .int to0), (6, .int 1), (7, .int ((nI k) + 1))]) hl [2, 3, 4, 5, 6, 7, 1, 0] rfl) (cg2 (fun z39 z40 => [(0, .ref (q 200)), (1, .int (nI t)), (2, .int pt), (3, .int bs), (4, .int fr), (5, .int to0), (6, .int z39), (7, .int z40)]) h_39 h_40))
              · refine lv_aload_n hx hb dX5_isCalled_78 rfl (lv_at hl 0 rfl) ?_
                refine lv_aload_n hx hb dX5_isCalled_79 rfl (lv_at hl 0 rfl) ?_
                refine va_get (D := D) (ci := 5) (v := .ref (q 208)) (C := RX5) (T := TX5) (N := 21) hx hb hts (fun _ h => List.mem_cons_of_mem _ (List.mem_append_right _ h)) hown hK hP 0 rfl rfl 10 (by decide) (hts (.fieldLink RX5 35 "UnderPromiseModel" "ofPart" "[I") (List.mem_of_getElem? (i := 6) rfl)) (fun _ h9 => h9) rfl dX5_isCalled_80 ?_
                refine lv_iload hx hb dX5_isCalled_83 (lv_at hl 7 rfl) ?_
                refine iaK (v := (F 7 k)) hx hb hK hP 8 0 rfl rfl k (vp_in_nI (by omega) (by decide)) (nI_clamp (by omega)) rfl dX5_isCalled_85 ?_
                refine lv_iload_n hx hb dX5_isCalled_86 rfl (lv_at hl 2 rfl) ?_
                refine roVi (As := [.int (F 7 k), .int pt]) (rest := []) (v := (bI (stn F pt 10 (F 7 k)))) ⟨hx, hb, hml, hown, hts⟩ (c_X5_isUnder l D cs q F n c g up lo (F 7 k) pt hI (hI.C hk).2.1 hp9) (cwV 2 hts gX5_isCalled_X5_isUnder rfl rfl rfl (by decide +kernel) ⟨Nat.le_of_ble_eq_true rfl, Nat.le_of_ble_eq_true rfl⟩) hP hK hN 0 rfl rfl rfl hl.1 rfl (Nat.le_of_ble_eq_true rfl) dX5_isCalled_87 ⟨Nat.zero_le _, Nat.zero_le _⟩ ?_
                refine lv_if_ne (tgt := 97) hx hb dX5_isCalled_90 (by decide) (fun c_41 => ?_) (fun c_41 => ?_)
                · have b_42 : (stn F pt 10 (F 7 k)) = true := bI_t c_41
                  refine lv_iconst (v := 0) hx hb dX5_isCalled_97 (by decide) ?_
                  refine lv_istore (lv' := [(6, .int 0), (0, .ref (q 200)), (1, .int (nI t)), (2, .int pt), (3, .int bs), (4, .int fr), (5, .int to0), (7, .int (nI k))]) hx hb dX5_isCalled_98 hl (by decide) rfl (fun ls hl => ?_)
                  refine lv_iinc (v := ((nI k) + 1)) (lv' := [(7, .int ((nI k) + 1)), (6, .int 0), (0, .ref (q 200)), (1, .int (nI t)), (2, .int pt), (3, .int bs), (4, .int fr), (5, .int to0)]) hx hb dX5_isCalled_100 hl (k := 7) rfl rfl (by decide) rfl (fun ls hl => ?_)
                  refine lv_goto (tgt := 43) hx hb dX5_isCalled_103 (by decide) ?_
                  have h_43 : 0 = (bI (sCal F bs fr to0 t pt (k + 1))) := (by first | with_reducible rfl | simp [sCal_s, sCc, bI, c_1, b_25, c_28, c_29, b_34, c_35, c_38, b_42])
                  have h_44 : ((nI k) + 1) = (nI (k + 1)) := (nI_1 _)
                  exact ih _ (lv_cast (lv_sub (l' := [(0, .ref (q 200)), (1, .int (nI t)), (2, .int pt), (3, .int bs), (4, .int fr), (5, .int to0), (6, .int 0), (7, .int ((nI k) + 1))]) hl [2, 3, 4, 5, 6, 7, 1, 0] rfl) (cg2 (fun z43 z44 => [(0, .ref (q 200)), (1, .int (nI t)), (2, .int pt), (3, .int bs), (4, .int fr), (5, .int to0), (6, .int z43), (7, .int z44)]) h_43 h_44))
                · have b_45 : (stn F pt 10 (F 7 k)) = false := bI_f c_41
                  refine lv_iconst (v := 1) hx hb dX5_isCalled_93 (by decide) ?_
                  refine lv_goto (tgt := 98) hx hb dX5_isCalled_94 (by decide) ?_
                  refine lv_istore (lv' := [(6, .int 1), (0, .ref (q 200)), (1, .int (nI t)), (2, .int pt), (3, .int bs), (4, .int fr), (5, .int to0), (7, .int (nI k))]) hx hb dX5_isCalled_98 hl (by decide) rfl (fun ls hl => ?_)
                  refine lv_iinc (v := ((nI k) + 1)) (lv' := [(7, .int ((nI k) + 1)), (6, .int 1), (0, .ref (q 200)), (1, .int (nI t)), (2, .int pt), (3, .int bs), (4, .int fr), (5, .int to0)]) hx hb dX5_isCalled_100 hl (k := 7) rfl rfl (by decide) rfl (fun ls hl => ?_)
                  refine lv_goto (tgt := 43) hx hb dX5_isCalled_103 (by decide) ?_
                  have h_46 : 1 = (bI (sCal F bs fr to0 t pt (k + 1))) := (by first | with_reducible rfl | simp [sCal_s, sCc, bI, c_1, b_25, c_28, c_29, b_34, c_35, c_38, b_45])
                  have h_47 : ((nI k) + 1) = (nI (k + 1)) := (nI_1 _)
                  exact ih _ (lv_cast (lv_sub (l' := [(0, .ref (q 200)), (1, .int (nI t)), (2, .int pt), (3, .int bs), (4, .int fr), (5, .int to0), (6, .int 1), (7, .int ((nI k) + 1))]) hl [2, 3, 4, 5, 6, 7, 1, 0] rfl) (cg2 (fun z46 z47 => [(0, .ref (q 200)), (1, .int (nI t)), (2, .int pt), (3, .int bs), (4, .int fr), (5, .int to0), (6, .int z46), (7, .int z47)]) h_46 h_47))
    · have b_48 : (rg (F 1 t) fr to0) = true := bI_t c_24
      refine lv_iconst (v := 1) hx hb dX5_isCalled_33 (by decide) ?_
      refine lv_goto (tgt := 38) hx hb dX5_isCalled_34 (by decide) ?_
      refine lv_istore (lv' := [(6, .int 1), (0, .ref (q 200)), (1, .int (nI t)), (2, .int pt), (3, .int bs), (4, .int fr), (5, .int to0)]) hx hb dX5_isCalled_38 hl (by decide) rfl (fun ls hl => ?_)
      refine lv_iconst (v := 0) hx hb dX5_isCalled_40 (by decide) ?_
      refine lv_istore (lv' := [(7, .int 0), (6, .int 1), (0, .ref (q 200)), (1, .int (nI t)), (2, .int pt), (3, .int bs), (4, .int fr), (5, .int to0)]) hx hb dX5_isCalled_41 hl (by decide) rfl (fun ls hl => ?_)
      have hz0 : bI (sCal F bs fr to0 t pt 0) = 1 := by simp [sCal, sCb, anyB, bI, c_1, b_48]
      refine lpW (fun k ls => lv_has ls 8 [(0, .ref (q 200)), (1, .int (nI t)), (2, .int pt), (3, .int bs), (4, .int fr), (5, .int to0), (6, .int (bI (sCal F bs fr to0 t pt k))), (7, .int (nI k))]) c 0 (Nat.zero_le _) ls (lv_cast (lv_sub (l' := [(0, .ref (q 200)), (1, .int (nI t)), (2, .int pt), (3, .int bs), (4, .int fr), (5, .int to0), (6, .int 1), (7, .int 0)]) hl [2, 3, 4, 5, 6, 7, 1, 0] rfl) (by rw [hz0]; first | done | rfl)) ?_ ?_
      · intro ls hl
        have hl : lv_has ls 8 [(0, .ref (q 200)), (1, .int (nI t)), (2, .int pt), (3, .int bs), (4, .int fr), (5, .int to0), (6, .int (bI (sCal F bs fr to0 t pt c))), (7, .int (nI c))] := hl
        refine lv_iload hx hb dX5_isCalled_43 (lv_at hl 7 rfl) ?_
        refine lv_aload_n hx hb dX5_isCalled_45 rfl (lv_at hl 0 rfl) ?_
        refine va_get (D := D) (ci := 5) (v := .int (nI c)) (C := RX5) (T := TX5) (N := 21) hx hb hts (fun _ h => List.mem_cons_of_mem _ (List.mem_append_right _ h)) hown hK hP 0 rfl rfl 8 (by decide) (hts (.fieldLink RX5 102 "UnderPromiseModel" "claims" "I") (List.mem_of_getElem? (i := 3) rfl)) (fun _ h9 => h9) rfl dX5_isCalled_46 ?_
        refine lv_icmp_ge (tgt := 106) hx hb dX5_isCalled_49 (by decide) (fun c_49 => ?_) (fun c_49 => ?_)
        · have c_50 := i_le c_49
          refine lv_iload hx hb dX5_isCalled_106 (lv_at hl 6 rfl) ?_
          exact W.zret (v := (bI (sCal F bs fr to0 t pt c))) hx hb hr (bI_n (sCal F bs fr to0 t pt c)) (fun t9 ht9 hW9 => ⟨(bI (sCal F bs fr to0 t pt c)), rfl, rfl, ht9⟩) (fun _ h => by cases h) dX5_isCalled_108
        · exact absurd (nI_le (Nat.le_refl _) (by omega)) c_49
      · intro k hk0 hk ih ls hl
        have hl : lv_has ls 8 [(0, .ref (q 200)), (1, .int (nI t)), (2, .int pt), (3, .int bs), (4, .int fr), (5, .int to0), (6, .int (bI (sCal F bs fr to0 t pt k))), (7, .int (nI k))] := hl
        refine lv_iload hx hb dX5_isCalled_43 (lv_at hl 7 rfl) ?_
        refine lv_aload_n hx hb dX5_isCalled_45 rfl (lv_at hl 0 rfl) ?_
        refine va_get (D := D) (ci := 5) (v := .int (nI c)) (C := RX5) (T := TX5) (N := 21) hx hb hts (fun _ h => List.mem_cons_of_mem _ (List.mem_append_right _ h)) hown hK hP 0 rfl rfl 8 (by decide) (hts (.fieldLink RX5 102 "UnderPromiseModel" "claims" "I") (List.mem_of_getElem? (i := 3) rfl)) (fun _ h9 => h9) rfl dX5_isCalled_46 ?_
        refine lv_icmp_ge (tgt := 106) hx hb dX5_isCalled_49 (by decide) (fun c_51 => ?_) (fun c_51 => ?_)
        · exact absurd c_51 (nI_ge hk (by omega))
        · have c_52 := i_nle c_51
          refine lv_iload hx hb dX5_isCalled_52 (lv_at hl 6 rfl) ?_
          refine lv_if_eq (tgt := 97) hx hb dX5_isCalled_54 (by decide) (fun c_53 => ?_) (fun c_53 => ?_)
          · have b_54 : (sCal F bs fr to0 t pt k) = false := bI_f c_53
            refine lv_iconst (v := 0) hx hb dX5_isCalled_97 (by decide) ?_
            refine lv_istore (lv' := [(6, .int 0), (0, .ref (q 200)), (1, .int (nI t)), (2, .int pt), (3, .int bs), (4, .int fr), (5, .int to0), (7, .int (nI k))]) hx hb dX5_isCalled_98 hl (by decide) rfl (fun ls hl => ?_)
            refine lv_iinc (v := ((nI k) + 1)) (lv' := [(7, .int ((nI k) + 1)), (6, .int 0), (0, .ref (q 200)), (1, .int (nI t)), (2, .int pt), (3, .int bs), (4, .int fr), (5, .int to0)]) hx hb dX5_isCalled_100 hl (k := 7) rfl rfl (by decide) rfl (fun ls hl => ?_)
            refine lv_goto (tgt := 43) hx hb dX5_isCalled_103 (by decide) ?_
            have h_55 : 0 = (bI (sCal F bs fr to0 t pt (k + 1))) := (by first | with_reducible rfl | simp [sCal_s, sCc, bI, c_1, b_48, c_51, c_52, b_54])
            have h_56 : ((nI k) + 1) = (nI (k + 1)) := (nI_1 _)
            exact ih _ (lv_cast (lv_sub (l' := [(0, .ref (q 200)), (1, .int (nI t)), (2, .int pt), (3, .int bs), (4, .int fr), (5, .int to0), (6, .int 0), (7, .int ((nI k) + 1))]) hl [2, 3, 4, 5, 6, 7, 1, 0] rfl) (cg2 (fun z55 z56 => [(0, .ref (q 200)), (1, .int (nI t)), (2, .int pt), (3, .int bs), (4, .int fr), (5, .int to0), (6, .int z55), (7, .int z56)]) h_55 h_56))
          · have b_57 : (sCal F bs fr to0 t pt k) = true := bI_t c_53
            refine lv_aload_n hx hb dX5_isCalled_57 rfl (lv_at hl 0 rfl) ?_
            refine va_get (D := D) (ci := 5) (v := .ref (q 212)) (C := RX5) (T := TX5) (N := 21) hx hb hts (fun _ h => List.mem_cons_of_mem _ (List.mem_append_right _ h)) hown hK hP 0 rfl rfl 14 (by decide) (hts (.fieldLink RX5 47 "UnderPromiseModel" "judged" "[I") (List.mem_of_getElem? (i := 4) rfl)) (fun _ h9 => h9) rfl dX5_isCalled_58 ?_
            refine lv_iload hx hb dX5_isCalled_61 (lv_at hl 7 rfl) ?_
            refine iaK (v := (F 11 k)) hx hb hK hP 12 0 rfl rfl k (vp_in_nI (by omega) (by decide)) (nI_clamp (by omega)) rfl dX5_isCalled_63 ?_
            refine lv_if_ne (tgt := 93) hx hb dX5_isCalled_64 (by decide) (fun c_58 => ?_) (fun c_58 => ?_)
            · refine lv_iconst (v := 1) hx hb dX5_isCalled_93 (by decide) ?_
              refine lv_goto (tgt := 98) hx hb dX5_isCalled_94 (by decide) ?_
              refine lv_istore (lv' := [(6, .int 1), (0, .ref (q 200)), (1, .int (nI t)), (2, .int pt), (3, .int bs), (4, .int fr), (5, .int to0), (7, .int (nI k))]) hx hb dX5_isCalled_98 hl (by decide) rfl (fun ls hl => ?_)
              refine lv_iinc (v := ((nI k) + 1)) (lv' := [(7, .int ((nI k) + 1)), (6, .int 1), (0, .ref (q 200)), (1, .int (nI t)), (2, .int pt), (3, .int bs), (4, .int fr), (5, .int to0)]) hx hb dX5_isCalled_100 hl (k := 7) rfl rfl (by decide) rfl (fun ls hl => ?_)
              refine lv_goto (tgt := 43) hx hb dX5_isCalled_103 (by decide) ?_
              have h_59 : 1 = (bI (sCal F bs fr to0 t pt (k + 1))) := (by first | with_reducible rfl | simp [sCal_s, sCc, bI, c_1, b_48, c_51, c_52, b_57, c_58])
              have h_60 : ((nI k) + 1) = (nI (k + 1)) := (nI_1 _)
              exact ih _ (lv_cast (lv_sub (l' := [(0, .ref (q 200)), (1, .int (nI t)), (2, .int pt), (3, .int bs), (4, .int fr), (5, .int to0), (6, .int 1), (7, .int ((nI k) + 1))]) hl [2, 3, 4, 5, 6, 7, 1, 0] rfl) (cg2 (fun z59 z60 => [(0, .ref (q 200)), (1, .int (nI t)), (2, .int pt), (3, .int bs), (4, .int fr), (5, .int to0), (6, .int z59), (7, .int z60)]) h_59 h_60))
            · refine lv_aload_n hx hb dX5_isCalled_67 rfl (lv_at hl 0 rfl) ?_
              refine va_get (D := D) (ci := 5) (v := .ref (q 207)) (C := RX5) (T := TX5) (N := 21) hx hb hts (fun _ h => List.mem_cons_of_mem _ (List.mem_append_right _ h)) hown hK hP 0 rfl rfl 9 (by decide) (hts (.fieldLink RX5 32 "UnderPromiseModel" "ofThing" "[I") (List.mem_of_getElem? (i := 5) rfl)) (fun _ h9 => h9) rfl dX5_isCalled_68 ?_
              refine lv_iload hx hb dX5_isCalled_71 (lv_at hl 7 rfl) ?_
              refine iaK (v := (F 6 k)) hx hb hK hP 7 0 rfl rfl k (vp_in_nI (by omega) (by decide)) (nI_clamp (by omega)) rfl dX5_isCalled_73 ?_
              refine lv_iload_n hx hb dX5_isCalled_74 rfl (lv_at hl 1 rfl) ?_
              refine lv_icmp_ne (tgt := 93) hx hb dX5_isCalled_75 (by decide) (fun c_61 => ?_) (fun c_61 => ?_)
              · refine lv_iconst (v := 1) hx hb dX5_isCalled_93 (by decide) ?_
                refine lv_goto (tgt := 98) hx hb dX5_isCalled_94 (by decide) ?_
                refine lv_istore (lv' := [(6, .int 1), (0, .ref (q 200)), (1, .int (nI t)), (2, .int pt), (3, .int bs), (4, .int fr), (5, .int to0), (7, .int (nI k))]) hx hb dX5_isCalled_98 hl (by decide) rfl (fun ls hl => ?_)
                refine lv_iinc (v := ((nI k) + 1)) (lv' := [(7, .int ((nI k) + 1)), (6, .int 1), (0, .ref (q 200)), (1, .int (nI t)), (2, .int pt), (3, .int bs), (4, .int fr), (5, .int to0)]) hx hb dX5_isCalled_100 hl (k := 7) rfl rfl (by decide) rfl (fun ls hl => ?_)
                refine lv_goto (tgt := 43) hx hb dX5_isCalled_103 (by decide) ?_
                have h_62 : 1 = (bI (sCal F bs fr to0 t pt (k + 1))) := (by first | with_reducible rfl | simp [sCal_s, sCc, bI, c_1, b_48, c_51, c_52, b_57, c_58, c_61])
                have h_63 : ((nI k) + 1) = (nI (k + 1)) := (nI_1 _)
                exact ih _ (lv_cast (lv_sub (l' := [(0, .ref (q 200)), (1, .int (nI t)), (2, .int pt), (3, .int bs), (4, .int fr), (5, .int to0), (6, .int 1), (7, .int ((nI k) + 1))]) hl [2, 3, 4, 5, 6, 7, 1, 0] rfl) (cg2 (fun z62 z63 => [(0, .ref (q 200)), (1, .int (nI t)), (2, .int pt), (3, .int bs), (4, .int fr), (5, .int to0), (6, .int z62), (7, .int z63)]) h_62 h_63))
              · refine lv_aload_n hx hb dX5_isCalled_78 rfl (lv_at hl 0 rfl) ?_
                refine lv_aload_n hx hb dX5_isCalled_79 rfl (lv_at hl 0 rfl) ?_
                refine va_get (D := D) (ci := 5) (v := .ref (q 208)) (C := RX5) (T := TX5) (N := 21) hx hb hts (fun _ h => List.mem_cons_of_mem _ (List.mem_append_right _ h)) hown hK hP 0 rfl rfl 10 (by decide) (hts (.fieldLink RX5 35 "UnderPromiseModel" "ofPart" "[I") (List.mem_of_getElem? (i := 6) rfl)) (fun _ h9 => h9) rfl dX5_isCalled_80 ?_
                refine lv_iload hx hb dX5_isCalled_83 (lv_at hl 7 rfl) ?_
                refine iaK (v := (F 7 k)) hx hb hK hP 8 0 rfl rfl k (vp_in_nI (by omega) (by decide)) (nI_clamp (by omega)) rfl dX5_isCalled_85 ?_
                refine lv_iload_n hx hb dX5_isCalled_86 rfl (lv_at hl 2 rfl) ?_
                refine roVi (As := [.int (F 7 k), .int pt]) (rest := []) (v := (bI (stn F pt 10 (F 7 k)))) ⟨hx, hb, hml, hown, hts⟩ (c_X5_isUnder l D cs q F n c g up lo (F 7 k) pt hI (hI.C hk).2.1 hp9) (cwV 2 hts gX5_isCalled_X5_isUnder rfl rfl rfl (by decide +kernel) ⟨Nat.le_of_ble_eq_true rfl, Nat.le_of_ble_eq_true rfl⟩) hP hK hN 0 rfl rfl rfl hl.1 rfl (Nat.le_of_ble_eq_true rfl) dX5_isCalled_87 ⟨Nat.zero_le _, Nat.zero_le _⟩ ?_
                refine lv_if_ne (tgt := 97) hx hb dX5_isCalled_90 (by decide) (fun c_64 => ?_) (fun c_64 => ?_)
                · have b_65 : (stn F pt 10 (F 7 k)) = true := bI_t c_64
                  refine lv_iconst (v := 0) hx hb dX5_isCalled_97 (by decide) ?_
                  refine lv_istore (lv' := [(6, .int 0), (0, .ref (q 200)), (1, .int (nI t)), (2, .int pt), (3, .int bs), (4, .int fr), (5, .int to0), (7, .int (nI k))]) hx hb dX5_isCalled_98 hl (by decide) rfl (fun ls hl => ?_)
                  refine lv_iinc (v := ((nI k) + 1)) (lv' := [(7, .int ((nI k) + 1)), (6, .int 0), (0, .ref (q 200)), (1, .int (nI t)), (2, .int pt), (3, .int bs), (4, .int fr), (5, .int to0)]) hx hb dX5_isCalled_100 hl (k := 7) rfl rfl (by decide) rfl (fun ls hl => ?_)
                  refine lv_goto (tgt := 43) hx hb dX5_isCalled_103 (by decide) ?_
                  have h_66 : 0 = (bI (sCal F bs fr to0 t pt (k + 1))) := (by first | with_reducible rfl | simp [sCal_s, sCc, bI, c_1, b_48, c_51, c_52, b_57, c_58, c_61, b_65])
                  have h_67 : ((nI k) + 1) = (nI (k + 1)) := (nI_1 _)
                  exact ih _ (lv_cast (lv_sub (l' := [(0, .ref (q 200)), (1, .int (nI t)), (2, .int pt), (3, .int bs), (4, .int fr), (5, .int to0), (6, .int 0), (7, .int ((nI k) + 1))]) hl [2, 3, 4, 5, 6, 7, 1, 0] rfl) (cg2 (fun z66 z67 => [(0, .ref (q 200)), (1, .int (nI t)), (2, .int pt), (3, .int bs), (4, .int fr), (5, .int to0), (6, .int z66), (7, .int z67)]) h_66 h_67))
                · have b_68 : (stn F pt 10 (F 7 k)) = false := bI_f c_64
                  refine lv_iconst (v := 1) hx hb dX5_isCalled_93 (by decide) ?_
                  refine lv_goto (tgt := 98) hx hb dX5_isCalled_94 (by decide) ?_
                  refine lv_istore (lv' := [(6, .int 1), (0, .ref (q 200)), (1, .int (nI t)), (2, .int pt), (3, .int bs), (4, .int fr), (5, .int to0), (7, .int (nI k))]) hx hb dX5_isCalled_98 hl (by decide) rfl (fun ls hl => ?_)
                  refine lv_iinc (v := ((nI k) + 1)) (lv' := [(7, .int ((nI k) + 1)), (6, .int 1), (0, .ref (q 200)), (1, .int (nI t)), (2, .int pt), (3, .int bs), (4, .int fr), (5, .int to0)]) hx hb dX5_isCalled_100 hl (k := 7) rfl rfl (by decide) rfl (fun ls hl => ?_)
                  refine lv_goto (tgt := 43) hx hb dX5_isCalled_103 (by decide) ?_
                  have h_69 : 1 = (bI (sCal F bs fr to0 t pt (k + 1))) := (by first | with_reducible rfl | simp [sCal_s, sCc, bI, c_1, b_48, c_51, c_52, b_57, c_58, c_61, b_68])
                  have h_70 : ((nI k) + 1) = (nI (k + 1)) := (nI_1 _)
                  exact ih _ (lv_cast (lv_sub (l' := [(0, .ref (q 200)), (1, .int (nI t)), (2, .int pt), (3, .int bs), (4, .int fr), (5, .int to0), (6, .int 1), (7, .int ((nI k) + 1))]) hl [2, 3, 4, 5, 6, 7, 1, 0] rfl) (cg2 (fun z69 z70 => [(0, .ref (q 200)), (1, .int (nI t)), (2, .int pt), (3, .int bs), (4, .int fr), (5, .int to0), (6, .int z69), (7, .int z70)]) h_69 h_70))
set_option maxHeartbeats 4000000 in
set_option maxRecDepth 100000 in
/-- X5_isCall -/
theorem c_X5_isCall (l : Launch)  (pt : Int32) (bs : Int32) (fr : Int32) (to0 : Int32)  : Met l yX5_isCall wsX5_isCall ({ frames := 1, cells := 0, slots := 0, locals := 25 }) (va_Pc [.int pt, .int bs, .int fr, .int to0] (fun _ => True)) (vp_Si (fun r => r = (bI (canC pt bs fr to0)))) 0 0 (fun _ => False) := by
  refine Met.ofW (cc := cX5_isCall) (maxL := 4) (ret := (some .boolean)) (by decide) rfl ?_
  intro p e s m args below meth c_ s₁ B hml hv
  obtain ⟨rfl, -⟩ := hv
  have hx := B.exec
  have hb := B.bytes
  have hr := B.returns
  have hts := atoms_spec (ws := wsX5_isCall) B.pre
  have hown : s.vm.findClass RX5 = some m.cls := findClass_of_methodNamed B.named
  have hlocks := B.notSynchronized
  have hl := lv_entry ([.int pt, .int bs, .int fr, .int to0]) (n := 4) (Nat.le_of_ble_eq_true rfl)
  rw [lg_entry_eq]
  generalize (lg_sl ([.int pt, .int bs, .int fr, .int to0]) ++ List.replicate (4 - (lg_sl ([.int pt, .int bs, .int fr, .int to0])).length) Slot.unset).toArray = ls at hl ⊢
  have hl : lv_has ls 4 [(0, .int pt), (1, .int bs), (2, .int fr), (3, .int to0)] := hl
  refine lv_iload_n hx hb dX5_isCall_0 rfl (lv_at hl 0 rfl) ?_
  refine lv_i2l (v := (Int32.toInt64 pt)) hx hb dX5_isCall_1 rfl ?_
  refine lv_lconst (v := 0) hx hb dX5_isCall_2 (by decide) ?_
  refine lv_ldc2 (v := 9) hx hb hown (hts (.constantLong RX5 109 (9)) (List.mem_of_getElem? (i := 1) rfl)) dX5_isCall_3 ?_
  refine roSi (As := [.long (Int32.toInt64 pt), .long 0, .long 9]) (rest := []) (v := (bI (rg pt 0 9))) ⟨hx, hb, hml, hown, hts⟩ (c_X5_in l pt 0 9 0 9 (by decide) (by decide)) (va_cwS 3 hts gX5_isCall_X5_in rfl rfl rfl (by decide +kernel) ⟨Nat.le_of_ble_eq_true rfl, Nat.le_of_ble_eq_true rfl⟩) rfl hl.1 rfl (Nat.le_of_ble_eq_true rfl) dX5_isCall_6 ⟨Nat.zero_le _, Nat.zero_le _⟩ ?_
  refine lv_if_eq (tgt := 53) hx hb dX5_isCall_9 (by decide) (fun c_1 => ?_) (fun c_1 => ?_)
  · have b_2 : (rg pt 0 9) = false := bI_f c_1
    refine lv_iconst (v := 0) hx hb dX5_isCall_53 (by decide) ?_
    exact W.zret (v := 0) hx hb hr rfl (fun t9 ht9 hW9 => ⟨0, rfl, (by first | with_reducible rfl | simp [canC, bI, b_2]), ht9⟩) (fun _ h => by cases h) dX5_isCall_54
  · have b_3 : (rg pt 0 9) = true := bI_t c_1
    refine lv_iload_n hx hb dX5_isCall_12 rfl (lv_at hl 1 rfl) ?_
    refine lv_i2l (v := (Int32.toInt64 bs)) hx hb dX5_isCall_13 rfl ?_
    refine lv_lconst (v := 1) hx hb dX5_isCall_14 (by decide) ?_
    refine lv_ldc2 (v := 255) hx hb hown (hts (.constantLong RX5 183 (255)) (List.mem_of_getElem? (i := 2) rfl)) dX5_isCall_15 ?_
    refine roSi (As := [.long (Int32.toInt64 bs), .long 1, .long 255]) (rest := []) (v := (bI (rg bs 1 255))) ⟨hx, hb, hml, hown, hts⟩ (c_X5_in l bs 1 255 1 255 (by decide) (by decide)) (va_cwS 3 hts gX5_isCall_X5_in rfl rfl rfl (by decide +kernel) ⟨Nat.le_of_ble_eq_true rfl, Nat.le_of_ble_eq_true rfl⟩) rfl hl.1 rfl (Nat.le_of_ble_eq_true rfl) dX5_isCall_18 ⟨Nat.zero_le _, Nat.zero_le _⟩ ?_
    refine lv_if_eq (tgt := 53) hx hb dX5_isCall_21 (by decide) (fun c_4 => ?_) (fun c_4 => ?_)
    · have b_5 : (rg bs 1 255) = false := bI_f c_4
      refine lv_iconst (v := 0) hx hb dX5_isCall_53 (by decide) ?_
      exact W.zret (v := 0) hx hb hr rfl (fun t9 ht9 hW9 => ⟨0, rfl, (by first | with_reducible rfl | simp [canC, bI, b_3, b_5]), ht9⟩) (fun _ h => by cases h) dX5_isCall_54
    · have b_6 : (rg bs 1 255) = true := bI_t c_4
      refine lv_iload_n hx hb dX5_isCall_24 rfl (lv_at hl 2 rfl) ?_
      refine lv_i2l (v := (Int32.toInt64 fr)) hx hb dX5_isCall_25 rfl ?_
      refine lv_lconst (v := 0) hx hb dX5_isCall_26 (by decide) ?_
      refine lv_ldc2 (v := 119) hx hb hown (hts (.constantLong RX5 75 (119)) (List.mem_of_getElem? (i := 3) rfl)) dX5_isCall_27 ?_
      refine roSi (As := [.long (Int32.toInt64 fr), .long 0, .long 119]) (rest := []) (v := (bI (rg fr 0 119))) ⟨hx, hb, hml, hown, hts⟩ (c_X5_in l fr 0 119 0 119 (by decide) (by decide)) (va_cwS 3 hts gX5_isCall_X5_in rfl rfl rfl (by decide +kernel) ⟨Nat.le_of_ble_eq_true rfl, Nat.le_of_ble_eq_true rfl⟩) rfl hl.1 rfl (Nat.le_of_ble_eq_true rfl) dX5_isCall_30 ⟨Nat.zero_le _, Nat.zero_le _⟩ ?_
      refine lv_if_eq (tgt := 53) hx hb dX5_isCall_33 (by decide) (fun c_7 => ?_) (fun c_7 => ?_)
      · have b_8 : (rg fr 0 119) = false := bI_f c_7
        refine lv_iconst (v := 0) hx hb dX5_isCall_53 (by decide) ?_
        exact W.zret (v := 0) hx hb hr rfl (fun t9 ht9 hW9 => ⟨0, rfl, (by first | with_reducible rfl | simp [canC, bI, b_3, b_6, b_8]), ht9⟩) (fun _ h => by cases h) dX5_isCall_54
      · have b_9 : (rg fr 0 119) = true := bI_t c_7
        refine lv_iload_n hx hb dX5_isCall_36 rfl (lv_at hl 3 rfl) ?_
        refine lv_i2l (v := (Int32.toInt64 to0)) hx hb dX5_isCall_37 rfl ?_
        refine lv_iload_n hx hb dX5_isCall_38 rfl (lv_at hl 2 rfl) ?_
        refine lv_i2l (v := (Int32.toInt64 fr)) hx hb dX5_isCall_39 rfl ?_
        refine lv_ldc2 (v := 119) hx hb hown (hts (.constantLong RX5 75 (119)) (List.mem_of_getElem? (i := 3) rfl)) dX5_isCall_40 ?_
        refine roSi (As := [.long (Int32.toInt64 to0), .long (Int32.toInt64 fr), .long 119]) (rest := []) (v := (bI (rg to0 fr 119))) ⟨hx, hb, hml, hown, hts⟩ (c_X5_in l to0 fr 119 (Int32.toInt64 fr) 119 rfl (by decide)) (va_cwS 3 hts gX5_isCall_X5_in rfl rfl rfl (by decide +kernel) ⟨Nat.le_of_ble_eq_true rfl, Nat.le_of_ble_eq_true rfl⟩) rfl hl.1 rfl (Nat.le_of_ble_eq_true rfl) dX5_isCall_43 ⟨Nat.zero_le _, Nat.zero_le _⟩ ?_
        refine lv_if_eq (tgt := 53) hx hb dX5_isCall_46 (by decide) (fun c_10 => ?_) (fun c_10 => ?_)
        · have b_11 : (rg to0 fr 119) = false := bI_f c_10
          refine lv_iconst (v := 0) hx hb dX5_isCall_53 (by decide) ?_
          exact W.zret (v := 0) hx hb hr rfl (fun t9 ht9 hW9 => ⟨0, rfl, (by first | with_reducible rfl | simp [canC, bI, b_3, b_6, b_9, b_11]), ht9⟩) (fun _ h => by cases h) dX5_isCall_54
        · have b_12 : (rg to0 fr 119) = true := bI_t c_10
          refine lv_iconst (v := 1) hx hb dX5_isCall_49 (by decide) ?_
          refine lv_goto (tgt := 54) hx hb dX5_isCall_50 (by decide) ?_
          exact W.zret (v := 1) hx hb hr rfl (fun t9 ht9 hW9 => ⟨1, rfl, (by first | with_reducible rfl | simp [canC, bI, b_3, b_6, b_9, b_12]), ht9⟩) (fun _ h => by cases h) dX5_isCall_54
set_option maxHeartbeats 4000000 in
set_option maxRecDepth 100000 in
/-- X5_called -/
theorem c_X5_called (l : Launch) (D : va_G) (cs : Nat → ClassId) (q : Nat → Nat) (F : Nat → Nat → Int32) (n c : Nat) (g : Int32) (up lo : Int64) (pt : Int32) (bs : Int32) (fr : Int32) (to0 : Int32) (hI : Inv F n c) : Met l yX5_called wsX5_called ({ frames := 2, cells := 0, slots := 0, locals := 52 }) (va_Pc [.ref (q 200), .int pt, .int bs, .int fr, .int to0] (pw D cs (mW q cs F n c g up lo))) (vp_Si (fun r => r = (if canC pt bs fr to0 = true then ctI (sCl F c pt bs fr to0) n else -2))) 0 0 (fun _ => False) := by
  refine Met.ofW (cc := cX5_called) (maxL := 7) (ret := (some .int)) (by decide) rfl ?_
  intro p e s m args below meth c_ s₁ B hml hv
  obtain ⟨rfl, hP, hK, hN⟩ := hv
  have hx := B.exec
  have hb := B.bytes
  have hr := B.returns
  have hts := atoms_spec (ws := wsX5_called) B.pre
  have hown : s.vm.findClass RX5 = some m.cls := findClass_of_methodNamed B.named
  have hlocks := B.notSynchronized
  have hl := lv_entry ([.ref (q 200), .int pt, .int bs, .int fr, .int to0]) (n := 7) (Nat.le_of_ble_eq_true rfl)
  rw [lg_entry_eq]
  generalize (lg_sl ([.ref (q 200), .int pt, .int bs, .int fr, .int to0]) ++ List.replicate (7 - (lg_sl ([.ref (q 200), .int pt, .int bs, .int fr, .int to0])).length) Slot.unset).toArray = ls at hl ⊢
  have hl : lv_has ls 7 [(0, .ref (q 200)), (1, .int pt), (2, .int bs), (3, .int fr), (4, .int to0)] := hl
  have hn60 := hI.n60
  have hc100 := hI.c100
  refine lv_iload_n hx hb dX5_called_0 rfl (lv_at hl 1 rfl) ?_
  refine lv_iload_n hx hb dX5_called_1 rfl (lv_at hl 2 rfl) ?_
  refine lv_iload_n hx hb dX5_called_2 rfl (lv_at hl 3 rfl) ?_
  refine lv_iload hx hb dX5_called_3 (lv_at hl 4 rfl) ?_
  refine roSi (As := [.int pt, .int bs, .int fr, .int to0]) (rest := []) (v := (bI (canC pt bs fr to0))) ⟨hx, hb, hml, hown, hts⟩ (c_X5_isCall l pt bs fr to0) (va_cwS 4 hts gX5_called_X5_isCall rfl rfl rfl (by decide +kernel) ⟨Nat.le_of_ble_eq_true rfl, Nat.le_of_ble_eq_true rfl⟩) rfl hl.1 rfl (Nat.le_of_ble_eq_true rfl) dX5_called_5 ⟨Nat.zero_le _, Nat.zero_le _⟩ ?_
  refine lv_if_ne (tgt := 14) hx hb dX5_called_8 (by decide) (fun c_1 => ?_) (fun c_1 => ?_)
  · have b_2 : (canC pt bs fr to0) = true := bI_t c_1
    refine lv_iconst (v := 0) hx hb dX5_called_14 (by decide) ?_
    refine lv_istore (lv' := [(5, .int 0), (0, .ref (q 200)), (1, .int pt), (2, .int bs), (3, .int fr), (4, .int to0)]) hx hb dX5_called_15 hl (by decide) rfl (fun ls hl => ?_)
    refine lv_iconst (v := 0) hx hb dX5_called_17 (by decide) ?_
    refine lv_istore (lv' := [(6, .int 0), (5, .int 0), (0, .ref (q 200)), (1, .int pt), (2, .int bs), (3, .int fr), (4, .int to0)]) hx hb dX5_called_18 hl (by decide) rfl (fun ls hl => ?_)
    refine lpW (fun k ls => lv_has ls 7 [(0, .ref (q 200)), (1, .int pt), (2, .int bs), (3, .int fr), (4, .int to0), (5, .int (ctI (sCl F c pt bs fr to0) k)), (6, .int (nI k))]) n 0 (Nat.zero_le _) ls (show lv_has ls 7 [(0, .ref (q 200)), (1, .int pt), (2, .int bs), (3, .int fr), (4, .int to0), (5, .int (ctI (sCl F c pt bs fr to0) 0)), (6, .int (nI 0))] from lv_sub hl [2, 3, 4, 5, 6, 1, 0] rfl) ?_ ?_
    · intro ls hl
      have hl : lv_has ls 7 [(0, .ref (q 200)), (1, .int pt), (2, .int bs), (3, .int fr), (4, .int to0), (5, .int (ctI (sCl F c pt bs fr to0) n)), (6, .int (nI n))] := hl
      refine lv_iload hx hb dX5_called_20 (lv_at hl 6 rfl) ?_
      refine lv_aload_n hx hb dX5_called_22 rfl (lv_at hl 0 rfl) ?_
      refine va_get (D := D) (ci := 5) (v := .int (nI n)) (C := RX5) (T := TX5) (N := 21) hx hb hts (fun _ h => List.mem_cons_of_mem _ (List.mem_append_right _ h)) hown hK hP 0 rfl rfl 2 (by decide) (hts (.fieldLink RX5 70 "UnderPromiseModel" "things" "I") (List.mem_of_getElem? (i := 1) rfl)) (fun _ h9 => h9) rfl dX5_called_23 ?_
      refine lv_icmp_ge (tgt := 59) hx hb dX5_called_26 (by decide) (fun c_3 => ?_) (fun c_3 => ?_)
      · have c_4 := i_le c_3
        refine lv_iload hx hb dX5_called_59 (lv_at hl 5 rfl) ?_
        exact W.iret (v := (ctI (sCl F c pt bs fr to0) n)) hx hb hr (fun t9 ht9 hW9 => ⟨(ctI (sCl F c pt bs fr to0) n), rfl, (by first | with_reducible rfl | simp [b_2, c_3, c_4]), ht9⟩) (fun _ h => by cases h) dX5_called_61
      · exact absurd (nI_le (Nat.le_refl _) (by omega)) c_3
    · intro k hk0 hk ih ls hl
      have hl : lv_has ls 7 [(0, .ref (q 200)), (1, .int pt), (2, .int bs), (3, .int fr), (4, .int to0), (5, .int (ctI (sCl F c pt bs fr to0) k)), (6, .int (nI k))] := hl
      refine lv_iload hx hb dX5_called_20 (lv_at hl 6 rfl) ?_
      refine lv_aload_n hx hb dX5_called_22 rfl (lv_at hl 0 rfl) ?_
      refine va_get (D := D) (ci := 5) (v := .int (nI n)) (C := RX5) (T := TX5) (N := 21) hx hb hts (fun _ h => List.mem_cons_of_mem _ (List.mem_append_right _ h)) hown hK hP 0 rfl rfl 2 (by decide) (hts (.fieldLink RX5 70 "UnderPromiseModel" "things" "I") (List.mem_of_getElem? (i := 1) rfl)) (fun _ h9 => h9) rfl dX5_called_23 ?_
      refine lv_icmp_ge (tgt := 59) hx hb dX5_called_26 (by decide) (fun c_5 => ?_) (fun c_5 => ?_)
      · exact absurd c_5 (nI_ge hk (by omega))
      · have c_6 := i_nle c_5
        refine lv_iload hx hb dX5_called_29 (lv_at hl 5 rfl) ?_
        refine lv_aload_n hx hb dX5_called_31 rfl (lv_at hl 0 rfl) ?_
        refine lv_iload hx hb dX5_called_32 (lv_at hl 6 rfl) ?_
        refine lv_iload_n hx hb dX5_called_34 rfl (lv_at hl 1 rfl) ?_
        refine lv_iload_n hx hb dX5_called_35 rfl (lv_at hl 2 rfl) ?_
        refine lv_iload_n hx hb dX5_called_36 rfl (lv_at hl 3 rfl) ?_
        refine lv_iload hx hb dX5_called_37 (lv_at hl 4 rfl) ?_
        refine roVi (As := [.int (nI k), .int pt, .int bs, .int fr, .int to0]) (rest := [.int (ctI (sCl F c pt bs fr to0) k)]) (v := (bI (sCal F bs fr to0 k pt c))) ⟨hx, hb, hml, hown, hts⟩ (c_X5_isCalled l D cs q F n c g up lo k pt bs fr to0 hI (by omega) (canC_p b_2)) (cwV 5 hts gX5_called_X5_isCalled rfl rfl rfl (by decide +kernel) ⟨Nat.le_of_ble_eq_true rfl, Nat.le_of_ble_eq_true rfl⟩) hP hK hN 0 rfl rfl rfl hl.1 rfl (Nat.le_of_ble_eq_true rfl) dX5_called_39 ⟨Nat.zero_le _, Nat.zero_le _⟩ ?_
        refine lv_if_eq (tgt := 49) hx hb dX5_called_42 (by decide) (fun c_7 => ?_) (fun c_7 => ?_)
        · have b_8 : (sCal F bs fr to0 k pt c) = false := bI_f c_7
          refine lv_iconst (v := 0) hx hb dX5_called_49 (by decide) ?_
          refine lv_iadd hx hb dX5_called_50 ?_
          refine lv_istore (lv' := [(5, .int ((ctI (sCl F c pt bs fr to0) k) + 0)), (0, .ref (q 200)), (1, .int pt), (2, .int bs), (3, .int fr), (4, .int to0), (6, .int (nI k))]) hx hb dX5_called_51 hl (by decide) rfl (fun ls hl => ?_)
          refine lv_iinc (v := ((nI k) + 1)) (lv' := [(6, .int ((nI k) + 1)), (5, .int ((ctI (sCl F c pt bs fr to0) k) + 0)), (0, .ref (q 200)), (1, .int pt), (2, .int bs), (3, .int fr), (4, .int to0)]) hx hb dX5_called_53 hl (k := 6) rfl rfl (by decide) rfl (fun ls hl => ?_)
          refine lv_goto (tgt := 20) hx hb dX5_called_56 (by decide) ?_
          have h_9 : ((ctI (sCl F c pt bs fr to0) k) + 0) = (ctI (sCl F c pt bs fr to0) (k + 1)) := (by first | with_reducible rfl | simp [ctI, sCl, b_2, c_5, c_6, b_8])
          have h_10 : ((nI k) + 1) = (nI (k + 1)) := (nI_1 _)
          exact ih _ (lv_cast (lv_sub (l' := [(0, .ref (q 200)), (1, .int pt), (2, .int bs), (3, .int fr), (4, .int to0), (5, .int ((ctI (sCl F c pt bs fr to0) k) + 0)), (6, .int ((nI k) + 1))]) hl [2, 3, 4, 5, 6, 1, 0] rfl) (cg2 (fun z9 z10 => [(0, .ref (q 200)), (1, .int pt), (2, .int bs), (3, .int fr), (4, .int to0), (5, .int z9), (6, .int z10)]) h_9 h_10))
        · have b_11 : (sCal F bs fr to0 k pt c) = true := bI_t c_7
          refine lv_iconst (v := 1) hx hb dX5_called_45 (by decide) ?_
          refine lv_goto (tgt := 50) hx hb dX5_called_46 (by decide) ?_
          refine lv_iadd hx hb dX5_called_50 ?_
          refine lv_istore (lv' := [(5, .int ((ctI (sCl F c pt bs fr to0) k) + 1)), (0, .ref (q 200)), (1, .int pt), (2, .int bs), (3, .int fr), (4, .int to0), (6, .int (nI k))]) hx hb dX5_called_51 hl (by decide) rfl (fun ls hl => ?_)
          refine lv_iinc (v := ((nI k) + 1)) (lv' := [(6, .int ((nI k) + 1)), (5, .int ((ctI (sCl F c pt bs fr to0) k) + 1)), (0, .ref (q 200)), (1, .int pt), (2, .int bs), (3, .int fr), (4, .int to0)]) hx hb dX5_called_53 hl (k := 6) rfl rfl (by decide) rfl (fun ls hl => ?_)
          refine lv_goto (tgt := 20) hx hb dX5_called_56 (by decide) ?_
          have h_12 : ((ctI (sCl F c pt bs fr to0) k) + 1) = (ctI (sCl F c pt bs fr to0) (k + 1)) := (by first | with_reducible rfl | simp [ctI, sCl, b_2, c_5, c_6, b_11])
          have h_13 : ((nI k) + 1) = (nI (k + 1)) := (nI_1 _)
          exact ih _ (lv_cast (lv_sub (l' := [(0, .ref (q 200)), (1, .int pt), (2, .int bs), (3, .int fr), (4, .int to0), (5, .int ((ctI (sCl F c pt bs fr to0) k) + 1)), (6, .int ((nI k) + 1))]) hl [2, 3, 4, 5, 6, 1, 0] rfl) (cg2 (fun z12 z13 => [(0, .ref (q 200)), (1, .int pt), (2, .int bs), (3, .int fr), (4, .int to0), (5, .int z12), (6, .int z13)]) h_12 h_13))
  · have b_14 : (canC pt bs fr to0) = false := bI_f c_1
    refine lv_bipush (v := (-2)) hx hb dX5_called_11 (by decide) ?_
    exact W.iret (v := (-2)) hx hb hr (fun t9 ht9 hW9 => ⟨(-2), rfl, (by first | with_reducible rfl | simp [b_14]), ht9⟩) (fun _ h => by cases h) dX5_called_13
set_option maxHeartbeats 4000000 in
set_option maxRecDepth 100000 in
/-- X5_calledAt -/
theorem c_X5_calledAt (l : Launch) (D : va_G) (cs : Nat → ClassId) (q : Nat → Nat) (F : Nat → Nat → Int32) (n c : Nat) (g : Int32) (up lo : Int64) (pt : Int32) (bs : Int32) (fr : Int32) (to0 : Int32) (i0 : Int32) (hI : Inv F n c) : Met l yX5_calledAt wsX5_calledAt ({ frames := 2, cells := 0, slots := 0, locals := 52 }) (va_Pc [.ref (q 200), .int pt, .int bs, .int fr, .int to0, .int i0] (pw D cs (mW q cs F n c g up lo))) (vp_Si (fun r => r = (if canC pt bs fr to0 = true then (if i0 < 0 then -2 else fnd (sCl F c pt bs fr to0) i0 n) else -2))) 0 0 (fun _ => False) := by
  refine Met.ofW (cc := cX5_calledAt) (maxL := 9) (ret := (some .int)) (by decide) rfl ?_
  intro p e s m args below meth c_ s₁ B hml hv
  obtain ⟨rfl, hP, hK, hN⟩ := hv
  have hx := B.exec
  have hb := B.bytes
  have hr := B.returns
  have hts := atoms_spec (ws := wsX5_calledAt) B.pre
  have hown : s.vm.findClass RX5 = some m.cls := findClass_of_methodNamed B.named
  have hlocks := B.notSynchronized
  have hl := lv_entry ([.ref (q 200), .int pt, .int bs, .int fr, .int to0, .int i0]) (n := 9) (Nat.le_of_ble_eq_true rfl)
  rw [lg_entry_eq]
  generalize (lg_sl ([.ref (q 200), .int pt, .int bs, .int fr, .int to0, .int i0]) ++ List.replicate (9 - (lg_sl ([.ref (q 200), .int pt, .int bs, .int fr, .int to0, .int i0])).length) Slot.unset).toArray = ls at hl ⊢
  have hl : lv_has ls 9 [(0, .ref (q 200)), (1, .int pt), (2, .int bs), (3, .int fr), (4, .int to0), (5, .int i0)] := hl
  have hn60 := hI.n60
  have hc100 := hI.c100
  refine lv_iload_n hx hb dX5_calledAt_0 rfl (lv_at hl 1 rfl) ?_
  refine lv_iload_n hx hb dX5_calledAt_1 rfl (lv_at hl 2 rfl) ?_
  refine lv_iload_n hx hb dX5_calledAt_2 rfl (lv_at hl 3 rfl) ?_
  refine lv_iload hx hb dX5_calledAt_3 (lv_at hl 4 rfl) ?_
  refine roSi (As := [.int pt, .int bs, .int fr, .int to0]) (rest := []) (v := (bI (canC pt bs fr to0))) ⟨hx, hb, hml, hown, hts⟩ (c_X5_isCall l pt bs fr to0) (va_cwS 4 hts gX5_calledAt_X5_isCall rfl rfl rfl (by decide +kernel) ⟨Nat.le_of_ble_eq_true rfl, Nat.le_of_ble_eq_true rfl⟩) rfl hl.1 rfl (Nat.le_of_ble_eq_true rfl) dX5_calledAt_5 ⟨Nat.zero_le _, Nat.zero_le _⟩ ?_
  refine lv_if_eq (tgt := 16) hx hb dX5_calledAt_8 (by decide) (fun c_1 => ?_) (fun c_1 => ?_)
  · have b_2 : (canC pt bs fr to0) = false := bI_f c_1
    refine lv_bipush (v := (-2)) hx hb dX5_calledAt_16 (by decide) ?_
    exact W.iret (v := (-2)) hx hb hr (fun t9 ht9 hW9 => ⟨(-2), rfl, (by first | with_reducible rfl | simp [b_2]), ht9⟩) (fun _ h => by cases h) dX5_calledAt_18
  · have b_3 : (canC pt bs fr to0) = true := bI_t c_1
    refine lv_iload hx hb dX5_calledAt_11 (lv_at hl 5 rfl) ?_
    refine lv_if_ge (tgt := 19) hx hb dX5_calledAt_13 (by decide) (fun c_4 => ?_) (fun c_4 => ?_)
    · have c_5 := i_le c_4
      refine lv_iconst (v := 0) hx hb dX5_calledAt_19 (by decide) ?_
      refine lv_istore (lv' := [(6, .int 0), (0, .ref (q 200)), (1, .int pt), (2, .int bs), (3, .int fr), (4, .int to0), (5, .int i0)]) hx hb dX5_calledAt_20 hl (by decide) rfl (fun ls hl => ?_)
      refine lv_iconst (v := (-1)) hx hb dX5_calledAt_22 (by decide) ?_
      refine lv_istore (lv' := [(7, .int (-1)), (6, .int 0), (0, .ref (q 200)), (1, .int pt), (2, .int bs), (3, .int fr), (4, .int to0), (5, .int i0)]) hx hb dX5_calledAt_23 hl (by decide) rfl (fun ls hl => ?_)
      refine lv_iconst (v := 0) hx hb dX5_calledAt_25 (by decide) ?_
      refine lv_istore (lv' := [(8, .int 0), (7, .int (-1)), (6, .int 0), (0, .ref (q 200)), (1, .int pt), (2, .int bs), (3, .int fr), (4, .int to0), (5, .int i0)]) hx hb dX5_calledAt_26 hl (by decide) rfl (fun ls hl => ?_)
      refine lpW (fun k ls => lv_has ls 9 [(0, .ref (q 200)), (1, .int pt), (2, .int bs), (3, .int fr), (4, .int to0), (5, .int i0), (6, .int (ctI (sCl F c pt bs fr to0) k)), (7, .int (fnd (sCl F c pt bs fr to0) i0 k)), (8, .int (nI k))]) n 0 (Nat.zero_le _) ls (show lv_has ls 9 [(0, .ref (q 200)), (1, .int pt), (2, .int bs), (3, .int fr), (4, .int to0), (5, .int i0), (6, .int (ctI (sCl F c pt bs fr to0) 0)), (7, .int (fnd (sCl F c pt bs fr to0) i0 0)), (8, .int (nI 0))] from lv_sub hl [3, 4, 5, 6, 7, 8, 2, 1, 0] rfl) ?_ ?_
      · intro ls hl
        have hl : lv_has ls 9 [(0, .ref (q 200)), (1, .int pt), (2, .int bs), (3, .int fr), (4, .int to0), (5, .int i0), (6, .int (ctI (sCl F c pt bs fr to0) n)), (7, .int (fnd (sCl F c pt bs fr to0) i0 n)), (8, .int (nI n))] := hl
        refine lv_iload hx hb dX5_calledAt_28 (lv_at hl 8 rfl) ?_
        refine lv_aload_n hx hb dX5_calledAt_30 rfl (lv_at hl 0 rfl) ?_
        refine va_get (D := D) (ci := 5) (v := .int (nI n)) (C := RX5) (T := TX5) (N := 21) hx hb hts (fun _ h => List.mem_cons_of_mem _ (List.mem_append_right _ h)) hown hK hP 0 rfl rfl 2 (by decide) (hts (.fieldLink RX5 70 "UnderPromiseModel" "things" "I") (List.mem_of_getElem? (i := 1) rfl)) (fun _ h9 => h9) rfl dX5_calledAt_31 ?_
        refine lv_icmp_ge (tgt := 76) hx hb dX5_calledAt_34 (by decide) (fun c_6 => ?_) (fun c_6 => ?_)
        · have c_7 := i_le c_6
          refine lv_iload hx hb dX5_calledAt_76 (lv_at hl 7 rfl) ?_
          exact W.iret (v := (fnd (sCl F c pt bs fr to0) i0 n)) hx hb hr (fun t9 ht9 hW9 => ⟨(fnd (sCl F c pt bs fr to0) i0 n), rfl, (by first | with_reducible rfl | simp [b_3, c_4, c_5, c_6, c_7]), ht9⟩) (fun _ h => by cases h) dX5_calledAt_78
        · exact absurd (nI_le (Nat.le_refl _) (by omega)) c_6
      · intro k hk0 hk ih ls hl
        have hl : lv_has ls 9 [(0, .ref (q 200)), (1, .int pt), (2, .int bs), (3, .int fr), (4, .int to0), (5, .int i0), (6, .int (ctI (sCl F c pt bs fr to0) k)), (7, .int (fnd (sCl F c pt bs fr to0) i0 k)), (8, .int (nI k))] := hl
        refine lv_iload hx hb dX5_calledAt_28 (lv_at hl 8 rfl) ?_
        refine lv_aload_n hx hb dX5_calledAt_30 rfl (lv_at hl 0 rfl) ?_
        refine va_get (D := D) (ci := 5) (v := .int (nI n)) (C := RX5) (T := TX5) (N := 21) hx hb hts (fun _ h => List.mem_cons_of_mem _ (List.mem_append_right _ h)) hown hK hP 0 rfl rfl 2 (by decide) (hts (.fieldLink RX5 70 "UnderPromiseModel" "things" "I") (List.mem_of_getElem? (i := 1) rfl)) (fun _ h9 => h9) rfl dX5_calledAt_31 ?_
        refine lv_icmp_ge (tgt := 76) hx hb dX5_calledAt_34 (by decide) (fun c_8 => ?_) (fun c_8 => ?_)
        · exact absurd c_8 (nI_ge hk (by omega))
        · have c_9 := i_nle c_8
          refine lv_aload_n hx hb dX5_calledAt_37 rfl (lv_at hl 0 rfl) ?_
          refine lv_iload hx hb dX5_calledAt_38 (lv_at hl 8 rfl) ?_
          refine lv_iload_n hx hb dX5_calledAt_40 rfl (lv_at hl 1 rfl) ?_
          refine lv_iload_n hx hb dX5_calledAt_41 rfl (lv_at hl 2 rfl) ?_
          refine lv_iload_n hx hb dX5_calledAt_42 rfl (lv_at hl 3 rfl) ?_
          refine lv_iload hx hb dX5_calledAt_43 (lv_at hl 4 rfl) ?_
          refine roVi (As := [.int (nI k), .int pt, .int bs, .int fr, .int to0]) (rest := []) (v := (bI (sCal F bs fr to0 k pt c))) ⟨hx, hb, hml, hown, hts⟩ (c_X5_isCalled l D cs q F n c g up lo k pt bs fr to0 hI (by omega) (canC_p b_3)) (cwV 5 hts gX5_calledAt_X5_isCalled rfl rfl rfl (by decide +kernel) ⟨Nat.le_of_ble_eq_true rfl, Nat.le_of_ble_eq_true rfl⟩) hP hK hN 0 rfl rfl rfl hl.1 rfl (Nat.le_of_ble_eq_true rfl) dX5_calledAt_45 ⟨Nat.zero_le _, Nat.zero_le _⟩ ?_
          refine lv_if_eq (tgt := 70) hx hb dX5_calledAt_48 (by decide) (fun c_10 => ?_) (fun c_10 => ?_)
          · have b_11 : (sCal F bs fr to0 k pt c) = false := bI_f c_10
            refine lv_iinc (v := ((nI k) + 1)) (lv' := [(8, .int ((nI k) + 1)), (0, .ref (q 200)), (1, .int pt), (2, .int bs), (3, .int fr), (4, .int to0), (5, .int i0), (6, .int (ctI (sCl F c pt bs fr to0) k)), (7, .int (fnd (sCl F c pt bs fr to0) i0 k))]) hx hb dX5_calledAt_70 hl (k := 8) rfl rfl (by decide) rfl (fun ls hl => ?_)
            refine lv_goto (tgt := 28) hx hb dX5_calledAt_73 (by decide) ?_
            have h_12 : (ctI (sCl F c pt bs fr to0) k) = (ctI (sCl F c pt bs fr to0) (k + 1)) := (by first | with_reducible rfl | simp [ctI, sCl, fnd, b_3, c_4, c_5, c_8, c_9, b_11])
            have h_13 : (fnd (sCl F c pt bs fr to0) i0 k) = (fnd (sCl F c pt bs fr to0) i0 (k + 1)) := (by first | with_reducible rfl | simp [ctI, sCl, fnd, b_3, c_4, c_5, c_8, c_9, b_11])
            have h_14 : ((nI k) + 1) = (nI (k + 1)) := (nI_1 _)
            exact ih _ (lv_cast (lv_sub (l' := [(0, .ref (q 200)), (1, .int pt), (2, .int bs), (3, .int fr), (4, .int to0), (5, .int i0), (6, .int (ctI (sCl F c pt bs fr to0) k)), (7, .int (fnd (sCl F c pt bs fr to0) i0 k)), (8, .int ((nI k) + 1))]) hl [1, 2, 3, 4, 5, 6, 7, 8, 0] rfl) (cg3 (fun z12 z13 z14 => [(0, .ref (q 200)), (1, .int pt), (2, .int bs), (3, .int fr), (4, .int to0), (5, .int i0), (6, .int z12), (7, .int z13), (8, .int z14)]) h_12 h_13 h_14))
          · have b_15 : (sCal F bs fr to0 k pt c) = true := bI_t c_10
            refine lv_iload hx hb dX5_calledAt_51 (lv_at hl 6 rfl) ?_
            refine lv_iload hx hb dX5_calledAt_53 (lv_at hl 5 rfl) ?_
            refine lv_icmp_ne (tgt := 63) hx hb dX5_calledAt_55 (by decide) (fun c_16 => ?_) (fun c_16 => ?_)
            · refine lv_iload hx hb dX5_calledAt_63 (lv_at hl 7 rfl) ?_
              refine lv_istore (lv' := [(7, .int (fnd (sCl F c pt bs fr to0) i0 k)), (0, .ref (q 200)), (1, .int pt), (2, .int bs), (3, .int fr), (4, .int to0), (5, .int i0), (6, .int (ctI (sCl F c pt bs fr to0) k)), (8, .int (nI k))]) hx hb dX5_calledAt_65 hl (by decide) rfl (fun ls hl => ?_)
              refine lv_iinc (v := ((ctI (sCl F c pt bs fr to0) k) + 1)) (lv' := [(6, .int ((ctI (sCl F c pt bs fr to0) k) + 1)), (7, .int (fnd (sCl F c pt bs fr to0) i0 k)), (0, .ref (q 200)), (1, .int pt), (2, .int bs), (3, .int fr), (4, .int to0), (5, .int i0), (8, .int (nI k))]) hx hb dX5_calledAt_67 hl (k := 7) rfl rfl (by decide) rfl (fun ls hl => ?_)
              refine lv_iinc (v := ((nI k) + 1)) (lv' := [(8, .int ((nI k) + 1)), (6, .int ((ctI (sCl F c pt bs fr to0) k) + 1)), (7, .int (fnd (sCl F c pt bs fr to0) i0 k)), (0, .ref (q 200)), (1, .int pt), (2, .int bs), (3, .int fr), (4, .int to0), (5, .int i0)]) hx hb dX5_calledAt_70 hl (k := 8) rfl rfl (by decide) rfl (fun ls hl => ?_)
              refine lv_goto (tgt := 28) hx hb dX5_calledAt_73 (by decide) ?_
              have h_17 : ((ctI (sCl F c pt bs fr to0) k) + 1) = (ctI (sCl F c pt bs fr to0) (k + 1)) := (by first | with_reducible rfl | simp [ctI, sCl, fnd, b_3, c_4, c_5, c_8, c_9, b_15, c_16])
              have h_18 : (fnd (sCl F c pt bs fr to0) i0 k) = (fnd (sCl F c pt bs fr to0) i0 (k + 1)) := (by first | with_reducible rfl | simp [ctI, sCl, fnd, b_3, c_4, c_5, c_8, c_9, b_15, c_16])
              have h_19 : ((nI k) + 1) = (nI (k + 1)) := (nI_1 _)
              exact ih _ (lv_cast (lv_sub (l' := [(0, .ref (q 200)), (1, .int pt), (2, .int bs), (3, .int fr), (4, .int to0), (5, .int i0), (6, .int ((ctI (sCl F c pt bs fr to0) k) + 1)), (7, .int (fnd (sCl F c pt bs fr to0) i0 k)), (8, .int ((nI k) + 1))]) hl [3, 4, 5, 6, 7, 8, 1, 2, 0] rfl) (cg3 (fun z17 z18 z19 => [(0, .ref (q 200)), (1, .int pt), (2, .int bs), (3, .int fr), (4, .int to0), (5, .int i0), (6, .int z17), (7, .int z18), (8, .int z19)]) h_17 h_18 h_19))
            · refine lv_iload hx hb dX5_calledAt_58 (lv_at hl 8 rfl) ?_
              refine lv_goto (tgt := 65) hx hb dX5_calledAt_60 (by decide) ?_
              refine lv_istore (lv' := [(7, .int (nI k)), (0, .ref (q 200)), (1, .int pt), (2, .int bs), (3, .int fr), (4, .int to0), (5, .int i0), (6, .int (ctI (sCl F c pt bs fr to0) k)), (8, .int (nI k))]) hx hb dX5_calledAt_65 hl (by decide) rfl (fun ls hl => ?_)
              refine lv_iinc (v := ((ctI (sCl F c pt bs fr to0) k) + 1)) (lv' := [(6, .int ((ctI (sCl F c pt bs fr to0) k) + 1)), (7, .int (nI k)), (0, .ref (q 200)), (1, .int pt), (2, .int bs), (3, .int fr), (4, .int to0), (5, .int i0), (8, .int (nI k))]) hx hb dX5_calledAt_67 hl (k := 7) rfl rfl (by decide) rfl (fun ls hl => ?_)
              refine lv_iinc (v := ((nI k) + 1)) (lv' := [(8, .int ((nI k) + 1)), (6, .int ((ctI (sCl F c pt bs fr to0) k) + 1)), (7, .int (nI k)), (0, .ref (q 200)), (1, .int pt), (2, .int bs), (3, .int fr), (4, .int to0), (5, .int i0)]) hx hb dX5_calledAt_70 hl (k := 8) rfl rfl (by decide) rfl (fun ls hl => ?_)
              refine lv_goto (tgt := 28) hx hb dX5_calledAt_73 (by decide) ?_
              have h_20 : ((ctI (sCl F c pt bs fr to0) k) + 1) = (ctI (sCl F c pt bs fr to0) (k + 1)) := (by first | with_reducible rfl | simp [ctI, sCl, fnd, b_3, c_4, c_5, c_8, c_9, b_15, c_16])
              have h_21 : (nI k) = (fnd (sCl F c pt bs fr to0) i0 (k + 1)) := (by first | with_reducible rfl | simp [ctI, sCl, fnd, b_3, c_4, c_5, c_8, c_9, b_15, c_16])
              have h_22 : ((nI k) + 1) = (nI (k + 1)) := (nI_1 _)
              exact ih _ (lv_cast (lv_sub (l' := [(0, .ref (q 200)), (1, .int pt), (2, .int bs), (3, .int fr), (4, .int to0), (5, .int i0), (6, .int ((ctI (sCl F c pt bs fr to0) k) + 1)), (7, .int (nI k)), (8, .int ((nI k) + 1))]) hl [3, 4, 5, 6, 7, 8, 1, 2, 0] rfl) (cg3 (fun z20 z21 z22 => [(0, .ref (q 200)), (1, .int pt), (2, .int bs), (3, .int fr), (4, .int to0), (5, .int i0), (6, .int z20), (7, .int z21), (8, .int z22)]) h_20 h_21 h_22))
    · have c_23 := i_nle c_4
      refine lv_bipush (v := (-2)) hx hb dX5_calledAt_16 (by decide) ?_
      exact W.iret (v := (-2)) hx hb hr (fun t9 ht9 hW9 => ⟨(-2), rfl, (by first | with_reducible rfl | simp [b_3, c_4, c_23]), ht9⟩) (fun _ h => by cases h) dX5_calledAt_18
set_option maxHeartbeats 4000000 in
set_option maxRecDepth 100000 in
/-- X5_judgedAs -/
theorem c_X5_judgedAs (l : Launch) (D : va_G) (cs : Nat → ClassId) (q : Nat → Nat) (F : Nat → Nat → Int32) (n c : Nat) (g : Int32) (up lo : Int64) (w : Int32) (hI : Inv F n c) : Met l yX5_judgedAs wsX5_judgedAs ({ frames := 0, cells := 0, slots := 0, locals := 0 }) (va_Pc [.ref (q 200), .int w] (pw D cs (mW q cs F n c g up lo))) (vp_Si (fun r => r = (ctI (sJud F w) c))) 0 0 (fun _ => False) := by
  refine Met.ofW (cc := cX5_judgedAs) (maxL := 4) (ret := (some .int)) (by decide) rfl ?_
  intro p e s m args below meth c_ s₁ B hml hv
  obtain ⟨rfl, hP, hK, hN⟩ := hv
  have hx := B.exec
  have hb := B.bytes
  have hr := B.returns
  have hts := atoms_spec (ws := wsX5_judgedAs) B.pre
  have hown : s.vm.findClass RX5 = some m.cls := findClass_of_methodNamed B.named
  have hlocks := B.notSynchronized
  have hl := lv_entry ([.ref (q 200), .int w]) (n := 4) (Nat.le_of_ble_eq_true rfl)
  rw [lg_entry_eq]
  generalize (lg_sl ([.ref (q 200), .int w]) ++ List.replicate (4 - (lg_sl ([.ref (q 200), .int w])).length) Slot.unset).toArray = ls at hl ⊢
  have hl : lv_has ls 4 [(0, .ref (q 200)), (1, .int w)] := hl
  have hn60 := hI.n60
  have hc100 := hI.c100
  refine lv_iconst (v := 0) hx hb dX5_judgedAs_0 (by decide) ?_
  refine lv_istore_n (lv' := [(2, .int 0), (0, .ref (q 200)), (1, .int w)]) hx hb dX5_judgedAs_1 rfl hl (by decide) rfl (fun ls hl => ?_)
  refine lv_iconst (v := 0) hx hb dX5_judgedAs_2 (by decide) ?_
  refine lv_istore_n (lv' := [(3, .int 0), (2, .int 0), (0, .ref (q 200)), (1, .int w)]) hx hb dX5_judgedAs_3 rfl hl (by decide) rfl (fun ls hl => ?_)
  refine lpW (fun k ls => lv_has ls 4 [(0, .ref (q 200)), (1, .int w), (2, .int (ctI (sJud F w) k)), (3, .int (nI k))]) c 0 (Nat.zero_le _) ls (show lv_has ls 4 [(0, .ref (q 200)), (1, .int w), (2, .int (ctI (sJud F w) 0)), (3, .int (nI 0))] from lv_sub hl [2, 3, 1, 0] rfl) ?_ ?_
  · intro ls hl
    have hl : lv_has ls 4 [(0, .ref (q 200)), (1, .int w), (2, .int (ctI (sJud F w) c)), (3, .int (nI c))] := hl
    refine lv_iload_n hx hb dX5_judgedAs_4 rfl (lv_at hl 3 rfl) ?_
    refine lv_aload_n hx hb dX5_judgedAs_5 rfl (lv_at hl 0 rfl) ?_
    refine va_get (D := D) (ci := 5) (v := .int (nI c)) (C := RX5) (T := TX5) (N := 21) hx hb hts (fun _ h => List.mem_cons_of_mem _ (List.mem_append_right _ h)) hown hK hP 0 rfl rfl 8 (by decide) (hts (.fieldLink RX5 102 "UnderPromiseModel" "claims" "I") (List.mem_of_getElem? (i := 1) rfl)) (fun _ h9 => h9) rfl dX5_judgedAs_6 ?_
    refine lv_icmp_ge (tgt := 36) hx hb dX5_judgedAs_9 (by decide) (fun c_1 => ?_) (fun c_1 => ?_)
    · have c_2 := i_le c_1
      refine lv_iload_n hx hb dX5_judgedAs_36 rfl (lv_at hl 2 rfl) ?_
      exact W.iret (v := (ctI (sJud F w) c)) hx hb hr (fun t9 ht9 hW9 => ⟨(ctI (sJud F w) c), rfl, rfl, ht9⟩) (fun _ h => by cases h) dX5_judgedAs_37
    · exact absurd (nI_le (Nat.le_refl _) (by omega)) c_1
  · intro k hk0 hk ih ls hl
    have hl : lv_has ls 4 [(0, .ref (q 200)), (1, .int w), (2, .int (ctI (sJud F w) k)), (3, .int (nI k))] := hl
    refine lv_iload_n hx hb dX5_judgedAs_4 rfl (lv_at hl 3 rfl) ?_
    refine lv_aload_n hx hb dX5_judgedAs_5 rfl (lv_at hl 0 rfl) ?_
    refine va_get (D := D) (ci := 5) (v := .int (nI c)) (C := RX5) (T := TX5) (N := 21) hx hb hts (fun _ h => List.mem_cons_of_mem _ (List.mem_append_right _ h)) hown hK hP 0 rfl rfl 8 (by decide) (hts (.fieldLink RX5 102 "UnderPromiseModel" "claims" "I") (List.mem_of_getElem? (i := 1) rfl)) (fun _ h9 => h9) rfl dX5_judgedAs_6 ?_
    refine lv_icmp_ge (tgt := 36) hx hb dX5_judgedAs_9 (by decide) (fun c_3 => ?_) (fun c_3 => ?_)
    · exact absurd c_3 (nI_ge hk (by omega))
    · have c_4 := i_nle c_3
      refine lv_iload_n hx hb dX5_judgedAs_12 rfl (lv_at hl 2 rfl) ?_
      refine lv_aload_n hx hb dX5_judgedAs_13 rfl (lv_at hl 0 rfl) ?_
      refine va_get (D := D) (ci := 5) (v := .ref (q 212)) (C := RX5) (T := TX5) (N := 21) hx hb hts (fun _ h => List.mem_cons_of_mem _ (List.mem_append_right _ h)) hown hK hP 0 rfl rfl 14 (by decide) (hts (.fieldLink RX5 47 "UnderPromiseModel" "judged" "[I") (List.mem_of_getElem? (i := 2) rfl)) (fun _ h9 => h9) rfl dX5_judgedAs_14 ?_
      refine lv_iload_n hx hb dX5_judgedAs_17 rfl (lv_at hl 3 rfl) ?_
      refine iaK (v := (F 11 k)) hx hb hK hP 12 0 rfl rfl k (vp_in_nI (by omega) (by decide)) (nI_clamp (by omega)) rfl dX5_judgedAs_18 ?_
      refine lv_iload_n hx hb dX5_judgedAs_19 rfl (lv_at hl 1 rfl) ?_
      refine lv_icmp_ne (tgt := 27) hx hb dX5_judgedAs_20 (by decide) (fun c_5 => ?_) (fun c_5 => ?_)
      · refine lv_iconst (v := 0) hx hb dX5_judgedAs_27 (by decide) ?_
        refine lv_iadd hx hb dX5_judgedAs_28 ?_
        refine lv_istore_n (lv' := [(2, .int ((ctI (sJud F w) k) + 0)), (0, .ref (q 200)), (1, .int w), (3, .int (nI k))]) hx hb dX5_judgedAs_29 rfl hl (by decide) rfl (fun ls hl => ?_)
        refine lv_iinc (v := ((nI k) + 1)) (lv' := [(3, .int ((nI k) + 1)), (2, .int ((ctI (sJud F w) k) + 0)), (0, .ref (q 200)), (1, .int w)]) hx hb dX5_judgedAs_30 hl (k := 3) rfl rfl (by decide) rfl (fun ls hl => ?_)
        refine lv_goto (tgt := 4) hx hb dX5_judgedAs_33 (by decide) ?_
        have h_6 : ((ctI (sJud F w) k) + 0) = (ctI (sJud F w) (k + 1)) := (by first | with_reducible rfl | simp [ctI, sJud, c_3, c_4, c_5])
        have h_7 : ((nI k) + 1) = (nI (k + 1)) := (nI_1 _)
        exact ih _ (lv_cast (lv_sub (l' := [(0, .ref (q 200)), (1, .int w), (2, .int ((ctI (sJud F w) k) + 0)), (3, .int ((nI k) + 1))]) hl [2, 3, 1, 0] rfl) (cg2 (fun z6 z7 => [(0, .ref (q 200)), (1, .int w), (2, .int z6), (3, .int z7)]) h_6 h_7))
      · refine lv_iconst (v := 1) hx hb dX5_judgedAs_23 (by decide) ?_
        refine lv_goto (tgt := 28) hx hb dX5_judgedAs_24 (by decide) ?_
        refine lv_iadd hx hb dX5_judgedAs_28 ?_
        refine lv_istore_n (lv' := [(2, .int ((ctI (sJud F w) k) + 1)), (0, .ref (q 200)), (1, .int w), (3, .int (nI k))]) hx hb dX5_judgedAs_29 rfl hl (by decide) rfl (fun ls hl => ?_)
        refine lv_iinc (v := ((nI k) + 1)) (lv' := [(3, .int ((nI k) + 1)), (2, .int ((ctI (sJud F w) k) + 1)), (0, .ref (q 200)), (1, .int w)]) hx hb dX5_judgedAs_30 hl (k := 3) rfl rfl (by decide) rfl (fun ls hl => ?_)
        refine lv_goto (tgt := 4) hx hb dX5_judgedAs_33 (by decide) ?_
        have h_8 : ((ctI (sJud F w) k) + 1) = (ctI (sJud F w) (k + 1)) := (by first | with_reducible rfl | simp [ctI, sJud, c_3, c_4, c_5])
        have h_9 : ((nI k) + 1) = (nI (k + 1)) := (nI_1 _)
        exact ih _ (lv_cast (lv_sub (l' := [(0, .ref (q 200)), (1, .int w), (2, .int ((ctI (sJud F w) k) + 1)), (3, .int ((nI k) + 1))]) hl [2, 3, 1, 0] rfl) (cg2 (fun z8 z9 => [(0, .ref (q 200)), (1, .int w), (2, .int z8), (3, .int z9)]) h_8 h_9))
set_option maxHeartbeats 4000000 in
set_option maxRecDepth 100000 in
/-- X5_thingsWithClaims -/
theorem c_X5_thingsWithClaims (l : Launch) (D : va_G) (cs : Nat → ClassId) (q : Nat → Nat) (F : Nat → Nat → Int32) (n c : Nat) (g : Int32) (up lo : Int64)  (hI : Inv F n c) : Met l yX5_thingsWithClaims wsX5_thingsWithClaims ({ frames := 0, cells := 0, slots := 0, locals := 0 }) (va_Pc [.ref (q 200)] (pw D cs (mW q cs F n c g up lo))) (vp_Si (fun r => r = (ctI (sThs F c) n))) 0 0 (fun _ => False) := by
  refine Met.ofW (cc := cX5_thingsWithClaims) (maxL := 5) (ret := (some .int)) (by decide) rfl ?_
  intro p e s m args below meth c_ s₁ B hml hv
  obtain ⟨rfl, hP, hK, hN⟩ := hv
  have hx := B.exec
  have hb := B.bytes
  have hr := B.returns
  have hts := atoms_spec (ws := wsX5_thingsWithClaims) B.pre
  have hown : s.vm.findClass RX5 = some m.cls := findClass_of_methodNamed B.named
  have hlocks := B.notSynchronized
  have hl := lv_entry ([.ref (q 200)]) (n := 5) (Nat.le_of_ble_eq_true rfl)
  rw [lg_entry_eq]
  generalize (lg_sl ([.ref (q 200)]) ++ List.replicate (5 - (lg_sl ([.ref (q 200)])).length) Slot.unset).toArray = ls at hl ⊢
  have hl : lv_has ls 5 [(0, .ref (q 200))] := hl
  have hn60 := hI.n60
  have hc100 := hI.c100
  refine lv_iconst (v := 0) hx hb dX5_thingsWithClaims_0 (by decide) ?_
  refine lv_istore_n (lv' := [(1, .int 0), (0, .ref (q 200))]) hx hb dX5_thingsWithClaims_1 rfl hl (by decide) rfl (fun ls hl => ?_)
  refine lv_iconst (v := 0) hx hb dX5_thingsWithClaims_2 (by decide) ?_
  refine lv_istore_n (lv' := [(2, .int 0), (1, .int 0), (0, .ref (q 200))]) hx hb dX5_thingsWithClaims_3 rfl hl (by decide) rfl (fun ls hl => ?_)
  refine lpW (fun t ls => lv_has ls 5 [(0, .ref (q 200)), (1, .int (ctI (sThs F c) t)), (2, .int (nI t))]) n 0 (Nat.zero_le _) ls (show lv_has ls 5 [(0, .ref (q 200)), (1, .int (ctI (sThs F c) 0)), (2, .int (nI 0))] from lv_sub hl [2, 1, 0] rfl) ?_ ?_
  · intro ls hl
    have hl : lv_has ls 5 [(0, .ref (q 200)), (1, .int (ctI (sThs F c) n)), (2, .int (nI n))] := hl
    refine lv_iload_n hx hb dX5_thingsWithClaims_4 rfl (lv_at hl 2 rfl) ?_
    refine lv_aload_n hx hb dX5_thingsWithClaims_5 rfl (lv_at hl 0 rfl) ?_
    refine va_get (D := D) (ci := 5) (v := .int (nI n)) (C := RX5) (T := TX5) (N := 21) hx hb hts (fun _ h => List.mem_cons_of_mem _ (List.mem_append_right _ h)) hown hK hP 0 rfl rfl 2 (by decide) (hts (.fieldLink RX5 70 "UnderPromiseModel" "things" "I") (List.mem_of_getElem? (i := 1) rfl)) (fun _ h9 => h9) rfl dX5_thingsWithClaims_6 ?_
    refine lv_icmp_ge (tgt := 81) hx hb dX5_thingsWithClaims_9 (by decide) (fun c_1 => ?_) (fun c_1 => ?_)
    · have c_2 := i_le c_1
      refine lv_iload_n hx hb dX5_thingsWithClaims_81 rfl (lv_at hl 1 rfl) ?_
      exact W.iret (v := (ctI (sThs F c) n)) hx hb hr (fun t9 ht9 hW9 => ⟨(ctI (sThs F c) n), rfl, rfl, ht9⟩) (fun _ h => by cases h) dX5_thingsWithClaims_82
    · exact absurd (nI_le (Nat.le_refl _) (by omega)) c_1
  · intro t ht0 ht ih ls hl
    have hl : lv_has ls 5 [(0, .ref (q 200)), (1, .int (ctI (sThs F c) t)), (2, .int (nI t))] := hl
    refine lv_iload_n hx hb dX5_thingsWithClaims_4 rfl (lv_at hl 2 rfl) ?_
    refine lv_aload_n hx hb dX5_thingsWithClaims_5 rfl (lv_at hl 0 rfl) ?_
    refine va_get (D := D) (ci := 5) (v := .int (nI n)) (C := RX5) (T := TX5) (N := 21) hx hb hts (fun _ h => List.mem_cons_of_mem _ (List.mem_append_right _ h)) hown hK hP 0 rfl rfl 2 (by decide) (hts (.fieldLink RX5 70 "UnderPromiseModel" "things" "I") (List.mem_of_getElem? (i := 1) rfl)) (fun _ h9 => h9) rfl dX5_thingsWithClaims_6 ?_
    refine lv_icmp_ge (tgt := 81) hx hb dX5_thingsWithClaims_9 (by decide) (fun c_3 => ?_) (fun c_3 => ?_)
    · exact absurd c_3 (nI_ge ht (by omega))
    · have c_4 := i_nle c_3
      refine lv_iconst (v := 0) hx hb dX5_thingsWithClaims_12 (by decide) ?_
      refine lv_istore_n (lv' := [(3, .int 0), (0, .ref (q 200)), (1, .int (ctI (sThs F c) t)), (2, .int (nI t))]) hx hb dX5_thingsWithClaims_13 rfl hl (by decide) rfl (fun ls hl => ?_)
      refine lv_iconst (v := 0) hx hb dX5_thingsWithClaims_14 (by decide) ?_
      refine lv_istore (lv' := [(4, .int 0), (3, .int 0), (0, .ref (q 200)), (1, .int (ctI (sThs F c) t)), (2, .int (nI t))]) hx hb dX5_thingsWithClaims_15 hl (by decide) rfl (fun ls hl => ?_)
      refine lpW (fun k ls => lv_has ls 5 [(0, .ref (q 200)), (1, .int (ctI (sThs F c) t)), (2, .int (nI t)), (3, .int (bI (anyB (sTh F t) k))), (4, .int (nI k))]) c 0 (Nat.zero_le _) ls (show lv_has ls 5 [(0, .ref (q 200)), (1, .int (ctI (sThs F c) t)), (2, .int (nI t)), (3, .int (bI (anyB (sTh F t) 0))), (4, .int (nI 0))] from lv_sub hl [2, 3, 4, 1, 0] rfl) ?_ ?_
      · intro ls hl
        have hl : lv_has ls 5 [(0, .ref (q 200)), (1, .int (ctI (sThs F c) t)), (2, .int (nI t)), (3, .int (bI (anyB (sTh F t) c))), (4, .int (nI c))] := hl
        refine lv_iload hx hb dX5_thingsWithClaims_17 (lv_at hl 4 rfl) ?_
        refine lv_aload_n hx hb dX5_thingsWithClaims_19 rfl (lv_at hl 0 rfl) ?_
        refine va_get (D := D) (ci := 5) (v := .int (nI c)) (C := RX5) (T := TX5) (N := 21) hx hb hts (fun _ h => List.mem_cons_of_mem _ (List.mem_append_right _ h)) hown hK hP 0 rfl rfl 8 (by decide) (hts (.fieldLink RX5 102 "UnderPromiseModel" "claims" "I") (List.mem_of_getElem? (i := 2) rfl)) (fun _ h9 => h9) rfl dX5_thingsWithClaims_20 ?_
        refine lv_icmp_ge (tgt := 63) hx hb dX5_thingsWithClaims_23 (by decide) (fun c_5 => ?_) (fun c_5 => ?_)
        · have c_6 := i_le c_5
          refine lv_iload_n hx hb dX5_thingsWithClaims_63 rfl (lv_at hl 1 rfl) ?_
          refine lv_iload_n hx hb dX5_thingsWithClaims_64 rfl (lv_at hl 3 rfl) ?_
          refine lv_if_eq (tgt := 72) hx hb dX5_thingsWithClaims_65 (by decide) (fun c_7 => ?_) (fun c_7 => ?_)
          · have b_8 : (anyB (sTh F t) c) = false := bI_f c_7
            refine lv_iconst (v := 0) hx hb dX5_thingsWithClaims_72 (by decide) ?_
            refine lv_iadd hx hb dX5_thingsWithClaims_73 ?_
            refine lv_istore_n (lv' := [(1, .int ((ctI (sThs F c) t) + 0)), (0, .ref (q 200)), (2, .int (nI t)), (3, .int (bI (anyB (sTh F t) c))), (4, .int (nI c))]) hx hb dX5_thingsWithClaims_74 rfl hl (by decide) rfl (fun ls hl => ?_)
            refine lv_iinc (v := ((nI t) + 1)) (lv' := [(2, .int ((nI t) + 1)), (1, .int ((ctI (sThs F c) t) + 0)), (0, .ref (q 200)), (3, .int (bI (anyB (sTh F t) c))), (4, .int (nI c))]) hx hb dX5_thingsWithClaims_75 hl (k := 2) rfl rfl (by decide) rfl (fun ls hl => ?_)
            refine lv_goto (tgt := 4) hx hb dX5_thingsWithClaims_78 (by decide) ?_
            have h_9 : ((ctI (sThs F c) t) + 0) = (ctI (sThs F c) (t + 1)) := (by simp [ctI, sThs, c_3, c_4, c_5, c_6, b_8])
            have h_10 : ((nI t) + 1) = (nI (t + 1)) := (nI_1 _)
            exact ih _ (lv_cast (lv_sub (l' := [(0, .ref (q 200)), (1, .int ((ctI (sThs F c) t) + 0)), (2, .int ((nI t) + 1))]) hl [2, 1, 0] rfl) (cg2 (fun z9 z10 => [(0, .ref (q 200)), (1, .int z9), (2, .int z10)]) h_9 h_10))
          · have b_11 : (anyB (sTh F t) c) = true := bI_t c_7
            refine lv_iconst (v := 1) hx hb dX5_thingsWithClaims_68 (by decide) ?_
            refine lv_goto (tgt := 73) hx hb dX5_thingsWithClaims_69 (by decide) ?_
            refine lv_iadd hx hb dX5_thingsWithClaims_73 ?_
            refine lv_istore_n (lv' := [(1, .int ((ctI (sThs F c) t) + 1)), (0, .ref (q 200)), (2, .int (nI t)), (3, .int (bI (anyB (sTh F t) c))), (4, .int (nI c))]) hx hb dX5_thingsWithClaims_74 rfl hl (by decide) rfl (fun ls hl => ?_)
            refine lv_iinc (v := ((nI t) + 1)) (lv' := [(2, .int ((nI t) + 1)), (1, .int ((ctI (sThs F c) t) + 1)), (0, .ref (q 200)), (3, .int (bI (anyB (sTh F t) c))), (4, .int (nI c))]) hx hb dX5_thingsWithClaims_75 hl (k := 2) rfl rfl (by decide) rfl (fun ls hl => ?_)
            refine lv_goto (tgt := 4) hx hb dX5_thingsWithClaims_78 (by decide) ?_
            have h_12 : ((ctI (sThs F c) t) + 1) = (ctI (sThs F c) (t + 1)) := (by simp [ctI, sThs, c_3, c_4, c_5, c_6, b_11])
            have h_13 : ((nI t) + 1) = (nI (t + 1)) := (nI_1 _)
            exact ih _ (lv_cast (lv_sub (l' := [(0, .ref (q 200)), (1, .int ((ctI (sThs F c) t) + 1)), (2, .int ((nI t) + 1))]) hl [2, 1, 0] rfl) (cg2 (fun z12 z13 => [(0, .ref (q 200)), (1, .int z12), (2, .int z13)]) h_12 h_13))
        · exact absurd (nI_le (Nat.le_refl _) (by omega)) c_5
      · intro k hk0 hk ih2 ls hl
        have hl : lv_has ls 5 [(0, .ref (q 200)), (1, .int (ctI (sThs F c) t)), (2, .int (nI t)), (3, .int (bI (anyB (sTh F t) k))), (4, .int (nI k))] := hl
        refine lv_iload hx hb dX5_thingsWithClaims_17 (lv_at hl 4 rfl) ?_
        refine lv_aload_n hx hb dX5_thingsWithClaims_19 rfl (lv_at hl 0 rfl) ?_
        refine va_get (D := D) (ci := 5) (v := .int (nI c)) (C := RX5) (T := TX5) (N := 21) hx hb hts (fun _ h => List.mem_cons_of_mem _ (List.mem_append_right _ h)) hown hK hP 0 rfl rfl 8 (by decide) (hts (.fieldLink RX5 102 "UnderPromiseModel" "claims" "I") (List.mem_of_getElem? (i := 2) rfl)) (fun _ h9 => h9) rfl dX5_thingsWithClaims_20 ?_
        refine lv_icmp_ge (tgt := 63) hx hb dX5_thingsWithClaims_23 (by decide) (fun c_14 => ?_) (fun c_14 => ?_)
        · exact absurd c_14 (nI_ge hk (by omega))
        · have c_15 := i_nle c_14
          refine lv_iload_n hx hb dX5_thingsWithClaims_26 rfl (lv_at hl 3 rfl) ?_
          refine lv_if_ne (tgt := 51) hx hb dX5_thingsWithClaims_27 (by decide) (fun c_16 => ?_) (fun c_16 => ?_)
          · have b_17 : (anyB (sTh F t) k) = true := bI_t c_16
            refine lv_iconst (v := 1) hx hb dX5_thingsWithClaims_51 (by decide) ?_
            refine lv_goto (tgt := 56) hx hb dX5_thingsWithClaims_52 (by decide) ?_
            refine lv_istore_n (lv' := [(3, .int 1), (0, .ref (q 200)), (1, .int (ctI (sThs F c) t)), (2, .int (nI t)), (4, .int (nI k))]) hx hb dX5_thingsWithClaims_56 rfl hl (by decide) rfl (fun ls hl => ?_)
            refine lv_iinc (v := ((nI k) + 1)) (lv' := [(4, .int ((nI k) + 1)), (3, .int 1), (0, .ref (q 200)), (1, .int (ctI (sThs F c) t)), (2, .int (nI t))]) hx hb dX5_thingsWithClaims_57 hl (k := 4) rfl rfl (by decide) rfl (fun ls hl => ?_)
            refine lv_goto (tgt := 17) hx hb dX5_thingsWithClaims_60 (by decide) ?_
            have h_18 : 1 = (bI (anyB (sTh F t) (k + 1))) := (by first | with_reducible rfl | simp [anyB, sTh, bI, c_3, c_4, c_14, c_15, b_17])
            have h_19 : ((nI k) + 1) = (nI (k + 1)) := (nI_1 _)
            exact ih2 _ (lv_cast (lv_sub (l' := [(0, .ref (q 200)), (1, .int (ctI (sThs F c) t)), (2, .int (nI t)), (3, .int 1), (4, .int ((nI k) + 1))]) hl [2, 3, 4, 1, 0] rfl) (cg2 (fun z18 z19 => [(0, .ref (q 200)), (1, .int (ctI (sThs F c) t)), (2, .int (nI t)), (3, .int z18), (4, .int z19)]) h_18 h_19))
          · have b_20 : (anyB (sTh F t) k) = false := bI_f c_16
            refine lv_aload_n hx hb dX5_thingsWithClaims_30 rfl (lv_at hl 0 rfl) ?_
            refine va_get (D := D) (ci := 5) (v := .ref (q 212)) (C := RX5) (T := TX5) (N := 21) hx hb hts (fun _ h => List.mem_cons_of_mem _ (List.mem_append_right _ h)) hown hK hP 0 rfl rfl 14 (by decide) (hts (.fieldLink RX5 47 "UnderPromiseModel" "judged" "[I") (List.mem_of_getElem? (i := 3) rfl)) (fun _ h9 => h9) rfl dX5_thingsWithClaims_31 ?_
            refine lv_iload hx hb dX5_thingsWithClaims_34 (lv_at hl 4 rfl) ?_
            refine iaK (v := (F 11 k)) hx hb hK hP 12 0 rfl rfl k (vp_in_nI (by omega) (by decide)) (nI_clamp (by omega)) rfl dX5_thingsWithClaims_36 ?_
            refine lv_if_ne (tgt := 55) hx hb dX5_thingsWithClaims_37 (by decide) (fun c_21 => ?_) (fun c_21 => ?_)
            · refine lv_iconst (v := 0) hx hb dX5_thingsWithClaims_55 (by decide) ?_
              refine lv_istore_n (lv' := [(3, .int 0), (0, .ref (q 200)), (1, .int (ctI (sThs F c) t)), (2, .int (nI t)), (4, .int (nI k))]) hx hb dX5_thingsWithClaims_56 rfl hl (by decide) rfl (fun ls hl => ?_)
              refine lv_iinc (v := ((nI k) + 1)) (lv' := [(4, .int ((nI k) + 1)), (3, .int 0), (0, .ref (q 200)), (1, .int (ctI (sThs F c) t)), (2, .int (nI t))]) hx hb dX5_thingsWithClaims_57 hl (k := 4) rfl rfl (by decide) rfl (fun ls hl => ?_)
              refine lv_goto (tgt := 17) hx hb dX5_thingsWithClaims_60 (by decide) ?_
              have h_22 : 0 = (bI (anyB (sTh F t) (k + 1))) := (by first | with_reducible rfl | simp [anyB, sTh, bI, c_3, c_4, c_14, c_15, b_20, c_21])
              have h_23 : ((nI k) + 1) = (nI (k + 1)) := (nI_1 _)
              exact ih2 _ (lv_cast (lv_sub (l' := [(0, .ref (q 200)), (1, .int (ctI (sThs F c) t)), (2, .int (nI t)), (3, .int 0), (4, .int ((nI k) + 1))]) hl [2, 3, 4, 1, 0] rfl) (cg2 (fun z22 z23 => [(0, .ref (q 200)), (1, .int (ctI (sThs F c) t)), (2, .int (nI t)), (3, .int z22), (4, .int z23)]) h_22 h_23))
            · refine lv_aload_n hx hb dX5_thingsWithClaims_40 rfl (lv_at hl 0 rfl) ?_
              refine va_get (D := D) (ci := 5) (v := .ref (q 207)) (C := RX5) (T := TX5) (N := 21) hx hb hts (fun _ h => List.mem_cons_of_mem _ (List.mem_append_right _ h)) hown hK hP 0 rfl rfl 9 (by decide) (hts (.fieldLink RX5 32 "UnderPromiseModel" "ofThing" "[I") (List.mem_of_getElem? (i := 4) rfl)) (fun _ h9 => h9) rfl dX5_thingsWithClaims_41 ?_
              refine lv_iload hx hb dX5_thingsWithClaims_44 (lv_at hl 4 rfl) ?_
              refine iaK (v := (F 6 k)) hx hb hK hP 7 0 rfl rfl k (vp_in_nI (by omega) (by decide)) (nI_clamp (by omega)) rfl dX5_thingsWithClaims_46 ?_
              refine lv_iload_n hx hb dX5_thingsWithClaims_47 rfl (lv_at hl 2 rfl) ?_
              refine lv_icmp_ne (tgt := 55) hx hb dX5_thingsWithClaims_48 (by decide) (fun c_24 => ?_) (fun c_24 => ?_)
              · refine lv_iconst (v := 0) hx hb dX5_thingsWithClaims_55 (by decide) ?_
                refine lv_istore_n (lv' := [(3, .int 0), (0, .ref (q 200)), (1, .int (ctI (sThs F c) t)), (2, .int (nI t)), (4, .int (nI k))]) hx hb dX5_thingsWithClaims_56 rfl hl (by decide) rfl (fun ls hl => ?_)
                refine lv_iinc (v := ((nI k) + 1)) (lv' := [(4, .int ((nI k) + 1)), (3, .int 0), (0, .ref (q 200)), (1, .int (ctI (sThs F c) t)), (2, .int (nI t))]) hx hb dX5_thingsWithClaims_57 hl (k := 4) rfl rfl (by decide) rfl (fun ls hl => ?_)
                refine lv_goto (tgt := 17) hx hb dX5_thingsWithClaims_60 (by decide) ?_
                have h_25 : 0 = (bI (anyB (sTh F t) (k + 1))) := (by first | with_reducible rfl | simp [anyB, sTh, bI, c_3, c_4, c_14, c_15, b_20, c_21, c_24])
                have h_26 : ((nI k) + 1) = (nI (k + 1)) := (nI_1 _)
                exact ih2 _ (lv_cast (lv_sub (l' := [(0, .ref (q 200)), (1, .int (ctI (sThs F c) t)), (2, .int (nI t)), (3, .int 0), (4, .int ((nI k) + 1))]) hl [2, 3, 4, 1, 0] rfl) (cg2 (fun z25 z26 => [(0, .ref (q 200)), (1, .int (ctI (sThs F c) t)), (2, .int (nI t)), (3, .int z25), (4, .int z26)]) h_25 h_26))
              · refine lv_iconst (v := 1) hx hb dX5_thingsWithClaims_51 (by decide) ?_
                refine lv_goto (tgt := 56) hx hb dX5_thingsWithClaims_52 (by decide) ?_
                refine lv_istore_n (lv' := [(3, .int 1), (0, .ref (q 200)), (1, .int (ctI (sThs F c) t)), (2, .int (nI t)), (4, .int (nI k))]) hx hb dX5_thingsWithClaims_56 rfl hl (by decide) rfl (fun ls hl => ?_)
                refine lv_iinc (v := ((nI k) + 1)) (lv' := [(4, .int ((nI k) + 1)), (3, .int 1), (0, .ref (q 200)), (1, .int (ctI (sThs F c) t)), (2, .int (nI t))]) hx hb dX5_thingsWithClaims_57 hl (k := 4) rfl rfl (by decide) rfl (fun ls hl => ?_)
                refine lv_goto (tgt := 17) hx hb dX5_thingsWithClaims_60 (by decide) ?_
                have h_27 : 1 = (bI (anyB (sTh F t) (k + 1))) := (by first | with_reducible rfl | simp [anyB, sTh, bI, c_3, c_4, c_14, c_15, b_20, c_21, c_24])
                have h_28 : ((nI k) + 1) = (nI (k + 1)) := (nI_1 _)
                exact ih2 _ (lv_cast (lv_sub (l' := [(0, .ref (q 200)), (1, .int (ctI (sThs F c) t)), (2, .int (nI t)), (3, .int 1), (4, .int ((nI k) + 1))]) hl [2, 3, 4, 1, 0] rfl) (cg2 (fun z27 z28 => [(0, .ref (q 200)), (1, .int (ctI (sThs F c) t)), (2, .int (nI t)), (3, .int z27), (4, .int z28)]) h_27 h_28))
set_option maxHeartbeats 4000000 in
set_option maxRecDepth 100000 in
/-- X5_count -/
theorem c_X5_count (l : Launch) (D : va_G) (cs : Nat → ClassId) (q : Nat → Nat) (F : Nat → Nat → Int32) (n c : Nat) (g : Int32) (up lo : Int64) (x : Int32) (hI : Inv F n c) : Met l yX5_count wsX5_count ({ frames := 1, cells := 0, slots := 0, locals := 24 }) (va_Pc [.ref (q 200), .int x] (pw D cs (mW q cs F n c g up lo))) (vp_Si (fun r => r = (aCount F n c x))) 0 0 (fun _ => False) := by
  refine Met.ofW (cc := cX5_count) (maxL := 2) (ret := (some .int)) (by decide) rfl ?_
  intro p e s m args below meth c_ s₁ B hml hv
  obtain ⟨rfl, hP, hK, hN⟩ := hv
  have hx := B.exec
  have hb := B.bytes
  have hr := B.returns
  have hts := atoms_spec (ws := wsX5_count) B.pre
  have hown : s.vm.findClass RX5 = some m.cls := findClass_of_methodNamed B.named
  have hlocks := B.notSynchronized
  have hl := lv_entry ([.ref (q 200), .int x]) (n := 2) (Nat.le_of_ble_eq_true rfl)
  rw [lg_entry_eq]
  generalize (lg_sl ([.ref (q 200), .int x]) ++ List.replicate (2 - (lg_sl ([.ref (q 200), .int x])).length) Slot.unset).toArray = ls at hl ⊢
  have hl : lv_has ls 2 [(0, .ref (q 200)), (1, .int x)] := hl
  have hn60 := hI.n60
  have hc100 := hI.c100
  refine lv_iload_n hx hb dX5_count_0 rfl (lv_at hl 1 rfl) ?_
  rcases Classical.em (x = 0) with w_1 | w_1
  · subst w_1
    refine lv_tableIn (tgt := 52) hx hb dX5_count_1 (by decide) (by decide) (off := 51) (by decide) (by decide) ?_
    refine lv_aload_n hx hb dX5_count_52 rfl (lv_at hl 0 rfl) ?_
    refine va_get (D := D) (ci := 5) (v := .int (nI n)) (C := RX5) (T := TX5) (N := 21) hx hb hts (fun _ h => List.mem_cons_of_mem _ (List.mem_append_right _ h)) hown hK hP 0 rfl rfl 2 (by decide) (hts (.fieldLink RX5 70 "UnderPromiseModel" "things" "I") (List.mem_of_getElem? (i := 1) rfl)) (fun _ h9 => h9) rfl dX5_count_53 ?_
    exact W.iret (v := (nI n)) hx hb hr (fun t9 ht9 hW9 => ⟨(nI n), rfl, (by first | with_reducible rfl | simp [aCount]), ht9⟩) (fun _ h => by cases h) dX5_count_56
  rcases Classical.em (x = 1) with w_2 | w_2
  · subst w_2
    refine lv_tableIn (tgt := 57) hx hb dX5_count_1 (by decide) (by decide) (off := 56) (by decide) (by decide) ?_
    refine lv_aload_n hx hb dX5_count_57 rfl (lv_at hl 0 rfl) ?_
    refine va_get (D := D) (ci := 5) (v := .int (nI c)) (C := RX5) (T := TX5) (N := 21) hx hb hts (fun _ h => List.mem_cons_of_mem _ (List.mem_append_right _ h)) hown hK hP 0 rfl rfl 8 (by decide) (hts (.fieldLink RX5 102 "UnderPromiseModel" "claims" "I") (List.mem_of_getElem? (i := 2) rfl)) (fun _ h9 => h9) rfl dX5_count_58 ?_
    exact W.iret (v := (nI c)) hx hb hr (fun t9 ht9 hW9 => ⟨(nI c), rfl, (by first | with_reducible rfl | simp [aCount, w_1]), ht9⟩) (fun _ h => by cases h) dX5_count_61
  rcases Classical.em (x = 2) with w_3 | w_3
  · subst w_3
    refine lv_tableIn (tgt := 62) hx hb dX5_count_1 (by decide) (by decide) (off := 61) (by decide) (by decide) ?_
    refine lv_aload_n hx hb dX5_count_62 rfl (lv_at hl 0 rfl) ?_
    refine lv_iconst (v := 0) hx hb dX5_count_63 (by decide) ?_
    refine roVi (As := [.int 0]) (rest := []) (v := (ctI (sJud F 0) c)) ⟨hx, hb, hml, hown, hts⟩ (c_X5_judgedAs l D cs q F n c g up lo 0 hI) (cwV 1 hts gX5_count_X5_judgedAs rfl rfl rfl (by decide +kernel) ⟨Nat.le_of_ble_eq_true rfl, Nat.le_of_ble_eq_true rfl⟩) hP hK hN 0 rfl rfl rfl hl.1 rfl (Nat.le_of_ble_eq_true rfl) dX5_count_64 ⟨Nat.zero_le _, Nat.zero_le _⟩ ?_
    exact W.iret (v := (ctI (sJud F 0) c)) hx hb hr (fun t9 ht9 hW9 => ⟨(ctI (sJud F 0) c), rfl, (by first | with_reducible rfl | simp [aCount, w_1, w_2]), ht9⟩) (fun _ h => by cases h) dX5_count_67
  rcases Classical.em (x = 3) with w_4 | w_4
  · subst w_4
    refine lv_tableIn (tgt := 68) hx hb dX5_count_1 (by decide) (by decide) (off := 67) (by decide) (by decide) ?_
    refine lv_aload_n hx hb dX5_count_68 rfl (lv_at hl 0 rfl) ?_
    refine lv_iconst (v := 1) hx hb dX5_count_69 (by decide) ?_
    refine roVi (As := [.int 1]) (rest := []) (v := (ctI (sJud F 1) c)) ⟨hx, hb, hml, hown, hts⟩ (c_X5_judgedAs l D cs q F n c g up lo 1 hI) (cwV 1 hts gX5_count_X5_judgedAs rfl rfl rfl (by decide +kernel) ⟨Nat.le_of_ble_eq_true rfl, Nat.le_of_ble_eq_true rfl⟩) hP hK hN 0 rfl rfl rfl hl.1 rfl (Nat.le_of_ble_eq_true rfl) dX5_count_70 ⟨Nat.zero_le _, Nat.zero_le _⟩ ?_
    exact W.iret (v := (ctI (sJud F 1) c)) hx hb hr (fun t9 ht9 hW9 => ⟨(ctI (sJud F 1) c), rfl, (by first | with_reducible rfl | simp [aCount, w_1, w_2, w_3]), ht9⟩) (fun _ h => by cases h) dX5_count_73
  rcases Classical.em (x = 4) with w_5 | w_5
  · subst w_5
    refine lv_tableIn (tgt := 74) hx hb dX5_count_1 (by decide) (by decide) (off := 73) (by decide) (by decide) ?_
    refine lv_aload_n hx hb dX5_count_74 rfl (lv_at hl 0 rfl) ?_
    refine lv_iconst (v := 2) hx hb dX5_count_75 (by decide) ?_
    refine roVi (As := [.int 2]) (rest := []) (v := (ctI (sJud F 2) c)) ⟨hx, hb, hml, hown, hts⟩ (c_X5_judgedAs l D cs q F n c g up lo 2 hI) (cwV 1 hts gX5_count_X5_judgedAs rfl rfl rfl (by decide +kernel) ⟨Nat.le_of_ble_eq_true rfl, Nat.le_of_ble_eq_true rfl⟩) hP hK hN 0 rfl rfl rfl hl.1 rfl (Nat.le_of_ble_eq_true rfl) dX5_count_76 ⟨Nat.zero_le _, Nat.zero_le _⟩ ?_
    exact W.iret (v := (ctI (sJud F 2) c)) hx hb hr (fun t9 ht9 hW9 => ⟨(ctI (sJud F 2) c), rfl, (by first | with_reducible rfl | simp [aCount, w_1, w_2, w_3, w_4]), ht9⟩) (fun _ h => by cases h) dX5_count_79
  rcases Classical.em (x = 5) with w_6 | w_6
  · subst w_6
    refine lv_tableIn (tgt := 80) hx hb dX5_count_1 (by decide) (by decide) (off := 79) (by decide) (by decide) ?_
    refine lv_aload_n hx hb dX5_count_80 rfl (lv_at hl 0 rfl) ?_
    refine lv_iconst (v := 3) hx hb dX5_count_81 (by decide) ?_
    refine roVi (As := [.int 3]) (rest := []) (v := (ctI (sJud F 3) c)) ⟨hx, hb, hml, hown, hts⟩ (c_X5_judgedAs l D cs q F n c g up lo 3 hI) (cwV 1 hts gX5_count_X5_judgedAs rfl rfl rfl (by decide +kernel) ⟨Nat.le_of_ble_eq_true rfl, Nat.le_of_ble_eq_true rfl⟩) hP hK hN 0 rfl rfl rfl hl.1 rfl (Nat.le_of_ble_eq_true rfl) dX5_count_82 ⟨Nat.zero_le _, Nat.zero_le _⟩ ?_
    exact W.iret (v := (ctI (sJud F 3) c)) hx hb hr (fun t9 ht9 hW9 => ⟨(ctI (sJud F 3) c), rfl, (by first | with_reducible rfl | simp [aCount, w_1, w_2, w_3, w_4, w_5]), ht9⟩) (fun _ h => by cases h) dX5_count_85
  rcases Classical.em (x = 6) with w_7 | w_7
  · subst w_7
    refine lv_tableIn (tgt := 86) hx hb dX5_count_1 (by decide) (by decide) (off := 85) (by decide) (by decide) ?_
    refine lv_aload_n hx hb dX5_count_86 rfl (lv_at hl 0 rfl) ?_
    refine lv_iconst (v := 4) hx hb dX5_count_87 (by decide) ?_
    refine roVi (As := [.int 4]) (rest := []) (v := (ctI (sJud F 4) c)) ⟨hx, hb, hml, hown, hts⟩ (c_X5_judgedAs l D cs q F n c g up lo 4 hI) (cwV 1 hts gX5_count_X5_judgedAs rfl rfl rfl (by decide +kernel) ⟨Nat.le_of_ble_eq_true rfl, Nat.le_of_ble_eq_true rfl⟩) hP hK hN 0 rfl rfl rfl hl.1 rfl (Nat.le_of_ble_eq_true rfl) dX5_count_88 ⟨Nat.zero_le _, Nat.zero_le _⟩ ?_
    exact W.iret (v := (ctI (sJud F 4) c)) hx hb hr (fun t9 ht9 hW9 => ⟨(ctI (sJud F 4) c), rfl, (by first | with_reducible rfl | simp [aCount, w_1, w_2, w_3, w_4, w_5, w_6]), ht9⟩) (fun _ h => by cases h) dX5_count_91
  rcases Classical.em (x = 7) with w_8 | w_8
  · subst w_8
    refine lv_tableIn (tgt := 92) hx hb dX5_count_1 (by decide) (by decide) (off := 91) (by decide) (by decide) ?_
    refine lv_aload_n hx hb dX5_count_92 rfl (lv_at hl 0 rfl) ?_
    refine roVi (As := []) (rest := []) (v := (ctI (sThs F c) n)) ⟨hx, hb, hml, hown, hts⟩ (c_X5_thingsWithClaims l D cs q F n c g up lo  hI) (cwV 0 hts gX5_count_X5_thingsWithClaims rfl rfl rfl (by decide +kernel) ⟨Nat.le_of_ble_eq_true rfl, Nat.le_of_ble_eq_true rfl⟩) hP hK hN 0 rfl rfl rfl hl.1 rfl (Nat.le_of_ble_eq_true rfl) dX5_count_93 ⟨Nat.zero_le _, Nat.zero_le _⟩ ?_
    exact W.iret (v := (ctI (sThs F c) n)) hx hb hr (fun t9 ht9 hW9 => ⟨(ctI (sThs F c) n), rfl, (by first | with_reducible rfl | simp [aCount, w_1, w_2, w_3, w_4, w_5, w_6, w_7]), ht9⟩) (fun _ h => by cases h) dX5_count_96
  rcases Classical.em (x = 8) with w_9 | w_9
  · subst w_9
    refine lv_tableIn (tgt := 97) hx hb dX5_count_1 (by decide) (by decide) (off := 96) (by decide) (by decide) ?_
    refine lv_aload_n hx hb dX5_count_97 rfl (lv_at hl 0 rfl) ?_
    refine roVi (As := []) (rest := []) (v := (smI (sCost F) c)) ⟨hx, hb, hml, hown, hts⟩ (c_X5_letCosts l D cs q F n c g up lo  hI) (cwV 0 hts gX5_count_X5_letCosts rfl rfl rfl (by decide +kernel) ⟨Nat.le_of_ble_eq_true rfl, Nat.le_of_ble_eq_true rfl⟩) hP hK hN 0 rfl rfl rfl hl.1 rfl (Nat.le_of_ble_eq_true rfl) dX5_count_98 ⟨Nat.zero_le _, Nat.zero_le _⟩ ?_
    exact W.iret (v := (smI (sCost F) c)) hx hb hr (fun t9 ht9 hW9 => ⟨(smI (sCost F) c), rfl, (by first | with_reducible rfl | simp [aCount, w_1, w_2, w_3, w_4, w_5, w_6, w_7, w_8]), ht9⟩) (fun _ h => by cases h) dX5_count_101
  refine lv_tableOut (tgt := 102) hx hb dX5_count_1 (sw_out (lo := 0) (hi := 8) (by decide) (by decide) (by intro j h1 h2; rcases (by omega : j = 0 ∨ j = 1 ∨ j = 2 ∨ j = 3 ∨ j = 4 ∨ j = 5 ∨ j = 6 ∨ j = 7 ∨ j = 8) with rfl | rfl | rfl | rfl | rfl | rfl | rfl | rfl | rfl <;> assumption)) (by decide) ?_
  refine lv_bipush (v := (-2)) hx hb dX5_count_102 (by decide) ?_
  exact W.iret (v := (-2)) hx hb hr (fun t9 ht9 hW9 => ⟨(-2), rfl, (by first | with_reducible rfl | simp [aCount, w_1, w_2, w_3, w_4, w_5, w_6, w_7, w_8, w_9]), ht9⟩) (fun _ h => by cases h) dX5_count_104
set_option maxHeartbeats 4000000 in
set_option maxRecDepth 100000 in
/-- X5_digest -/
theorem c_X5_digest (l : Launch) (D : va_G) (cs : Nat → ClassId) (q : Nat → Nat) (F : Nat → Nat → Int32) (n c : Nat) (g : Int32) (up lo : Int64)  (hI : Inv F n c) : Met l yX5_digest wsX5_digest ({ frames := 2, cells := 0, slots := 0, locals := 46 }) (va_Pc [.ref (q 200)] (pw D cs (mW q cs F n c g up lo))) (vp_Sl (fun r => r = (aDigM F n c))) 0 0 (fun _ => False) := by
  refine Met.ofW (cc := cX5_digest) (maxL := 5) (ret := (some .long)) (by decide) rfl ?_
  intro p e s m args below meth c_ s₁ B hml hv
  obtain ⟨rfl, hP, hK, hN⟩ := hv
  have hx := B.exec
  have hb := B.bytes
  have hr := B.returns
  have hts := atoms_spec (ws := wsX5_digest) B.pre
  have hown : s.vm.findClass RX5 = some m.cls := findClass_of_methodNamed B.named
  have hlocks := B.notSynchronized
  have hl := lv_entry ([.ref (q 200)]) (n := 5) (Nat.le_of_ble_eq_true rfl)
  rw [lg_entry_eq]
  generalize (lg_sl ([.ref (q 200)]) ++ List.replicate (5 - (lg_sl ([.ref (q 200)])).length) Slot.unset).toArray = ls at hl ⊢
  have hl : lv_has ls 5 [(0, .ref (q 200))] := hl
  have hn60 := hI.n60
  have hc100 := hI.c100
  refine lv_ldc2 (v := 199) hx hb hown (hts (.constantLong RX5 198 (199)) (List.mem_of_getElem? (i := 1) rfl)) dX5_digest_0 ?_
  refine lv_lstore_n (lv' := [(1, .long 199), (0, .ref (q 200))]) hx hb dX5_digest_3 rfl hl (by decide) rfl (fun ls hl => ?_)
  refine lv_iconst (v := 0) hx hb dX5_digest_4 (by decide) ?_
  refine lv_istore_n (lv' := [(3, .int 0), (1, .long 199), (0, .ref (q 200))]) hx hb dX5_digest_5 rfl hl (by decide) rfl (fun ls hl => ?_)
  refine lpW (fun k ls => lv_has ls 5 [(0, .ref (q 200)), (1, .long (fdL (fun j => (aCount F n c (nI j)).toInt64) 199 k)), (3, .int (nI k))]) 9 0 (Nat.zero_le _) ls (show lv_has ls 5 [(0, .ref (q 200)), (1, .long (fdL (fun j => (aCount F n c (nI j)).toInt64) 199 0)), (3, .int (nI 0))] from lv_sub hl [2, 1, 0] rfl) ?_ ?_
  · intro ls hl
    have hl : lv_has ls 5 [(0, .ref (q 200)), (1, .long (fdL (fun j => (aCount F n c (nI j)).toInt64) 199 9)), (3, .int (nI 9))] := hl
    refine lv_iload_n hx hb dX5_digest_6 rfl (lv_at hl 2 rfl) ?_
    refine lv_bipush (v := 9) hx hb dX5_digest_7 (by decide) ?_
    refine lv_icmp_ge (tgt := 31) hx hb dX5_digest_9 (by decide) (fun c_1 => ?_) (fun c_1 => ?_)
    · have c_2 := i_le c_1
      refine lv_iconst (v := 0) hx hb dX5_digest_31 (by decide) ?_
      refine lv_istore_n (lv' := [(3, .int 0), (0, .ref (q 200)), (1, .long (fdL (fun j => (aCount F n c (nI j)).toInt64) 199 9))]) hx hb dX5_digest_32 rfl hl (by decide) rfl (fun ls hl => ?_)
      refine lpW (fun k ls => lv_has ls 5 [(0, .ref (q 200)), (1, .long (dgTM F (fdL (fun j => (aCount F n c (nI j)).toInt64) 199 9) k)), (3, .int (nI k))]) n 0 (Nat.zero_le _) ls (show lv_has ls 5 [(0, .ref (q 200)), (1, .long (dgTM F (fdL (fun j => (aCount F n c (nI j)).toInt64) 199 9) 0)), (3, .int (nI 0))] from lv_sub hl [1, 2, 0] rfl) ?_ ?_
      · intro ls hl
        have hl : lv_has ls 5 [(0, .ref (q 200)), (1, .long (dgTM F (fdL (fun j => (aCount F n c (nI j)).toInt64) 199 9) n)), (3, .int (nI n))] := hl
        refine lv_iload_n hx hb dX5_digest_33 rfl (lv_at hl 2 rfl) ?_
        refine lv_aload_n hx hb dX5_digest_34 rfl (lv_at hl 0 rfl) ?_
        refine va_get (D := D) (ci := 5) (v := .int (nI n)) (C := RX5) (T := TX5) (N := 21) hx hb hts (fun _ h => List.mem_cons_of_mem _ (List.mem_append_right _ h)) hown hK hP 0 rfl rfl 2 (by decide) (hts (.fieldLink RX5 70 "UnderPromiseModel" "things" "I") (List.mem_of_getElem? (i := 3) rfl)) (fun _ h9 => h9) rfl dX5_digest_35 ?_
        refine lv_icmp_ge (tgt := 116) hx hb dX5_digest_38 (by decide) (fun c_3 => ?_) (fun c_3 => ?_)
        · have c_4 := i_le c_3
          refine lv_iconst (v := 0) hx hb dX5_digest_116 (by decide) ?_
          refine lv_istore_n (lv' := [(3, .int 0), (0, .ref (q 200)), (1, .long (dgTM F (fdL (fun j => (aCount F n c (nI j)).toInt64) 199 9) n))]) hx hb dX5_digest_117 rfl hl (by decide) rfl (fun ls hl => ?_)
          refine lpW (fun k ls => lv_has ls 5 [(0, .ref (q 200)), (1, .long (dgC F (dgTM F (fdL (fun j => (aCount F n c (nI j)).toInt64) 199 9) n) k)), (3, .int (nI k))]) c 0 (Nat.zero_le _) ls (show lv_has ls 5 [(0, .ref (q 200)), (1, .long (dgC F (dgTM F (fdL (fun j => (aCount F n c (nI j)).toInt64) 199 9) n) 0)), (3, .int (nI 0))] from lv_sub hl [1, 2, 0] rfl) ?_ ?_
          · intro ls hl
            have hl : lv_has ls 5 [(0, .ref (q 200)), (1, .long (dgC F (dgTM F (fdL (fun j => (aCount F n c (nI j)).toInt64) 199 9) n) c)), (3, .int (nI c))] := hl
            refine lv_iload_n hx hb dX5_digest_118 rfl (lv_at hl 2 rfl) ?_
            refine lv_aload_n hx hb dX5_digest_119 rfl (lv_at hl 0 rfl) ?_
            refine va_get (D := D) (ci := 5) (v := .int (nI c)) (C := RX5) (T := TX5) (N := 21) hx hb hts (fun _ h => List.mem_cons_of_mem _ (List.mem_append_right _ h)) hown hK hP 0 rfl rfl 8 (by decide) (hts (.fieldLink RX5 102 "UnderPromiseModel" "claims" "I") (List.mem_of_getElem? (i := 8) rfl)) (fun _ h9 => h9) rfl dX5_digest_120 ?_
            refine lv_icmp_ge (tgt := 163) hx hb dX5_digest_123 (by decide) (fun c_5 => ?_) (fun c_5 => ?_)
            · have c_6 := i_le c_5
              refine lv_iconst (v := 0) hx hb dX5_digest_163 (by decide) ?_
              refine lv_istore_n (lv' := [(3, .int 0), (0, .ref (q 200)), (1, .long (dgC F (dgTM F (fdL (fun j => (aCount F n c (nI j)).toInt64) 199 9) n) c))]) hx hb dX5_digest_164 rfl hl (by decide) rfl (fun ls hl => ?_)
              refine lpW (fun k ls => lv_has ls 5 [(0, .ref (q 200)), (1, .long (dgP F (dgC F (dgTM F (fdL (fun j => (aCount F n c (nI j)).toInt64) 199 9) n) c) k)), (3, .int (nI k))]) 10 0 (Nat.zero_le _) ls (show lv_has ls 5 [(0, .ref (q 200)), (1, .long (dgP F (dgC F (dgTM F (fdL (fun j => (aCount F n c (nI j)).toInt64) 199 9) n) c) 0)), (3, .int (nI 0))] from lv_sub hl [1, 2, 0] rfl) ?_ ?_
              · intro ls hl
                have hl : lv_has ls 5 [(0, .ref (q 200)), (1, .long (dgP F (dgC F (dgTM F (fdL (fun j => (aCount F n c (nI j)).toInt64) 199 9) n) c) 10)), (3, .int (nI 10))] := hl
                refine lv_iload_n hx hb dX5_digest_165 rfl (lv_at hl 2 rfl) ?_
                refine lv_bipush (v := 10) hx hb dX5_digest_166 (by decide) ?_
                refine lv_icmp_ge (tgt := 219) hx hb dX5_digest_168 (by decide) (fun c_7 => ?_) (fun c_7 => ?_)
                · have c_8 := i_le c_7
                  refine lv_lload_n hx hb dX5_digest_219 rfl (lv_at hl 1 rfl) ?_
                  exact W.lret (v := (dgP F (dgC F (dgTM F (fdL (fun j => (aCount F n c (nI j)).toInt64) 199 9) n) c) 10)) hx hb hr (fun t9 ht9 hW9 => ⟨(dgP F (dgC F (dgTM F (fdL (fun j => (aCount F n c (nI j)).toInt64) 199 9) n) c) 10), rfl, rfl, ht9⟩) (fun _ h => by cases h) dX5_digest_220
                · exact absurd (nI_le (b := 10) (Nat.le_refl 10) (by decide)) c_7
              · intro k hk0 hk ih ls hl
                have hl : lv_has ls 5 [(0, .ref (q 200)), (1, .long (dgP F (dgC F (dgTM F (fdL (fun j => (aCount F n c (nI j)).toInt64) 199 9) n) c) k)), (3, .int (nI k))] := hl
                refine lv_iload_n hx hb dX5_digest_165 rfl (lv_at hl 2 rfl) ?_
                refine lv_bipush (v := 10) hx hb dX5_digest_166 (by decide) ?_
                refine lv_icmp_ge (tgt := 219) hx hb dX5_digest_168 (by decide) (fun c_9 => ?_) (fun c_9 => ?_)
                · exact absurd c_9 (nI_ge (b := 10) hk (by decide))
                · have c_10 := i_nle c_9
                  refine lv_ldc2 (v := 31) hx hb hown (hts (.constantLong RX5 200 (31)) (List.mem_of_getElem? (i := 2) rfl)) dX5_digest_171 ?_
                  refine lv_lload_n hx hb dX5_digest_174 rfl (lv_at hl 1 rfl) ?_
                  refine lv_lmul hx hb dX5_digest_175 ?_
                  refine lv_aload_n hx hb dX5_digest_176 rfl (lv_at hl 0 rfl) ?_
                  refine va_get (D := D) (ci := 5) (v := .ref (q 214)) (C := RX5) (T := TX5) (N := 21) hx hb hts (fun _ h => List.mem_cons_of_mem _ (List.mem_append_right _ h)) hown hK hP 0 rfl rfl 18 (by decide) (hts (.fieldLink RX5 54 "UnderPromiseModel" "above" "[I") (List.mem_of_getElem? (i := 9) rfl)) (fun _ h9 => h9) rfl dX5_digest_177 ?_
                  refine lv_iload_n hx hb dX5_digest_180 rfl (lv_at hl 2 rfl) ?_
                  refine iaK (v := (F 12 k)) hx hb hK hP 14 0 rfl rfl k (vp_in_nI (by omega) (by decide)) (nI_clamp (by omega)) rfl dX5_digest_181 ?_
                  refine lv_i2l (v := (Int32.toInt64 (F 12 k))) hx hb dX5_digest_182 rfl ?_
                  refine lv_ladd hx hb dX5_digest_183 ?_
                  refine lv_lstore_n (lv' := [(1, .long ((31 * (dgP F (dgC F (dgTM F (fdL (fun j => (aCount F n c (nI j)).toInt64) 199 9) n) c) k)) + (Int32.toInt64 (F 12 k)))), (0, .ref (q 200)), (3, .int (nI k))]) hx hb dX5_digest_184 rfl hl (by decide) rfl (fun ls hl => ?_)
                  refine lv_ldc2 (v := 31) hx hb hown (hts (.constantLong RX5 200 (31)) (List.mem_of_getElem? (i := 2) rfl)) dX5_digest_185 ?_
                  refine lv_lload_n hx hb dX5_digest_188 rfl (lv_at hl 0 rfl) ?_
                  refine lv_lmul hx hb dX5_digest_189 ?_
                  refine lv_aload_n hx hb dX5_digest_190 rfl (lv_at hl 1 rfl) ?_
                  refine va_get (D := D) (ci := 5) (v := .ref (q 215)) (C := RX5) (T := TX5) (N := 21) hx hb hts (fun _ h => List.mem_cons_of_mem _ (List.mem_append_right _ h)) hown hK hP 0 rfl rfl 19 (by decide) (hts (.fieldLink RX5 57 "UnderPromiseModel" "maker" "[I") (List.mem_of_getElem? (i := 10) rfl)) (fun _ h9 => h9) rfl dX5_digest_191 ?_
                  refine lv_iload_n hx hb dX5_digest_194 rfl (lv_at hl 2 rfl) ?_
                  refine iaK (v := (F 13 k)) hx hb hK hP 15 0 rfl rfl k (vp_in_nI (by omega) (by decide)) (nI_clamp (by omega)) rfl dX5_digest_195 ?_
                  refine lv_i2l (v := (Int32.toInt64 (F 13 k))) hx hb dX5_digest_196 rfl ?_
                  refine lv_ladd hx hb dX5_digest_197 ?_
                  refine lv_lstore_n (lv' := [(1, .long ((31 * ((31 * (dgP F (dgC F (dgTM F (fdL (fun j => (aCount F n c (nI j)).toInt64) 199 9) n) c) k)) + (Int32.toInt64 (F 12 k)))) + (Int32.toInt64 (F 13 k)))), (0, .ref (q 200)), (3, .int (nI k))]) hx hb dX5_digest_198 rfl hl (by decide) rfl (fun ls hl => ?_)
                  refine lv_ldc2 (v := 31) hx hb hown (hts (.constantLong RX5 200 (31)) (List.mem_of_getElem? (i := 2) rfl)) dX5_digest_199 ?_
                  refine lv_lload_n hx hb dX5_digest_202 rfl (lv_at hl 0 rfl) ?_
                  refine lv_lmul hx hb dX5_digest_203 ?_
                  refine lv_aload_n hx hb dX5_digest_204 rfl (lv_at hl 1 rfl) ?_
                  refine va_get (D := D) (ci := 5) (v := .ref (q 216)) (C := RX5) (T := TX5) (N := 21) hx hb hts (fun _ h => List.mem_cons_of_mem _ (List.mem_append_right _ h)) hown hK hP 0 rfl rfl 20 (by decide) (hts (.fieldLink RX5 60 "UnderPromiseModel" "share" "[I") (List.mem_of_getElem? (i := 11) rfl)) (fun _ h9 => h9) rfl dX5_digest_205 ?_
                  refine lv_iload_n hx hb dX5_digest_208 rfl (lv_at hl 2 rfl) ?_
                  refine iaK (v := (F 14 k)) hx hb hK hP 16 0 rfl rfl k (vp_in_nI (by omega) (by decide)) (nI_clamp (by omega)) rfl dX5_digest_209 ?_
                  refine lv_i2l (v := (Int32.toInt64 (F 14 k))) hx hb dX5_digest_210 rfl ?_
                  refine lv_ladd hx hb dX5_digest_211 ?_
                  refine lv_lstore_n (lv' := [(1, .long ((31 * ((31 * ((31 * (dgP F (dgC F (dgTM F (fdL (fun j => (aCount F n c (nI j)).toInt64) 199 9) n) c) k)) + (Int32.toInt64 (F 12 k)))) + (Int32.toInt64 (F 13 k)))) + (Int32.toInt64 (F 14 k)))), (0, .ref (q 200)), (3, .int (nI k))]) hx hb dX5_digest_212 rfl hl (by decide) rfl (fun ls hl => ?_)
                  refine lv_iinc (v := ((nI k) + 1)) (lv' := [(3, .int ((nI k) + 1)), (1, .long ((31 * ((31 * ((31 * (dgP F (dgC F (dgTM F (fdL (fun j => (aCount F n c (nI j)).toInt64) 199 9) n) c) k)) + (Int32.toInt64 (F 12 k)))) + (Int32.toInt64 (F 13 k)))) + (Int32.toInt64 (F 14 k)))), (0, .ref (q 200))]) hx hb dX5_digest_213 hl (k := 2) rfl rfl (by decide) rfl (fun ls hl => ?_)
                  refine lv_goto (tgt := 165) hx hb dX5_digest_216 (by decide) ?_
                  have h_11 : ((31 * ((31 * ((31 * (dgP F (dgC F (dgTM F (fdL (fun j => (aCount F n c (nI j)).toInt64) 199 9) n) c) k)) + (Int32.toInt64 (F 12 k)))) + (Int32.toInt64 (F 13 k)))) + (Int32.toInt64 (F 14 k))) = (dgP F (dgC F (dgTM F (fdL (fun j => (aCount F n c (nI j)).toInt64) 199 9) n) c) (k + 1)) := rfl
                  have h_12 : ((nI k) + 1) = (nI (k + 1)) := (nI_1 _)
                  exact ih _ (lv_cast (lv_sub (l' := [(0, .ref (q 200)), (1, .long ((31 * ((31 * ((31 * (dgP F (dgC F (dgTM F (fdL (fun j => (aCount F n c (nI j)).toInt64) 199 9) n) c) k)) + (Int32.toInt64 (F 12 k)))) + (Int32.toInt64 (F 13 k)))) + (Int32.toInt64 (F 14 k)))), (3, .int ((nI k) + 1))]) hl [2, 1, 0] rfl) (cg2 (fun z11 z12 => [(0, .ref (q 200)), (1, .long z11), (3, .int z12)]) h_11 h_12))
            · exact absurd (nI_le (Nat.le_refl _) (by omega)) c_5
          · intro k hk0 hk ih ls hl
            have hl : lv_has ls 5 [(0, .ref (q 200)), (1, .long (dgC F (dgTM F (fdL (fun j => (aCount F n c (nI j)).toInt64) 199 9) n) k)), (3, .int (nI k))] := hl
            refine lv_iload_n hx hb dX5_digest_118 rfl (lv_at hl 2 rfl) ?_
            refine lv_aload_n hx hb dX5_digest_119 rfl (lv_at hl 0 rfl) ?_
            refine va_get (D := D) (ci := 5) (v := .int (nI c)) (C := RX5) (T := TX5) (N := 21) hx hb hts (fun _ h => List.mem_cons_of_mem _ (List.mem_append_right _ h)) hown hK hP 0 rfl rfl 8 (by decide) (hts (.fieldLink RX5 102 "UnderPromiseModel" "claims" "I") (List.mem_of_getElem? (i := 8) rfl)) (fun _ h9 => h9) rfl dX5_digest_120 ?_
            refine lv_icmp_ge (tgt := 163) hx hb dX5_digest_123 (by decide) (fun c_13 => ?_) (fun c_13 => ?_)
            · exact absurd c_13 (nI_ge hk (by omega))
            · have c_14 := i_nle c_13
              refine lv_iconst (v := 0) hx hb dX5_digest_126 (by decide) ?_
              refine lv_istore (lv' := [(4, .int 0), (0, .ref (q 200)), (1, .long (dgC F (dgTM F (fdL (fun j => (aCount F n c (nI j)).toInt64) 199 9) n) k)), (3, .int (nI k))]) hx hb dX5_digest_127 hl (by decide) rfl (fun ls hl => ?_)
              refine lpW (fun j ls => lv_has ls 5 [(0, .ref (q 200)), (3, .int (nI k)), (1, .long (fdL (fun j => (sTell F k (nI j)).toInt64) (dgC F (dgTM F (fdL (fun j => (aCount F n c (nI j)).toInt64) 199 9) n) k) j)), (4, .int (nI j))]) 7 0 (Nat.zero_le _) ls (show lv_has ls 5 [(0, .ref (q 200)), (3, .int (nI k)), (1, .long (fdL (fun j => (sTell F k (nI j)).toInt64) (dgC F (dgTM F (fdL (fun j => (aCount F n c (nI j)).toInt64) 199 9) n) k) 0)), (4, .int (nI 0))] from lv_sub hl [1, 3, 2, 0] rfl) ?_ ?_
              · intro ls hl
                have hl : lv_has ls 5 [(0, .ref (q 200)), (3, .int (nI k)), (1, .long (fdL (fun j => (sTell F k (nI j)).toInt64) (dgC F (dgTM F (fdL (fun j => (aCount F n c (nI j)).toInt64) 199 9) n) k) 7)), (4, .int (nI 7))] := hl
                refine lv_iload hx hb dX5_digest_129 (lv_at hl 3 rfl) ?_
                refine lv_bipush (v := 7) hx hb dX5_digest_131 (by decide) ?_
                refine lv_icmp_ge (tgt := 157) hx hb dX5_digest_133 (by decide) (fun c_15 => ?_) (fun c_15 => ?_)
                · have c_16 := i_le c_15
                  refine lv_iinc (v := ((nI k) + 1)) (lv' := [(3, .int ((nI k) + 1)), (0, .ref (q 200)), (1, .long (fdL (fun j => (sTell F k (nI j)).toInt64) (dgC F (dgTM F (fdL (fun j => (aCount F n c (nI j)).toInt64) 199 9) n) k) 7)), (4, .int (nI 7))]) hx hb dX5_digest_157 hl (k := 1) rfl rfl (by decide) rfl (fun ls hl => ?_)
                  refine lv_goto (tgt := 118) hx hb dX5_digest_160 (by decide) ?_
                  have h_17 : (fdL (fun j => (sTell F k (nI j)).toInt64) (dgC F (dgTM F (fdL (fun j => (aCount F n c (nI j)).toInt64) 199 9) n) k) 7) = (dgC F (dgTM F (fdL (fun j => (aCount F n c (nI j)).toInt64) 199 9) n) (k + 1)) := rfl
                  have h_18 : ((nI k) + 1) = (nI (k + 1)) := (nI_1 _)
                  exact ih _ (lv_cast (lv_sub (l' := [(0, .ref (q 200)), (1, .long (fdL (fun j => (sTell F k (nI j)).toInt64) (dgC F (dgTM F (fdL (fun j => (aCount F n c (nI j)).toInt64) 199 9) n) k) 7)), (3, .int ((nI k) + 1))]) hl [1, 2, 0] rfl) (cg2 (fun z17 z18 => [(0, .ref (q 200)), (1, .long z17), (3, .int z18)]) h_17 h_18))
                · exact absurd (nI_le (b := 7) (Nat.le_refl 7) (by decide)) c_15
              · intro j hj0 hj ih2 ls hl
                have hl : lv_has ls 5 [(0, .ref (q 200)), (3, .int (nI k)), (1, .long (fdL (fun j => (sTell F k (nI j)).toInt64) (dgC F (dgTM F (fdL (fun j => (aCount F n c (nI j)).toInt64) 199 9) n) k) j)), (4, .int (nI j))] := hl
                refine lv_iload hx hb dX5_digest_129 (lv_at hl 3 rfl) ?_
                refine lv_bipush (v := 7) hx hb dX5_digest_131 (by decide) ?_
                refine lv_icmp_ge (tgt := 157) hx hb dX5_digest_133 (by decide) (fun c_19 => ?_) (fun c_19 => ?_)
                · exact absurd c_19 (nI_ge (b := 7) hj (by decide))
                · have c_20 := i_nle c_19
                  refine lv_ldc2 (v := 31) hx hb hown (hts (.constantLong RX5 200 (31)) (List.mem_of_getElem? (i := 2) rfl)) dX5_digest_136 ?_
                  refine lv_lload_n hx hb dX5_digest_139 rfl (lv_at hl 2 rfl) ?_
                  refine lv_lmul hx hb dX5_digest_140 ?_
                  refine lv_aload_n hx hb dX5_digest_141 rfl (lv_at hl 0 rfl) ?_
                  refine lv_iload_n hx hb dX5_digest_142 rfl (lv_at hl 1 rfl) ?_
                  refine lv_iload hx hb dX5_digest_143 (lv_at hl 3 rfl) ?_
                  refine roVi (As := [.int (nI k), .int (nI j)]) (rest := [.long (31 * (fdL (fun j => (sTell F k (nI j)).toInt64) (dgC F (dgTM F (fdL (fun j => (aCount F n c (nI j)).toInt64) 199 9) n) k) j))]) (v := (sTell F k (nI j))) ⟨hx, hb, hml, hown, hts⟩ (c_X5_aboutOf l D cs q F n c g up lo k (nI j) hI (by omega)) (cwV 2 hts gX5_digest_X5_aboutOf rfl rfl rfl (by decide +kernel) ⟨Nat.le_of_ble_eq_true rfl, Nat.le_of_ble_eq_true rfl⟩) hP hK hN 0 rfl rfl rfl hl.1 rfl (Nat.le_of_ble_eq_true rfl) dX5_digest_145 ⟨Nat.zero_le _, Nat.zero_le _⟩ ?_
                  refine lv_i2l (v := (Int32.toInt64 (sTell F k (nI j)))) hx hb dX5_digest_148 rfl ?_
                  refine lv_ladd hx hb dX5_digest_149 ?_
                  refine lv_lstore_n (lv' := [(1, .long ((31 * (fdL (fun j => (sTell F k (nI j)).toInt64) (dgC F (dgTM F (fdL (fun j => (aCount F n c (nI j)).toInt64) 199 9) n) k) j)) + (Int32.toInt64 (sTell F k (nI j))))), (0, .ref (q 200)), (3, .int (nI k)), (4, .int (nI j))]) hx hb dX5_digest_150 rfl hl (by decide) rfl (fun ls hl => ?_)
                  refine lv_iinc (v := ((nI j) + 1)) (lv' := [(4, .int ((nI j) + 1)), (1, .long ((31 * (fdL (fun j => (sTell F k (nI j)).toInt64) (dgC F (dgTM F (fdL (fun j => (aCount F n c (nI j)).toInt64) 199 9) n) k) j)) + (Int32.toInt64 (sTell F k (nI j))))), (0, .ref (q 200)), (3, .int (nI k))]) hx hb dX5_digest_151 hl (k := 3) rfl rfl (by decide) rfl (fun ls hl => ?_)
                  refine lv_goto (tgt := 129) hx hb dX5_digest_154 (by decide) ?_
                  have h_21 : ((31 * (fdL (fun j => (sTell F k (nI j)).toInt64) (dgC F (dgTM F (fdL (fun j => (aCount F n c (nI j)).toInt64) 199 9) n) k) j)) + (Int32.toInt64 (sTell F k (nI j)))) = (fdL (fun j => (sTell F k (nI j)).toInt64) (dgC F (dgTM F (fdL (fun j => (aCount F n c (nI j)).toInt64) 199 9) n) k) (j + 1)) := rfl
                  have h_22 : ((nI j) + 1) = (nI (j + 1)) := (nI_1 _)
                  exact ih2 _ (lv_cast (lv_sub (l' := [(0, .ref (q 200)), (3, .int (nI k)), (1, .long ((31 * (fdL (fun j => (sTell F k (nI j)).toInt64) (dgC F (dgTM F (fdL (fun j => (aCount F n c (nI j)).toInt64) 199 9) n) k) j)) + (Int32.toInt64 (sTell F k (nI j))))), (4, .int ((nI j) + 1))]) hl [2, 3, 1, 0] rfl) (cg2 (fun z21 z22 => [(0, .ref (q 200)), (3, .int (nI k)), (1, .long z21), (4, .int z22)]) h_21 h_22))
        · exact absurd (nI_le (Nat.le_refl _) (by omega)) c_3
      · intro k hk0 hk ih ls hl
        have hl : lv_has ls 5 [(0, .ref (q 200)), (1, .long (dgTM F (fdL (fun j => (aCount F n c (nI j)).toInt64) 199 9) k)), (3, .int (nI k))] := hl
        refine lv_iload_n hx hb dX5_digest_33 rfl (lv_at hl 2 rfl) ?_
        refine lv_aload_n hx hb dX5_digest_34 rfl (lv_at hl 0 rfl) ?_
        refine va_get (D := D) (ci := 5) (v := .int (nI n)) (C := RX5) (T := TX5) (N := 21) hx hb hts (fun _ h => List.mem_cons_of_mem _ (List.mem_append_right _ h)) hown hK hP 0 rfl rfl 2 (by decide) (hts (.fieldLink RX5 70 "UnderPromiseModel" "things" "I") (List.mem_of_getElem? (i := 3) rfl)) (fun _ h9 => h9) rfl dX5_digest_35 ?_
        refine lv_icmp_ge (tgt := 116) hx hb dX5_digest_38 (by decide) (fun c_23 => ?_) (fun c_23 => ?_)
        · exact absurd c_23 (nI_ge hk (by omega))
        · have c_24 := i_nle c_23
          refine lv_ldc2 (v := 31) hx hb hown (hts (.constantLong RX5 200 (31)) (List.mem_of_getElem? (i := 2) rfl)) dX5_digest_41 ?_
          refine lv_lload_n hx hb dX5_digest_44 rfl (lv_at hl 1 rfl) ?_
          refine lv_lmul hx hb dX5_digest_45 ?_
          refine lv_aload_n hx hb dX5_digest_46 rfl (lv_at hl 0 rfl) ?_
          refine va_get (D := D) (ci := 5) (v := .ref (q 203)) (C := RX5) (T := TX5) (N := 21) hx hb hts (fun _ h => List.mem_cons_of_mem _ (List.mem_append_right _ h)) hown hK hP 0 rfl rfl 3 (by decide) (hts (.fieldLink RX5 16 "UnderPromiseModel" "batchOf" "[I") (List.mem_of_getElem? (i := 4) rfl)) (fun _ h9 => h9) rfl dX5_digest_47 ?_
          refine lv_iload_n hx hb dX5_digest_50 rfl (lv_at hl 2 rfl) ?_
          refine iaK (v := (F 0 k)) hx hb hK hP 3 0 rfl rfl k (vp_in_nI (by omega) (by decide)) (nI_clamp (by omega)) rfl dX5_digest_51 ?_
          refine lv_i2l (v := (Int32.toInt64 (F 0 k))) hx hb dX5_digest_52 rfl ?_
          refine lv_ladd hx hb dX5_digest_53 ?_
          refine lv_lstore_n (lv' := [(1, .long ((31 * (dgTM F (fdL (fun j => (aCount F n c (nI j)).toInt64) 199 9) k)) + (Int32.toInt64 (F 0 k)))), (0, .ref (q 200)), (3, .int (nI k))]) hx hb dX5_digest_54 rfl hl (by decide) rfl (fun ls hl => ?_)
          refine lv_ldc2 (v := 31) hx hb hown (hts (.constantLong RX5 200 (31)) (List.mem_of_getElem? (i := 2) rfl)) dX5_digest_55 ?_
          refine lv_lload_n hx hb dX5_digest_58 rfl (lv_at hl 0 rfl) ?_
          refine lv_lmul hx hb dX5_digest_59 ?_
          refine lv_aload_n hx hb dX5_digest_60 rfl (lv_at hl 1 rfl) ?_
          refine va_get (D := D) (ci := 5) (v := .ref (q 204)) (C := RX5) (T := TX5) (N := 21) hx hb hts (fun _ h => List.mem_cons_of_mem _ (List.mem_append_right _ h)) hown hK hP 0 rfl rfl 4 (by decide) (hts (.fieldLink RX5 19 "UnderPromiseModel" "soldIn" "[I") (List.mem_of_getElem? (i := 5) rfl)) (fun _ h9 => h9) rfl dX5_digest_61 ?_
          refine lv_iload_n hx hb dX5_digest_64 rfl (lv_at hl 2 rfl) ?_
          refine iaK (v := (F 1 k)) hx hb hK hP 4 0 rfl rfl k (vp_in_nI (by omega) (by decide)) (nI_clamp (by omega)) rfl dX5_digest_65 ?_
          refine lv_i2l (v := (Int32.toInt64 (F 1 k))) hx hb dX5_digest_66 rfl ?_
          refine lv_ladd hx hb dX5_digest_67 ?_
          refine lv_lstore_n (lv' := [(1, .long ((31 * ((31 * (dgTM F (fdL (fun j => (aCount F n c (nI j)).toInt64) 199 9) k)) + (Int32.toInt64 (F 0 k)))) + (Int32.toInt64 (F 1 k)))), (0, .ref (q 200)), (3, .int (nI k))]) hx hb dX5_digest_68 rfl hl (by decide) rfl (fun ls hl => ?_)
          refine lv_ldc2 (v := 31) hx hb hown (hts (.constantLong RX5 200 (31)) (List.mem_of_getElem? (i := 2) rfl)) dX5_digest_69 ?_
          refine lv_lload_n hx hb dX5_digest_72 rfl (lv_at hl 0 rfl) ?_
          refine lv_lmul hx hb dX5_digest_73 ?_
          refine lv_aload_n hx hb dX5_digest_74 rfl (lv_at hl 1 rfl) ?_
          refine va_get (D := D) (ci := 5) (v := .ref (q 205)) (C := RX5) (T := TX5) (N := 21) hx hb hts (fun _ h => List.mem_cons_of_mem _ (List.mem_append_right _ h)) hown hK hP 0 rfl rfl 5 (by decide) (hts (.fieldLink RX5 22 "UnderPromiseModel" "runs" "[I") (List.mem_of_getElem? (i := 6) rfl)) (fun _ h9 => h9) rfl dX5_digest_75 ?_
          refine lv_iload_n hx hb dX5_digest_78 rfl (lv_at hl 2 rfl) ?_
          refine iaK (v := (F 2 k)) hx hb hK hP 5 0 rfl rfl k (vp_in_nI (by omega) (by decide)) (nI_clamp (by omega)) rfl dX5_digest_79 ?_
          refine lv_i2l (v := (Int32.toInt64 (F 2 k))) hx hb dX5_digest_80 rfl ?_
          refine lv_ladd hx hb dX5_digest_81 ?_
          refine lv_lstore_n (lv' := [(1, .long ((31 * ((31 * ((31 * (dgTM F (fdL (fun j => (aCount F n c (nI j)).toInt64) 199 9) k)) + (Int32.toInt64 (F 0 k)))) + (Int32.toInt64 (F 1 k)))) + (Int32.toInt64 (F 2 k)))), (0, .ref (q 200)), (3, .int (nI k))]) hx hb dX5_digest_82 rfl hl (by decide) rfl (fun ls hl => ?_)
          refine lv_ldc2 (v := 31) hx hb hown (hts (.constantLong RX5 200 (31)) (List.mem_of_getElem? (i := 2) rfl)) dX5_digest_83 ?_
          refine lv_lload_n hx hb dX5_digest_86 rfl (lv_at hl 0 rfl) ?_
          refine lv_lmul hx hb dX5_digest_87 ?_
          refine lv_aload_n hx hb dX5_digest_88 rfl (lv_at hl 1 rfl) ?_
          refine va_get (D := D) (ci := 5) (v := .ref (q 206)) (C := RX5) (T := TX5) (N := 21) hx hb hts (fun _ h => List.mem_cons_of_mem _ (List.mem_append_right _ h)) hown hK hP 0 rfl rfl 6 (by decide) (hts (.fieldLink RX5 25 "UnderPromiseModel" "landOf" "[I") (List.mem_of_getElem? (i := 7) rfl)) (fun _ h9 => h9) rfl dX5_digest_89 ?_
          refine lv_iload_n hx hb dX5_digest_92 rfl (lv_at hl 2 rfl) ?_
          refine iaK (v := (F 3 k)) hx hb hK hP 6 0 rfl rfl k (vp_in_nI (by omega) (by decide)) (nI_clamp (by omega)) rfl dX5_digest_93 ?_
          refine lv_i2l (v := (Int32.toInt64 (F 3 k))) hx hb dX5_digest_94 rfl ?_
          refine lv_ladd hx hb dX5_digest_95 ?_
          refine lv_lstore_n (lv' := [(1, .long ((31 * ((31 * ((31 * ((31 * (dgTM F (fdL (fun j => (aCount F n c (nI j)).toInt64) 199 9) k)) + (Int32.toInt64 (F 0 k)))) + (Int32.toInt64 (F 1 k)))) + (Int32.toInt64 (F 2 k)))) + (Int32.toInt64 (F 3 k)))), (0, .ref (q 200)), (3, .int (nI k))]) hx hb dX5_digest_96 rfl hl (by decide) rfl (fun ls hl => ?_)
          refine lv_ldc2 (v := 31) hx hb hown (hts (.constantLong RX5 200 (31)) (List.mem_of_getElem? (i := 2) rfl)) dX5_digest_97 ?_
          refine lv_lload_n hx hb dX5_digest_100 rfl (lv_at hl 0 rfl) ?_
          refine lv_lmul hx hb dX5_digest_101 ?_
          refine lv_aload_n hx hb dX5_digest_102 rfl (lv_at hl 1 rfl) ?_
          refine lv_iload_n hx hb dX5_digest_103 rfl (lv_at hl 2 rfl) ?_
          refine roVi (As := [.int (nI k)]) (rest := [.long (31 * ((31 * ((31 * ((31 * ((31 * (dgTM F (fdL (fun j => (aCount F n c (nI j)).toInt64) 199 9) k)) + (Int32.toInt64 (F 0 k)))) + (Int32.toInt64 (F 1 k)))) + (Int32.toInt64 (F 2 k)))) + (Int32.toInt64 (F 3 k))))]) (v := (lsK F k 121)) ⟨hx, hb, hml, hown, hts⟩ (c_X5_lastOf l D cs q F n c g up lo k hI (by omega)) (cwV 1 hts gX5_digest_X5_lastOf rfl rfl rfl (by decide +kernel) ⟨Nat.le_of_ble_eq_true rfl, Nat.le_of_ble_eq_true rfl⟩) hP hK hN 0 rfl rfl rfl hl.1 rfl (Nat.le_of_ble_eq_true rfl) dX5_digest_104 ⟨Nat.zero_le _, Nat.zero_le _⟩ ?_
          refine lv_i2l (v := (Int32.toInt64 (lsK F k 121))) hx hb dX5_digest_107 rfl ?_
          refine lv_ladd hx hb dX5_digest_108 ?_
          refine lv_lstore_n (lv' := [(1, .long ((31 * ((31 * ((31 * ((31 * ((31 * (dgTM F (fdL (fun j => (aCount F n c (nI j)).toInt64) 199 9) k)) + (Int32.toInt64 (F 0 k)))) + (Int32.toInt64 (F 1 k)))) + (Int32.toInt64 (F 2 k)))) + (Int32.toInt64 (F 3 k)))) + (Int32.toInt64 (lsK F k 121)))), (0, .ref (q 200)), (3, .int (nI k))]) hx hb dX5_digest_109 rfl hl (by decide) rfl (fun ls hl => ?_)
          refine lv_iinc (v := ((nI k) + 1)) (lv' := [(3, .int ((nI k) + 1)), (1, .long ((31 * ((31 * ((31 * ((31 * ((31 * (dgTM F (fdL (fun j => (aCount F n c (nI j)).toInt64) 199 9) k)) + (Int32.toInt64 (F 0 k)))) + (Int32.toInt64 (F 1 k)))) + (Int32.toInt64 (F 2 k)))) + (Int32.toInt64 (F 3 k)))) + (Int32.toInt64 (lsK F k 121)))), (0, .ref (q 200))]) hx hb dX5_digest_110 hl (k := 2) rfl rfl (by decide) rfl (fun ls hl => ?_)
          refine lv_goto (tgt := 33) hx hb dX5_digest_113 (by decide) ?_
          have h_25 : ((31 * ((31 * ((31 * ((31 * ((31 * (dgTM F (fdL (fun j => (aCount F n c (nI j)).toInt64) 199 9) k)) + (Int32.toInt64 (F 0 k)))) + (Int32.toInt64 (F 1 k)))) + (Int32.toInt64 (F 2 k)))) + (Int32.toInt64 (F 3 k)))) + (Int32.toInt64 (lsK F k 121))) = (dgTM F (fdL (fun j => (aCount F n c (nI j)).toInt64) 199 9) (k + 1)) := rfl
          have h_26 : ((nI k) + 1) = (nI (k + 1)) := (nI_1 _)
          exact ih _ (lv_cast (lv_sub (l' := [(0, .ref (q 200)), (1, .long ((31 * ((31 * ((31 * ((31 * ((31 * (dgTM F (fdL (fun j => (aCount F n c (nI j)).toInt64) 199 9) k)) + (Int32.toInt64 (F 0 k)))) + (Int32.toInt64 (F 1 k)))) + (Int32.toInt64 (F 2 k)))) + (Int32.toInt64 (F 3 k)))) + (Int32.toInt64 (lsK F k 121)))), (3, .int ((nI k) + 1))]) hl [2, 1, 0] rfl) (cg2 (fun z25 z26 => [(0, .ref (q 200)), (1, .long z25), (3, .int z26)]) h_25 h_26))
    · exact absurd (nI_le (b := 9) (Nat.le_refl 9) (by decide)) c_1
  · intro k hk0 hk ih ls hl
    have hl : lv_has ls 5 [(0, .ref (q 200)), (1, .long (fdL (fun j => (aCount F n c (nI j)).toInt64) 199 k)), (3, .int (nI k))] := hl
    refine lv_iload_n hx hb dX5_digest_6 rfl (lv_at hl 2 rfl) ?_
    refine lv_bipush (v := 9) hx hb dX5_digest_7 (by decide) ?_
    refine lv_icmp_ge (tgt := 31) hx hb dX5_digest_9 (by decide) (fun c_27 => ?_) (fun c_27 => ?_)
    · exact absurd c_27 (nI_ge (b := 9) hk (by decide))
    · have c_28 := i_nle c_27
      refine lv_ldc2 (v := 31) hx hb hown (hts (.constantLong RX5 200 (31)) (List.mem_of_getElem? (i := 2) rfl)) dX5_digest_12 ?_
      refine lv_lload_n hx hb dX5_digest_15 rfl (lv_at hl 1 rfl) ?_
      refine lv_lmul hx hb dX5_digest_16 ?_
      refine lv_aload_n hx hb dX5_digest_17 rfl (lv_at hl 0 rfl) ?_
      refine lv_iload_n hx hb dX5_digest_18 rfl (lv_at hl 2 rfl) ?_
      refine roVi (As := [.int (nI k)]) (rest := [.long (31 * (fdL (fun j => (aCount F n c (nI j)).toInt64) 199 k))]) (v := (aCount F n c (nI k))) ⟨hx, hb, hml, hown, hts⟩ (c_X5_count l D cs q F n c g up lo (nI k) hI) (cwV 1 hts gX5_digest_X5_count rfl rfl rfl (by decide +kernel) ⟨Nat.le_of_ble_eq_true rfl, Nat.le_of_ble_eq_true rfl⟩) hP hK hN 0 rfl rfl rfl hl.1 rfl (Nat.le_of_ble_eq_true rfl) dX5_digest_19 ⟨Nat.zero_le _, Nat.zero_le _⟩ ?_
      refine lv_i2l (v := (Int32.toInt64 (aCount F n c (nI k)))) hx hb dX5_digest_22 rfl ?_
      refine lv_ladd hx hb dX5_digest_23 ?_
      refine lv_lstore_n (lv' := [(1, .long ((31 * (fdL (fun j => (aCount F n c (nI j)).toInt64) 199 k)) + (Int32.toInt64 (aCount F n c (nI k))))), (0, .ref (q 200)), (3, .int (nI k))]) hx hb dX5_digest_24 rfl hl (by decide) rfl (fun ls hl => ?_)
      refine lv_iinc (v := ((nI k) + 1)) (lv' := [(3, .int ((nI k) + 1)), (1, .long ((31 * (fdL (fun j => (aCount F n c (nI j)).toInt64) 199 k)) + (Int32.toInt64 (aCount F n c (nI k))))), (0, .ref (q 200))]) hx hb dX5_digest_25 hl (k := 2) rfl rfl (by decide) rfl (fun ls hl => ?_)
      refine lv_goto (tgt := 6) hx hb dX5_digest_28 (by decide) ?_
      have h_29 : ((31 * (fdL (fun j => (aCount F n c (nI j)).toInt64) 199 k)) + (Int32.toInt64 (aCount F n c (nI k)))) = (fdL (fun j => (aCount F n c (nI j)).toInt64) 199 (k + 1)) := rfl
      have h_30 : ((nI k) + 1) = (nI (k + 1)) := (nI_1 _)
      exact ih _ (lv_cast (lv_sub (l' := [(0, .ref (q 200)), (1, .long ((31 * (fdL (fun j => (aCount F n c (nI j)).toInt64) 199 k)) + (Int32.toInt64 (aCount F n c (nI k))))), (3, .int ((nI k) + 1))]) hl [2, 1, 0] rfl) (cg2 (fun z29 z30 => [(0, .ref (q 200)), (1, .long z29), (3, .int z30)]) h_29 h_30))
