set_option maxHeartbeats 4000000 in
set_option maxRecDepth 100000 in
/-- X4_ofLowestTerms -/
theorem c_X4_ofLowestTerms (l : Launch)  (ua : Nat) (ub : Nat) (w : Int32) (ha : ua < 2 ^ 63) (hb2 : ub < 2 ^ 63) (hb0 : 0 < ub) : Met l yX4_ofLowestTerms wsX4_ofLowestTerms ({ frames := 1, cells := 0, slots := 0, locals := 30 }) (va_Pc [.long (lN ua), .long (lN ub), .int w] (fun _ => True)) (vp_Sl (fun r => r = (lN ((if w = 0 then ua else ub) / Nat.gcd ua ub)))) 0 0 (fun _ => False) := by
  refine Met.ofW (cc := cX4_ofLowestTerms) (maxL := 7) (ret := (some .long)) (by decide) rfl ?_
  intro p e s m args below meth c_ s₁ B hml hv
  obtain ⟨rfl, -⟩ := hv
  have hx := B.exec
  have hb := B.bytes
  have hr := B.returns
  have hts := atoms_spec (ws := wsX4_ofLowestTerms) B.pre
  have hown : s.vm.findClass RX4 = some m.cls := findClass_of_methodNamed B.named
  have hlocks := B.notSynchronized
  have hl := lv_entry ([.long (lN ua), .long (lN ub), .int w]) (n := 7) (Nat.le_of_ble_eq_true rfl)
  rw [lg_entry_eq]
  generalize (lg_sl ([.long (lN ua), .long (lN ub), .int w]) ++ List.replicate (7 - (lg_sl ([.long (lN ua), .long (lN ub), .int w])).length) Slot.unset).toArray = ls at hl ⊢
  have hl : lv_has ls 7 [(0, .long (lN ua)), (2, .long (lN ub)), (4, .int w)] := hl
  refine lv_lload_n hx hb dX4_ofLowestTerms_0 rfl (lv_at hl 0 rfl) ?_
  refine lv_lload_n hx hb dX4_ofLowestTerms_1 rfl (lv_at hl 1 rfl) ?_
  refine roSl (As := [.long (lN ua), .long (lN ub)]) (rest := []) (v := (lN (Nat.gcd ua ub))) ⟨hx, hb, hml, hown, hts⟩ (c_X4_greatestCommonDivisor l ua ub ha hb2) (va_cwS 2 hts gX4_ofLowestTerms_X4_greatestCommonDivisor rfl rfl rfl (by decide +kernel) ⟨Nat.le_of_ble_eq_true rfl, Nat.le_of_ble_eq_true rfl⟩) rfl hl.1 rfl (Nat.le_of_ble_eq_true rfl) dX4_ofLowestTerms_2 ⟨Nat.zero_le _, Nat.zero_le _⟩ ?_
  refine lv_lstore (lv' := [(5, .long (lN (Nat.gcd ua ub))), (0, .long (lN ua)), (2, .long (lN ub)), (4, .int w)]) hx hb dX4_ofLowestTerms_5 hl (by decide) rfl (fun ls hl => ?_)
  refine lv_lload hx hb dX4_ofLowestTerms_7 (lv_at hl 0 rfl) ?_
  refine lv_lconst (v := 0) hx hb dX4_ofLowestTerms_9 (by decide) ?_
  refine W.lcmp hx hb dX4_ofLowestTerms_10 ?_
  refine lv_if_gt (tgt := 18) hx hb dX4_ofLowestTerms_11 (by decide) (fun c_1 => ?_) (fun c_1 => ?_)
  · have c_2 := (lg_cmp_gt _ _).mp c_1
    have c_3 := i_ltL c_2
    refine lv_iload hx hb dX4_ofLowestTerms_18 (lv_at hl 3 rfl) ?_
    refine lv_if_ne (tgt := 27) hx hb dX4_ofLowestTerms_20 (by decide) (fun c_4 => ?_) (fun c_4 => ?_)
    · refine lv_lload_n hx hb dX4_ofLowestTerms_27 rfl (lv_at hl 2 rfl) ?_
      refine lv_lload hx hb dX4_ofLowestTerms_28 (lv_at hl 0 rfl) ?_
      refine lv_ldiv hx hb dX4_ofLowestTerms_30 (lN_pos (Nat.lt_of_le_of_lt (Nat.gcd_le_right ua hb0) hb2) (lowest hb0)) ?_
      exact W.lret (v := ((lN ub) / (lN (Nat.gcd ua ub)))) hx hb hr (fun t9 ht9 hW9 => ⟨((lN ub) / (lN (Nat.gcd ua ub))), rfl, (by rw [if_neg c_4]; exact pk_lDiv hb2 (lowest hb0) (Nat.lt_of_le_of_lt (Nat.gcd_le_right ua hb0) hb2)), ht9⟩) (fun _ h => by cases h) dX4_ofLowestTerms_31
    · refine lv_lload_n hx hb dX4_ofLowestTerms_23 rfl (lv_at hl 1 rfl) ?_
      refine lv_goto (tgt := 28) hx hb dX4_ofLowestTerms_24 (by decide) ?_
      refine lv_lload hx hb dX4_ofLowestTerms_28 (lv_at hl 0 rfl) ?_
      refine lv_ldiv hx hb dX4_ofLowestTerms_30 (lN_pos (Nat.lt_of_le_of_lt (Nat.gcd_le_right ua hb0) hb2) (lowest hb0)) ?_
      exact W.lret (v := ((lN ua) / (lN (Nat.gcd ua ub)))) hx hb hr (fun t9 ht9 hW9 => ⟨((lN ua) / (lN (Nat.gcd ua ub))), rfl, (by rw [if_pos c_4]; exact pk_lDiv ha (lowest hb0) (Nat.lt_of_le_of_lt (Nat.gcd_le_right ua hb0) hb2)), ht9⟩) (fun _ h => by cases h) dX4_ofLowestTerms_31
  · exact absurd (lN_gt0 (Nat.lt_of_le_of_lt (Nat.gcd_le_right ua hb0) hb2) (lowest hb0)) ((not_congr (lg_cmp_gt _ _)).mp c_1)
set_option maxHeartbeats 4000000 in
set_option maxRecDepth 100000 in
/-- X3_choose -/
theorem c_X3_choose (l : Launch) (D : va_G) (cs : Nat → ClassId) (q : Nat → Nat) (F : Nat → Nat → Int32) (n c : Nat) (ka : Nat) (kb : Nat) (hI : Inv F n c) (hka : ka ≤ 60) (hkb : kb ≤ 60) : Met l yX3_choose wsX3_choose ({ frames := 0, cells := 0, slots := 0, locals := 0 }) (va_Pc [.ref (q 4), .int (nI ka), .int (nI kb)] (pw D cs (wW q cs))) (vp_Sl (fun r => r = (lN (chs ka kb)))) 0 0 (fun _ => False) := by
  refine Met.ofW (cc := cX3_choose) (maxL := 3) (ret := (some .long)) (by decide) rfl ?_
  intro p e s m args below meth c_ s₁ B hml hv
  obtain ⟨rfl, hP, hK, hN⟩ := hv
  have hx := B.exec
  have hb := B.bytes
  have hr := B.returns
  have hts := atoms_spec (ws := wsX3_choose) B.pre
  have hown : s.vm.findClass RX3 = some m.cls := findClass_of_methodNamed B.named
  have hlocks := B.notSynchronized
  have hl := lv_entry ([.ref (q 4), .int (nI ka), .int (nI kb)]) (n := 3) (Nat.le_of_ble_eq_true rfl)
  rw [lg_entry_eq]
  generalize (lg_sl ([.ref (q 4), .int (nI ka), .int (nI kb)]) ++ List.replicate (3 - (lg_sl ([.ref (q 4), .int (nI ka), .int (nI kb)])).length) Slot.unset).toArray = ls at hl ⊢
  have hl : lv_has ls 3 [(0, .ref (q 4)), (1, .int (nI ka)), (2, .int (nI kb))] := hl
  have hn60 := hI.n60
  have hc100 := hI.c100
  refine lv_iload_n hx hb dX3_choose_0 rfl (lv_at hl 1 rfl) ?_
  refine lv_if_lt (tgt := 19) hx hb dX3_choose_1 (by decide) (fun c_1 => ?_) (fun c_1 => ?_)
  · exact absurd c_1 (nI_pos (by omega))
  · have c_2 := i_nlt c_1
    refine lv_iload_n hx hb dX3_choose_4 rfl (lv_at hl 1 rfl) ?_
    refine lv_bipush (v := 60) hx hb dX3_choose_5 (by decide) ?_
    refine lv_icmp_gt (tgt := 19) hx hb dX3_choose_7 (by decide) (fun c_3 => ?_) (fun c_3 => ?_)
    · exact absurd c_3 (nI_nlt (a := 60) (b := ka) (by omega) (by decide))
    · have c_4 := i_nlt c_3
      refine lv_iload_n hx hb dX3_choose_10 rfl (lv_at hl 2 rfl) ?_
      refine lv_if_lt (tgt := 19) hx hb dX3_choose_11 (by decide) (fun c_5 => ?_) (fun c_5 => ?_)
      · exact absurd c_5 (nI_pos (by omega))
      · have c_6 := i_nlt c_5
        refine lv_iload_n hx hb dX3_choose_14 rfl (lv_at hl 2 rfl) ?_
        refine lv_iload_n hx hb dX3_choose_15 rfl (lv_at hl 1 rfl) ?_
        refine lv_icmp_le (tgt := 21) hx hb dX3_choose_16 (by decide) (fun c_7 => ?_) (fun c_7 => ?_)
        · have c_8 := i_le c_7
          refine lv_aload_n hx hb dX3_choose_21 rfl (lv_at hl 0 rfl) ?_
          refine va_get (D := D) (ci := 3) (v := .ref (q 40)) (C := RX3) (T := TX3) (N := 1) hx hb hts (fun _ h => List.mem_cons_of_mem _ (List.mem_append_right _ h)) hown hK hP 0 rfl rfl 0 (by decide) (hts (.fieldLink RX3 11 "UnderPromise$Ways" "rows" "[[J") (List.mem_of_getElem? (i := 1) rfl)) (fun _ h9 => h9) rfl dX3_choose_22 ?_
          refine lv_iload_n hx hb dX3_choose_25 rfl (lv_at hl 1 rfl) ?_
          refine aaK (b := q (50 + ka)) hx hb hK hP 1 2 rfl rfl ka (vp_in_nI (by omega) (by decide)) (nI_clamp (by omega)) (if_pos (by omega)) dX3_choose_26 ?_
          refine lv_iload_n hx hb dX3_choose_27 rfl (lv_at hl 2 rfl) ?_
          refine laK (v := (lN (chs ka kb))) hx hb hK hP (2 + ka) 1 (wW_row (by omega)) rfl kb (vp_in_nI (by omega) (by decide)) (nI_clamp (by omega)) rfl dX3_choose_28 ?_
          exact W.lret (v := (lN (chs ka kb))) hx hb hr (fun t9 ht9 hW9 => ⟨(lN (chs ka kb)), rfl, rfl, ht9⟩) (fun _ h => by cases h) dX3_choose_29
        · have c_9 := i_nle c_7
          refine lv_lconst (v := 0) hx hb dX3_choose_19 (by decide) ?_
          exact W.lret (v := 0) hx hb hr (fun t9 ht9 hW9 => ⟨0, rfl, (by rw [chs_gt (Nat.lt_of_not_le (fun h9 => c_7 (nI_le h9 (by omega))))]; rfl), ht9⟩) (fun _ h => by cases h) dX3_choose_20
set_option maxHeartbeats 4000000 in
set_option maxRecDepth 100000 in
/-- X3_withAtLeast -/
theorem c_X3_withAtLeast (l : Launch) (D : va_G) (cs : Nat → ClassId) (q : Nat → Nat) (F : Nat → Nat → Int32) (n c : Nat) (kb : Nat) (nb : Nat) (kk : Nat) (mm : Nat) (hI : Inv F n c) (hw1 : kb ≤ nb) (hw2 : kb ≤ kk) (hw3 : kk ≤ mm) (hw4 : nb ≤ mm) (hw5 : mm ≤ 60) : Met l yX3_withAtLeast wsX3_withAtLeast ({ frames := 1, cells := 0, slots := 0, locals := 22 }) (va_Pc [.ref (q 4), .int (nI kb), .int (nI nb), .int (nI kk), .int (nI mm)] (pw D cs (wW q cs))) (vp_Sl (fun r => r = (lN (uW kk mm nb kb)))) 0 0 (fun _ => False) := by
  refine Met.ofW (cc := cX3_withAtLeast) (maxL := 8) (ret := (some .long)) (by decide) rfl ?_
  intro p e s m args below meth c_ s₁ B hml hv
  obtain ⟨rfl, hP, hK, hN⟩ := hv
  have hx := B.exec
  have hb := B.bytes
  have hr := B.returns
  have hts := atoms_spec (ws := wsX3_withAtLeast) B.pre
  have hown : s.vm.findClass RX3 = some m.cls := findClass_of_methodNamed B.named
  have hlocks := B.notSynchronized
  have hl := lv_entry ([.ref (q 4), .int (nI kb), .int (nI nb), .int (nI kk), .int (nI mm)]) (n := 8) (Nat.le_of_ble_eq_true rfl)
  rw [lg_entry_eq]
  generalize (lg_sl ([.ref (q 4), .int (nI kb), .int (nI nb), .int (nI kk), .int (nI mm)]) ++ List.replicate (8 - (lg_sl ([.ref (q 4), .int (nI kb), .int (nI nb), .int (nI kk), .int (nI mm)])).length) Slot.unset).toArray = ls at hl ⊢
  have hl : lv_has ls 8 [(0, .ref (q 4)), (1, .int (nI kb)), (2, .int (nI nb)), (3, .int (nI kk)), (4, .int (nI mm))] := hl
  have hn60 := hI.n60
  have hc100 := hI.c100
  refine lv_lconst (v := 0) hx hb dX3_withAtLeast_0 (by decide) ?_
  refine lv_lstore (lv' := [(5, .long 0), (0, .ref (q 4)), (1, .int (nI kb)), (2, .int (nI nb)), (3, .int (nI kk)), (4, .int (nI mm))]) hx hb dX3_withAtLeast_1 hl (by decide) rfl (fun ls hl => ?_)
  refine lv_iload_n hx hb dX3_withAtLeast_3 rfl (lv_at hl 2 rfl) ?_
  refine lv_istore (lv' := [(7, .int (nI kb)), (5, .long 0), (0, .ref (q 4)), (1, .int (nI kb)), (2, .int (nI nb)), (3, .int (nI kk)), (4, .int (nI mm))]) hx hb dX3_withAtLeast_4 hl (by decide) rfl (fun ls hl => ?_)
  have hz0 : lN (smR (Uf kk mm nb) kb kb) = 0 := by rw [smR_lo kb (Nat.le_refl _)]; rfl
  refine lpW (fun k ls => lv_has ls 8 [(0, .ref (q 4)), (1, .int (nI kb)), (2, .int (nI nb)), (3, .int (nI kk)), (4, .int (nI mm)), (5, .long (lN (smR (Uf kk mm nb) kb k))), (7, .int (nI k))]) (min kk nb + 1) kb (by omega) ls (lv_cast (lv_sub (l' := [(0, .ref (q 4)), (1, .int (nI kb)), (2, .int (nI nb)), (3, .int (nI kk)), (4, .int (nI mm)), (5, .long 0), (7, .int (nI kb))]) hl [2, 3, 4, 5, 6, 1, 0] rfl) (by rw [hz0])) ?_ ?_
  · intro ls hl
    have hl : lv_has ls 8 [(0, .ref (q 4)), (1, .int (nI kb)), (2, .int (nI nb)), (3, .int (nI kk)), (4, .int (nI mm)), (5, .long (lN (smR (Uf kk mm nb) kb (min kk nb + 1)))), (7, .int (nI (min kk nb + 1)))] := hl
    refine lv_iload hx hb dX3_withAtLeast_6 (lv_at hl 6 rfl) ?_
    refine lv_iload_n hx hb dX3_withAtLeast_8 rfl (lv_at hl 3 rfl) ?_
    refine lv_icmp_gt (tgt := 49) hx hb dX3_withAtLeast_9 (by decide) (fun c_1 => ?_) (fun c_1 => ?_)
    · have c_2 := i_lt c_1
      refine lv_lload hx hb dX3_withAtLeast_49 (lv_at hl 5 rfl) ?_
      exact W.lret (v := (lN (smR (Uf kk mm nb) kb (min kk nb + 1)))) hx hb hr (fun t9 ht9 hW9 => ⟨(lN (smR (Uf kk mm nb) kb (min kk nb + 1))), rfl, (by rw [uW_min rfl]), ht9⟩) (fun _ h => by cases h) dX3_withAtLeast_51
    · have c_3 := i_nlt c_1
      refine lv_iload hx hb dX3_withAtLeast_12 (lv_at hl 6 rfl) ?_
      refine lv_iload_n hx hb dX3_withAtLeast_14 rfl (lv_at hl 2 rfl) ?_
      refine lv_icmp_gt (tgt := 49) hx hb dX3_withAtLeast_15 (by decide) (fun c_4 => ?_) (fun c_4 => ?_)
      · have c_5 := i_lt c_4
        refine lv_lload hx hb dX3_withAtLeast_49 (lv_at hl 5 rfl) ?_
        exact W.lret (v := (lN (smR (Uf kk mm nb) kb (min kk nb + 1)))) hx hb hr (fun t9 ht9 hW9 => ⟨(lN (smR (Uf kk mm nb) kb (min kk nb + 1))), rfl, (by rw [uW_min rfl]), ht9⟩) (fun _ h => by cases h) dX3_withAtLeast_51
      · exact absurd ((nI_ltI (by omega) (by omega)).mpr (by have h9 := (not_congr (nI_ltI (by omega) (by omega))).mp c_1; omega)) c_4
  · intro k hk0 hk ih ls hl
    have hl : lv_has ls 8 [(0, .ref (q 4)), (1, .int (nI kb)), (2, .int (nI nb)), (3, .int (nI kk)), (4, .int (nI mm)), (5, .long (lN (smR (Uf kk mm nb) kb k))), (7, .int (nI k))] := hl
    refine lv_iload hx hb dX3_withAtLeast_6 (lv_at hl 6 rfl) ?_
    refine lv_iload_n hx hb dX3_withAtLeast_8 rfl (lv_at hl 3 rfl) ?_
    refine lv_icmp_gt (tgt := 49) hx hb dX3_withAtLeast_9 (by decide) (fun c_6 => ?_) (fun c_6 => ?_)
    · exact absurd c_6 (nI_nlt (by omega) (by omega))
    · have c_7 := i_nlt c_6
      refine lv_iload hx hb dX3_withAtLeast_12 (lv_at hl 6 rfl) ?_
      refine lv_iload_n hx hb dX3_withAtLeast_14 rfl (lv_at hl 2 rfl) ?_
      refine lv_icmp_gt (tgt := 49) hx hb dX3_withAtLeast_15 (by decide) (fun c_8 => ?_) (fun c_8 => ?_)
      · exact absurd c_8 (nI_nlt (by omega) (by omega))
      · have c_9 := i_nlt c_8
        refine lv_lload hx hb dX3_withAtLeast_18 (lv_at hl 5 rfl) ?_
        refine lv_aload_n hx hb dX3_withAtLeast_20 rfl (lv_at hl 0 rfl) ?_
        refine lv_iload_n hx hb dX3_withAtLeast_21 rfl (lv_at hl 3 rfl) ?_
        refine lv_iload hx hb dX3_withAtLeast_22 (lv_at hl 6 rfl) ?_
        refine roVl (As := [.int (nI kk), .int (nI k)]) (rest := [.long (lN (smR (Uf kk mm nb) kb k))]) (v := (lN (chs kk k))) ⟨hx, hb, hml, hown, hts⟩ (c_X3_choose l D cs q F n c kk k hI (by omega) (by omega)) (cwV 2 hts gX3_withAtLeast_X3_choose rfl rfl rfl (by decide +kernel) ⟨Nat.le_of_ble_eq_true rfl, Nat.le_of_ble_eq_true rfl⟩) hP hK hN 0 rfl rfl rfl hl.1 rfl (Nat.le_of_ble_eq_true rfl) dX3_withAtLeast_24 ⟨Nat.zero_le _, Nat.zero_le _⟩ ?_
        refine lv_aload_n hx hb dX3_withAtLeast_27 rfl (lv_at hl 0 rfl) ?_
        refine lv_iload hx hb dX3_withAtLeast_28 (lv_at hl 4 rfl) ?_
        refine lv_iload_n hx hb dX3_withAtLeast_30 rfl (lv_at hl 3 rfl) ?_
        refine lv_isub hx hb dX3_withAtLeast_31 ?_
        rw [show (nI mm) - (nI kk) = nI (mm - kk) from pk_sub (by omega)]
        refine lv_iload_n hx hb dX3_withAtLeast_32 rfl (lv_at hl 2 rfl) ?_
        refine lv_iload hx hb dX3_withAtLeast_33 (lv_at hl 6 rfl) ?_
        refine lv_isub hx hb dX3_withAtLeast_35 ?_
        rw [show (nI nb) - (nI k) = nI (nb - k) from pk_sub (by omega)]
        refine roVl (As := [.int (nI (mm - kk)), .int (nI (nb - k))]) (rest := [.long (lN (chs kk k)), .long (lN (smR (Uf kk mm nb) kb k))]) (v := (lN (chs (mm - kk) (nb - k)))) ⟨hx, hb, hml, hown, hts⟩ (c_X3_choose l D cs q F n c (mm - kk) (nb - k) hI (by omega) (by omega)) (cwV 2 hts gX3_withAtLeast_X3_choose rfl rfl rfl (by decide +kernel) ⟨Nat.le_of_ble_eq_true rfl, Nat.le_of_ble_eq_true rfl⟩) hP hK hN 0 rfl rfl rfl hl.1 rfl (Nat.le_of_ble_eq_true rfl) dX3_withAtLeast_36 ⟨Nat.zero_le _, Nat.zero_le _⟩ ?_
        refine lv_lmul hx hb dX3_withAtLeast_39 ?_
        refine lv_ladd hx hb dX3_withAtLeast_40 ?_
        refine lv_lstore (lv' := [(5, .long ((lN (smR (Uf kk mm nb) kb k)) + ((lN (chs kk k)) * (lN (chs (mm - kk) (nb - k)))))), (0, .ref (q 4)), (1, .int (nI kb)), (2, .int (nI nb)), (3, .int (nI kk)), (4, .int (nI mm)), (7, .int (nI k))]) hx hb dX3_withAtLeast_41 hl (by decide) rfl (fun ls hl => ?_)
        refine lv_iinc (v := ((nI k) + 1)) (lv' := [(7, .int ((nI k) + 1)), (5, .long ((lN (smR (Uf kk mm nb) kb k)) + ((lN (chs kk k)) * (lN (chs (mm - kk) (nb - k)))))), (0, .ref (q 4)), (1, .int (nI kb)), (2, .int (nI nb)), (3, .int (nI kk)), (4, .int (nI mm))]) hx hb dX3_withAtLeast_43 hl (k := 6) rfl rfl (by decide) rfl (fun ls hl => ?_)
        refine lv_goto (tgt := 6) hx hb dX3_withAtLeast_46 (by decide) ?_
        have h_10 : ((lN (smR (Uf kk mm nb) kb k)) + ((lN (chs kk k)) * (lN (chs (mm - kk) (nb - k))))) = (lN (smR (Uf kk mm nb) kb (k + 1))) := (by rw [lN_mul, lN_add, smR, if_pos hk0]; rfl)
        have h_11 : ((nI k) + 1) = (nI (k + 1)) := (nI_1 _)
        exact ih _ (lv_cast (lv_sub (l' := [(0, .ref (q 4)), (1, .int (nI kb)), (2, .int (nI nb)), (3, .int (nI kk)), (4, .int (nI mm)), (5, .long ((lN (smR (Uf kk mm nb) kb k)) + ((lN (chs kk k)) * (lN (chs (mm - kk) (nb - k)))))), (7, .int ((nI k) + 1))]) hl [2, 3, 4, 5, 6, 1, 0] rfl) (cg2 (fun z10 z11 => [(0, .ref (q 4)), (1, .int (nI kb)), (2, .int (nI nb)), (3, .int (nI kk)), (4, .int (nI mm)), (5, .long z10), (7, .int z11)]) h_10 h_11))
set_option maxHeartbeats 4000000 in
set_option maxRecDepth 100000 in
/-- X4_waysAsOddOrOdder -/
theorem c_X4_waysAsOddOrOdder (l : Launch) (D : va_G) (cs : Nat → ClassId) (q : Nat → Nat) (F : Nat → Nat → Int32) (n c : Nat) (g : Int32) (ob : Int64) (hi : Int64) (hI : Inv F n c) (h1 : ctN (bitL ob) 64 ≤ n) (h2 : ctN (bitL hi) 64 ≤ n) : Met l yX4_waysAsOddOrOdder wsX4_waysAsOddOrOdder ({ frames := 2, cells := 0, slots := 0, locals := 49 }) (va_Pc [.ref (q 0), .long ob, .long hi] (pw D cs (xW q cs F n c g))) (vp_Sl (fun r => r = (lN (uW (ctN (bitL hi) 64) n (ctN (bitL ob) 64) (ctN (bitL (ob &&& hi)) 64))))) 0 0 (fun _ => False) := by
  refine Met.ofW (cc := cX4_waysAsOddOrOdder) (maxL := 6) (ret := (some .long)) (by decide) rfl ?_
  intro p e s m args below meth c_ s₁ B hml hv
  obtain ⟨rfl, hP, hK, hN⟩ := hv
  have hx := B.exec
  have hb := B.bytes
  have hr := B.returns
  have hts := atoms_spec (ws := wsX4_waysAsOddOrOdder) B.pre
  have hown : s.vm.findClass RX4 = some m.cls := findClass_of_methodNamed B.named
  have hlocks := B.notSynchronized
  have hl := lv_entry ([.ref (q 0), .long ob, .long hi]) (n := 6) (Nat.le_of_ble_eq_true rfl)
  rw [lg_entry_eq]
  generalize (lg_sl ([.ref (q 0), .long ob, .long hi]) ++ List.replicate (6 - (lg_sl ([.ref (q 0), .long ob, .long hi])).length) Slot.unset).toArray = ls at hl ⊢
  have hl : lv_has ls 6 [(0, .ref (q 0)), (1, .long ob), (3, .long hi)] := hl
  have hPo := va_P_l hP
  have hPt := va_P_l (va_P_r hP)
  have hPc := va_P_l (va_P_r (va_P_r hP))
  have hPp := va_P_l (va_P_r (va_P_r (va_P_r hP)))
  have hPw := va_P_r (va_P_r (va_P_r (va_P_r hP)))
  have hn60 := hI.n60
  have hc100 := hI.c100
  refine lv_lload_n hx hb dX4_waysAsOddOrOdder_0 rfl (lv_at hl 1 rfl) ?_
  refine lv_lload_n hx hb dX4_waysAsOddOrOdder_1 rfl (lv_at hl 2 rfl) ?_
  refine lv_land hx hb dX4_waysAsOddOrOdder_2 ?_
  refine roSi (As := [.long (ob &&& hi)]) (rest := []) (v := (nI (ctN (bitL (ob &&& hi)) 64))) ⟨hx, hb, hml, hown, hts⟩ (c_J13_bitCount_95d88 l (ob &&& hi)) (va_cwS 1 hts gX4_waysAsOddOrOdder_J13_bitCount_95d88 rfl rfl rfl (by decide +kernel) ⟨Nat.le_of_ble_eq_true rfl, Nat.le_of_ble_eq_true rfl⟩) rfl hl.1 rfl (Nat.le_of_ble_eq_true rfl) dX4_waysAsOddOrOdder_3 ⟨Nat.zero_le _, Nat.zero_le _⟩ ?_
  refine lv_istore (lv' := [(5, .int (nI (ctN (bitL (ob &&& hi)) 64))), (0, .ref (q 0)), (1, .long ob), (3, .long hi)]) hx hb dX4_waysAsOddOrOdder_6 hl (by decide) rfl (fun ls hl => ?_)
  refine lv_aload_n hx hb dX4_waysAsOddOrOdder_8 rfl (lv_at hl 1 rfl) ?_
  refine va_get (D := D) (ci := 4) (v := .ref (q 4)) (C := RX4) (T := TX4) (N := 5) hx hb hts (fun _ h => List.mem_cons_of_mem _ (List.mem_append_left _ (List.mem_append_left _ (List.mem_append_right _ h)))) hown hK hPo 0 rfl rfl 3 (by decide) (hts (.fieldLink RX4 33 "UnderPromise" "ways" "LUnderPromise$Ways;") (List.mem_of_getElem? (i := 1) rfl)) (fun _ h9 => h9) rfl dX4_waysAsOddOrOdder_9 ?_
  refine lv_iload hx hb dX4_waysAsOddOrOdder_12 (lv_at hl 0 rfl) ?_
  refine lv_lload_n hx hb dX4_waysAsOddOrOdder_14 rfl (lv_at hl 2 rfl) ?_
  refine roSi (As := [.long ob]) (rest := [.int (nI (ctN (bitL (ob &&& hi)) 64)), .ref (q 4)]) (v := (nI (ctN (bitL ob) 64))) ⟨hx, hb, hml, hown, hts⟩ (c_J13_bitCount_95d88 l ob) (va_cwS 1 hts gX4_waysAsOddOrOdder_J13_bitCount_95d88 rfl rfl rfl (by decide +kernel) ⟨Nat.le_of_ble_eq_true rfl, Nat.le_of_ble_eq_true rfl⟩) rfl hl.1 rfl (Nat.le_of_ble_eq_true rfl) dX4_waysAsOddOrOdder_15 ⟨Nat.zero_le _, Nat.zero_le _⟩ ?_
  refine lv_lload_n hx hb dX4_waysAsOddOrOdder_18 rfl (lv_at hl 3 rfl) ?_
  refine roSi (As := [.long hi]) (rest := [.int (nI (ctN (bitL ob) 64)), .int (nI (ctN (bitL (ob &&& hi)) 64)), .ref (q 4)]) (v := (nI (ctN (bitL hi) 64))) ⟨hx, hb, hml, hown, hts⟩ (c_J13_bitCount_95d88 l hi) (va_cwS 1 hts gX4_waysAsOddOrOdder_J13_bitCount_95d88 rfl rfl rfl (by decide +kernel) ⟨Nat.le_of_ble_eq_true rfl, Nat.le_of_ble_eq_true rfl⟩) rfl hl.1 rfl (Nat.le_of_ble_eq_true rfl) dX4_waysAsOddOrOdder_19 ⟨Nat.zero_le _, Nat.zero_le _⟩ ?_
  refine lv_aload_n hx hb dX4_waysAsOddOrOdder_22 rfl (lv_at hl 1 rfl) ?_
  refine va_get (D := D) (ci := 4) (v := .ref (q 1)) (C := RX4) (T := TX4) (N := 5) hx hb hts (fun _ h => List.mem_cons_of_mem _ (List.mem_append_left _ (List.mem_append_left _ (List.mem_append_right _ h)))) hown hK hPo 0 rfl rfl 0 (by decide) (hts (.fieldLink RX4 12 "UnderPromise" "things" "LUnderPromise$Things;") (List.mem_of_getElem? (i := 2) rfl)) (fun _ h9 => h9) rfl dX4_waysAsOddOrOdder_23 ?_
  refine va_getN (D := D) (ci := 2) (v := .int (nI n)) (C := RX2) (T := TX2) (N := 7) hx hb hts (fun _ h => List.mem_cons_of_mem _ (List.mem_append_left _ (List.mem_append_right _ h))) hown hK hPt 0 rfl rfl 6 (by decide) (va_Nw.use rfl hN.2.2.2.2.2.2.2.1) (fun _ h9 => h9) rfl dX4_waysAsOddOrOdder_26 ?_
  refine roVl (As := [.int (nI (ctN (bitL (ob &&& hi)) 64)), .int (nI (ctN (bitL ob) 64)), .int (nI (ctN (bitL hi) 64)), .int (nI n)]) (rest := []) (v := (lN (uW (ctN (bitL hi) 64) n (ctN (bitL ob) 64) (ctN (bitL (ob &&& hi)) 64)))) ⟨hx, hb, hml, hown, hts⟩ (c_X3_withAtLeast l D cs q F n c (ctN (bitL (ob &&& hi)) 64) (ctN (bitL ob) 64) (ctN (bitL hi) 64) n hI (oh_le1 _ _) (oh_le2 _ _) h2 h1 (by omega)) (cwV 4 hts gX4_waysAsOddOrOdder_X3_withAtLeast rfl rfl rfl (by decide +kernel) ⟨Nat.le_of_ble_eq_true rfl, Nat.le_of_ble_eq_true rfl⟩) hPw hK hN 0 rfl rfl rfl hl.1 rfl (Nat.le_of_ble_eq_true rfl) dX4_waysAsOddOrOdder_29 ⟨Nat.zero_le _, Nat.zero_le _⟩ ?_
  exact W.lret (v := (lN (uW (ctN (bitL hi) 64) n (ctN (bitL ob) 64) (ctN (bitL (ob &&& hi)) 64)))) hx hb hr (fun t9 ht9 hW9 => ⟨(lN (uW (ctN (bitL hi) 64) n (ctN (bitL ob) 64) (ctN (bitL (ob &&& hi)) 64))), rfl, rfl, ht9⟩) (fun _ h => by cases h) dX4_waysAsOddOrOdder_32
set_option maxHeartbeats 4000000 in
set_option maxRecDepth 100000 in
/-- X4_waysInAll -/
theorem c_X4_waysInAll (l : Launch) (D : va_G) (cs : Nat → ClassId) (q : Nat → Nat) (F : Nat → Nat → Int32) (n c : Nat) (g : Int32) (ob : Int64) (hI : Inv F n c) (h1 : ctN (bitL ob) 64 ≤ n) : Met l yX4_waysInAll wsX4_waysInAll ({ frames := 1, cells := 0, slots := 0, locals := 22 }) (va_Pc [.ref (q 0), .long ob] (pw D cs (xW q cs F n c g))) (vp_Sl (fun r => r = (lN (chs n (ctN (bitL ob) 64))))) 0 0 (fun _ => False) := by
  refine Met.ofW (cc := cX4_waysInAll) (maxL := 3) (ret := (some .long)) (by decide) rfl ?_
  intro p e s m args below meth c_ s₁ B hml hv
  obtain ⟨rfl, hP, hK, hN⟩ := hv
  have hx := B.exec
  have hb := B.bytes
  have hr := B.returns
  have hts := atoms_spec (ws := wsX4_waysInAll) B.pre
  have hown : s.vm.findClass RX4 = some m.cls := findClass_of_methodNamed B.named
  have hlocks := B.notSynchronized
  have hl := lv_entry ([.ref (q 0), .long ob]) (n := 3) (Nat.le_of_ble_eq_true rfl)
  rw [lg_entry_eq]
  generalize (lg_sl ([.ref (q 0), .long ob]) ++ List.replicate (3 - (lg_sl ([.ref (q 0), .long ob])).length) Slot.unset).toArray = ls at hl ⊢
  have hl : lv_has ls 3 [(0, .ref (q 0)), (1, .long ob)] := hl
  have hPo := va_P_l hP
  have hPt := va_P_l (va_P_r hP)
  have hPc := va_P_l (va_P_r (va_P_r hP))
  have hPp := va_P_l (va_P_r (va_P_r (va_P_r hP)))
  have hPw := va_P_r (va_P_r (va_P_r (va_P_r hP)))
  have hn60 := hI.n60
  have hc100 := hI.c100
  refine lv_aload_n hx hb dX4_waysInAll_0 rfl (lv_at hl 0 rfl) ?_
  refine va_get (D := D) (ci := 4) (v := .ref (q 4)) (C := RX4) (T := TX4) (N := 5) hx hb hts (fun _ h => List.mem_cons_of_mem _ (List.mem_append_left _ (List.mem_append_left _ (List.mem_append_right _ h)))) hown hK hPo 0 rfl rfl 3 (by decide) (hts (.fieldLink RX4 33 "UnderPromise" "ways" "LUnderPromise$Ways;") (List.mem_of_getElem? (i := 1) rfl)) (fun _ h9 => h9) rfl dX4_waysInAll_1 ?_
  refine lv_aload_n hx hb dX4_waysInAll_4 rfl (lv_at hl 0 rfl) ?_
  refine va_get (D := D) (ci := 4) (v := .ref (q 1)) (C := RX4) (T := TX4) (N := 5) hx hb hts (fun _ h => List.mem_cons_of_mem _ (List.mem_append_left _ (List.mem_append_left _ (List.mem_append_right _ h)))) hown hK hPo 0 rfl rfl 0 (by decide) (hts (.fieldLink RX4 12 "UnderPromise" "things" "LUnderPromise$Things;") (List.mem_of_getElem? (i := 2) rfl)) (fun _ h9 => h9) rfl dX4_waysInAll_5 ?_
  refine va_getN (D := D) (ci := 2) (v := .int (nI n)) (C := RX2) (T := TX2) (N := 7) hx hb hts (fun _ h => List.mem_cons_of_mem _ (List.mem_append_left _ (List.mem_append_right _ h))) hown hK hPt 0 rfl rfl 6 (by decide) (va_Nw.use rfl hN.2.2.2.2.2.2.2.1) (fun _ h9 => h9) rfl dX4_waysInAll_8 ?_
  refine lv_lload_n hx hb dX4_waysInAll_11 rfl (lv_at hl 1 rfl) ?_
  refine roSi (As := [.long ob]) (rest := [.int (nI n), .ref (q 4)]) (v := (nI (ctN (bitL ob) 64))) ⟨hx, hb, hml, hown, hts⟩ (c_J13_bitCount_95d88 l ob) (va_cwS 1 hts gX4_waysInAll_J13_bitCount_95d88 rfl rfl rfl (by decide +kernel) ⟨Nat.le_of_ble_eq_true rfl, Nat.le_of_ble_eq_true rfl⟩) rfl hl.1 rfl (Nat.le_of_ble_eq_true rfl) dX4_waysInAll_12 ⟨Nat.zero_le _, Nat.zero_le _⟩ ?_
  refine roVl (As := [.int (nI n), .int (nI (ctN (bitL ob) 64))]) (rest := []) (v := (lN (chs n (ctN (bitL ob) 64)))) ⟨hx, hb, hml, hown, hts⟩ (c_X3_choose l D cs q F n c n (ctN (bitL ob) 64) hI (by omega) (by omega)) (cwV 2 hts gX4_waysInAll_X3_choose rfl rfl rfl (by decide +kernel) ⟨Nat.le_of_ble_eq_true rfl, Nat.le_of_ble_eq_true rfl⟩) hPw hK hN 0 rfl rfl rfl hl.1 rfl (Nat.le_of_ble_eq_true rfl) dX4_waysInAll_15 ⟨Nat.zero_le _, Nat.zero_le _⟩ ?_
  exact W.lret (v := (lN (chs n (ctN (bitL ob) 64)))) hx hb hr (fun t9 ht9 hW9 => ⟨(lN (chs n (ctN (bitL ob) 64))), rfl, rfl, ht9⟩) (fun _ h => by cases h) dX4_waysInAll_18
set_option maxHeartbeats 4000000 in
set_option maxRecDepth 100000 in
/-- X4_chance -/
theorem c_X4_chance (l : Launch) (D : va_G) (cs : Nat → ClassId) (q : Nat → Nat) (F : Nat → Nat → Int32) (n c : Nat) (g : Int32) (x : Int32) (p0 : Int32) (mo : Int32) (w : Int32) (hI : Inv F n c) : Met l yX4_chance wsX4_chance ({ frames := 3, cells := 0, slots := 0, locals := 74 }) (va_Pc [.ref (q 0), .int x, .int p0, .int mo, .int w] (pw D cs (xW q cs F n c g))) (vp_Sl (fun r => r = (aChance F n c x p0 mo w))) 0 0 (fun _ => False) := by
  refine Met.ofW (cc := cX4_chance) (maxL := 9) (ret := (some .long)) (by decide) rfl ?_
  intro p e s m args below meth c_ s₁ B hml hv
  obtain ⟨rfl, hP, hK, hN⟩ := hv
  have hx := B.exec
  have hb := B.bytes
  have hr := B.returns
  have hts := atoms_spec (ws := wsX4_chance) B.pre
  have hown : s.vm.findClass RX4 = some m.cls := findClass_of_methodNamed B.named
  have hlocks := B.notSynchronized
  have hl := lv_entry ([.ref (q 0), .int x, .int p0, .int mo, .int w]) (n := 9) (Nat.le_of_ble_eq_true rfl)
  rw [lg_entry_eq]
  generalize (lg_sl ([.ref (q 0), .int x, .int p0, .int mo, .int w]) ++ List.replicate (9 - (lg_sl ([.ref (q 0), .int x, .int p0, .int mo, .int w])).length) Slot.unset).toArray = ls at hl ⊢
  have hl : lv_has ls 9 [(0, .ref (q 0)), (1, .int x), (2, .int p0), (3, .int mo), (4, .int w)] := hl
  have hPo := va_P_l hP
  have hPt := va_P_l (va_P_r hP)
  have hPc := va_P_l (va_P_r (va_P_r hP))
  have hPp := va_P_l (va_P_r (va_P_r (va_P_r hP)))
  have hPw := va_P_r (va_P_r (va_P_r (va_P_r hP)))
  have hn60 := hI.n60
  have hc100 := hI.c100
  refine lv_iload_n hx hb dX4_chance_0 rfl (lv_at hl 1 rfl) ?_
  refine roSi (As := [.int x]) (rest := []) (v := (bI (rg x 0 7))) ⟨hx, hb, hml, hown, hts⟩ (c_X4_isBatch l x) (va_cwS 1 hts gX4_chance_X4_isBatch rfl rfl rfl (by decide +kernel) ⟨Nat.le_of_ble_eq_true rfl, Nat.le_of_ble_eq_true rfl⟩) rfl hl.1 rfl (Nat.le_of_ble_eq_true rfl) dX4_chance_1 ⟨Nat.zero_le _, Nat.zero_le _⟩ ?_
  refine lv_if_eq (tgt := 29) hx hb dX4_chance_4 (by decide) (fun c_1 => ?_) (fun c_1 => ?_)
  · have b_2 : (rg x 0 7) = false := bI_f c_1
    refine lv_ldc2 (v := (-2)) hx hb hown (hts (.constantLong RX4 123 (-2)) (List.mem_of_getElem? (i := 1) rfl)) dX4_chance_29 ?_
    exact W.lret (v := (-2)) hx hb hr (fun t9 ht9 hW9 => ⟨(-2), rfl, (by simp [aChance, b_2]), ht9⟩) (fun _ h => by cases h) dX4_chance_32
  · have b_3 : (rg x 0 7) = true := bI_t c_1
    refine lv_iload_n hx hb dX4_chance_7 rfl (lv_at hl 2 rfl) ?_
    refine roSi (As := [.int p0]) (rest := []) (v := (bI (rg p0 0 9))) ⟨hx, hb, hml, hown, hts⟩ (c_X4_isPart l p0) (va_cwS 1 hts gX4_chance_X4_isPart rfl rfl rfl (by decide +kernel) ⟨Nat.le_of_ble_eq_true rfl, Nat.le_of_ble_eq_true rfl⟩) rfl hl.1 rfl (Nat.le_of_ble_eq_true rfl) dX4_chance_8 ⟨Nat.zero_le _, Nat.zero_le _⟩ ?_
    refine lv_if_eq (tgt := 29) hx hb dX4_chance_11 (by decide) (fun c_4 => ?_) (fun c_4 => ?_)
    · have b_5 : (rg p0 0 9) = false := bI_f c_4
      refine lv_ldc2 (v := (-2)) hx hb hown (hts (.constantLong RX4 123 (-2)) (List.mem_of_getElem? (i := 1) rfl)) dX4_chance_29 ?_
      exact W.lret (v := (-2)) hx hb hr (fun t9 ht9 hW9 => ⟨(-2), rfl, (by simp [aChance, b_3, b_5]), ht9⟩) (fun _ h => by cases h) dX4_chance_32
    · have b_6 : (rg p0 0 9) = true := bI_t c_4
      refine lv_iload_n hx hb dX4_chance_14 rfl (lv_at hl 3 rfl) ?_
      refine roSi (As := [.int mo]) (rest := []) (v := (bI (rg mo 0 300))) ⟨hx, hb, hml, hown, hts⟩ (c_X4_isMonth l mo) (va_cwS 1 hts gX4_chance_X4_isMonth rfl rfl rfl (by decide +kernel) ⟨Nat.le_of_ble_eq_true rfl, Nat.le_of_ble_eq_true rfl⟩) rfl hl.1 rfl (Nat.le_of_ble_eq_true rfl) dX4_chance_15 ⟨Nat.zero_le _, Nat.zero_le _⟩ ?_
      refine lv_if_eq (tgt := 29) hx hb dX4_chance_18 (by decide) (fun c_7 => ?_) (fun c_7 => ?_)
      · have b_8 : (rg mo 0 300) = false := bI_f c_7
        refine lv_ldc2 (v := (-2)) hx hb hown (hts (.constantLong RX4 123 (-2)) (List.mem_of_getElem? (i := 1) rfl)) dX4_chance_29 ?_
        exact W.lret (v := (-2)) hx hb hr (fun t9 ht9 hW9 => ⟨(-2), rfl, (by simp [aChance, b_3, b_6, b_8]), ht9⟩) (fun _ h => by cases h) dX4_chance_32
      · have b_9 : (rg mo 0 300) = true := bI_t c_7
        refine lv_iload hx hb dX4_chance_21 (lv_at hl 4 rfl) ?_
        refine roSi (As := [.int w]) (rest := []) (v := (bI (rg w 0 1))) ⟨hx, hb, hml, hown, hts⟩ (c_X4_isAboveOrBelow l w) (va_cwS 1 hts gX4_chance_X4_isAboveOrBelow rfl rfl rfl (by decide +kernel) ⟨Nat.le_of_ble_eq_true rfl, Nat.le_of_ble_eq_true rfl⟩) rfl hl.1 rfl (Nat.le_of_ble_eq_true rfl) dX4_chance_23 ⟨Nat.zero_le _, Nat.zero_le _⟩ ?_
        refine lv_if_ne (tgt := 33) hx hb dX4_chance_26 (by decide) (fun c_10 => ?_) (fun c_10 => ?_)
        · have b_11 : (rg w 0 1) = true := bI_t c_10
          refine lv_aload_n hx hb dX4_chance_33 rfl (lv_at hl 0 rfl) ?_
          refine va_get (D := D) (ci := 4) (v := .ref (q 1)) (C := RX4) (T := TX4) (N := 5) hx hb hts (fun _ h => List.mem_cons_of_mem _ (List.mem_append_left _ (List.mem_append_left _ (List.mem_append_left _ (List.mem_append_right _ h))))) hown hK hPo 0 rfl rfl 0 (by decide) (hts (.fieldLink RX4 12 "UnderPromise" "things" "LUnderPromise$Things;") (List.mem_of_getElem? (i := 2) rfl)) (fun _ h9 => h9) rfl dX4_chance_34 ?_
          refine lv_iload_n hx hb dX4_chance_37 rfl (lv_at hl 1 rfl) ?_
          refine roVl (As := [.int x]) (rest := []) (v := (orL (sSold F ((1 : Int32) <<< (x &&& 31)) 0 119) (fun k => bit1 (nI k)) n)) ⟨hx, hb, hml, hown, hts⟩ (c_X2_ofBatch l D cs q F n c x hI) (cwV 1 hts gX4_chance_X2_ofBatch rfl rfl rfl (by decide +kernel) ⟨Nat.le_of_ble_eq_true rfl, Nat.le_of_ble_eq_true rfl⟩) hPt hK hN 0 rfl rfl rfl hl.1 rfl (Nat.le_of_ble_eq_true rfl) dX4_chance_38 ⟨Nat.zero_le _, Nat.zero_le _⟩ ?_
          rw [show (orL (sSold F ((1 : Int32) <<< (x &&& 31)) 0 119) (fun k => bit1 (nI k)) n) = (sOb F n x) from rfl]
          refine lv_lstore (lv' := [(5, .long (sOb F n x)), (0, .ref (q 0)), (1, .int x), (2, .int p0), (3, .int mo), (4, .int w)]) hx hb dX4_chance_41 hl (by decide) rfl (fun ls hl => ?_)
          refine lv_lload hx hb dX4_chance_43 (lv_at hl 0 rfl) ?_
          refine lv_lconst (v := 0) hx hb dX4_chance_45 (by decide) ?_
          refine W.lcmp hx hb dX4_chance_46 ?_
          refine lv_if_ne (tgt := 54) hx hb dX4_chance_47 (by decide) (fun c_12 => ?_) (fun c_12 => ?_)
          · have c_13 := (not_congr (lg_cmp_eq _ _)).mp c_12
            refine lv_aload_n hx hb dX4_chance_54 rfl (lv_at hl 1 rfl) ?_
            refine va_get (D := D) (ci := 4) (v := .ref (q 2)) (C := RX4) (T := TX4) (N := 5) hx hb hts (fun _ h => List.mem_cons_of_mem _ (List.mem_append_left _ (List.mem_append_left _ (List.mem_append_left _ (List.mem_append_right _ h))))) hown hK hPo 0 rfl rfl 1 (by decide) (hts (.fieldLink RX4 19 "UnderPromise" "claims" "LUnderPromise$Claims;") (List.mem_of_getElem? (i := 4) rfl)) (fun _ h9 => h9) rfl dX4_chance_55 ?_
            refine lv_iconst (v := 1) hx hb dX4_chance_58 (by decide) ?_
            refine lv_iload_n hx hb dX4_chance_59 rfl (lv_at hl 3 rfl) ?_
            refine lv_ishl hx hb dX4_chance_60 ?_
            refine lv_iload_n hx hb dX4_chance_61 rfl (lv_at hl 4 rfl) ?_
            refine roVl (As := [.int (1 <<< (p0 &&& 31)), .int mo]) (rest := []) (v := (orL (sHit F (1 <<< (p0 &&& 31)) mo) (fun k => bit1 (F 6 k)) c)) ⟨hx, hb, hml, hown, hts⟩ (c_X0_thingsLetFor l D cs q F n c (1 <<< (p0 &&& 31)) mo hI) (cwV 2 hts gX4_chance_X0_thingsLetFor rfl rfl rfl (by decide +kernel) ⟨Nat.le_of_ble_eq_true rfl, Nat.le_of_ble_eq_true rfl⟩) hPc hK hN 0 rfl rfl rfl hl.1 rfl (Nat.le_of_ble_eq_true rfl) dX4_chance_62 ⟨Nat.zero_le _, Nat.zero_le _⟩ ?_
            rw [show (orL (sHit F (1 <<< (p0 &&& 31)) mo) (fun k => bit1 (F 6 k)) c) = (sHi F c p0 mo) from rfl]
            refine lv_lstore (lv' := [(7, .long (sHi F c p0 mo)), (5, .long (sOb F n x)), (0, .ref (q 0)), (1, .int x), (2, .int p0), (3, .int mo), (4, .int w)]) hx hb dX4_chance_65 hl (by decide) rfl (fun ls hl => ?_)
            refine lv_aload_n hx hb dX4_chance_67 rfl (lv_at hl 2 rfl) ?_
            refine lv_lload hx hb dX4_chance_68 (lv_at hl 1 rfl) ?_
            refine lv_lload hx hb dX4_chance_70 (lv_at hl 0 rfl) ?_
            refine roVl (As := [.long (sOb F n x), .long (sHi F c p0 mo)]) (rest := []) (v := (lN (uW (ctN (bitL (sHi F c p0 mo)) 64) n (ctN (bitL (sOb F n x)) 64) (ctN (bitL ((sOb F n x) &&& (sHi F c p0 mo))) 64)))) ⟨hx, hb, hml, hown, hts⟩ (c_X4_waysAsOddOrOdder l D cs q F n c g (sOb F n x) (sHi F c p0 mo) hI (by rw [ob_ct hI b_3]; exact sNb_le) (by rw [hi_ct hI b_6]; exact sK_le)) (cwV 2 hts gX4_chance_X4_waysAsOddOrOdder rfl rfl rfl (by decide +kernel) ⟨Nat.le_of_ble_eq_true rfl, Nat.le_of_ble_eq_true rfl⟩) hP hK hN 0 rfl rfl rfl hl.1 rfl (Nat.le_of_ble_eq_true rfl) dX4_chance_72 ⟨Nat.zero_le _, Nat.zero_le _⟩ ?_
            rw [show (lN (uW (ctN (bitL (sHi F c p0 mo)) 64) n (ctN (bitL (sOb F n x)) 64) (ctN (bitL ((sOb F n x) &&& (sHi F c p0 mo))) 64))) = (lN (cU F n c x p0 mo)) from by rw [ob_ct hI b_3, hi_ct hI b_6, oh_ct hI b_3 b_6]; rfl]
            refine lv_aload_n hx hb dX4_chance_75 rfl (lv_at hl 2 rfl) ?_
            refine lv_lload hx hb dX4_chance_76 (lv_at hl 1 rfl) ?_
            refine roVl (As := [.long (sOb F n x)]) (rest := [.long (lN (cU F n c x p0 mo))]) (v := (lN (chs n (ctN (bitL (sOb F n x)) 64)))) ⟨hx, hb, hml, hown, hts⟩ (c_X4_waysInAll l D cs q F n c g (sOb F n x) hI (by rw [ob_ct hI b_3]; exact sNb_le)) (cwV 1 hts gX4_chance_X4_waysInAll rfl rfl rfl (by decide +kernel) ⟨Nat.le_of_ble_eq_true rfl, Nat.le_of_ble_eq_true rfl⟩) hP hK hN 0 rfl rfl rfl hl.1 rfl (Nat.le_of_ble_eq_true rfl) dX4_chance_78 ⟨Nat.zero_le _, Nat.zero_le _⟩ ?_
            rw [show (lN (chs n (ctN (bitL (sOb F n x)) 64))) = (lN (cL F n x)) from by rw [ob_ct hI b_3]; rfl]
            refine lv_iload hx hb dX4_chance_81 (lv_at hl 6 rfl) ?_
            refine roSl (As := [.long (lN (cU F n c x p0 mo)), .long (lN (cL F n x)), .int w]) (rest := []) (v := (lN ((if w = 0 then (cU F n c x p0 mo) else (cL F n x)) / Nat.gcd (cU F n c x p0 mo) (cL F n x)))) ⟨hx, hb, hml, hown, hts⟩ (c_X4_ofLowestTerms l (cU F n c x p0 mo) (cL F n x) w (cU_63 hI) (cL_63 hI) cL_pos) (va_cwS 3 hts gX4_chance_X4_ofLowestTerms rfl rfl rfl (by decide +kernel) ⟨Nat.le_of_ble_eq_true rfl, Nat.le_of_ble_eq_true rfl⟩) rfl hl.1 rfl (Nat.le_of_ble_eq_true rfl) dX4_chance_83 ⟨Nat.zero_le _, Nat.zero_le _⟩ ?_
            exact W.lret (v := (lN ((if w = 0 then (cU F n c x p0 mo) else (cL F n x)) / Nat.gcd (cU F n c x p0 mo) (cL F n x)))) hx hb hr (fun t9 ht9 hW9 => ⟨(lN ((if w = 0 then (cU F n c x p0 mo) else (cL F n x)) / Nat.gcd (cU F n c x p0 mo) (cL F n x))), rfl, (by simp [aChance, b_3, b_6, b_9, b_11, c_13, (not_congr (ob_0 hI b_3)).mp c_13]), ht9⟩) (fun _ h => by cases h) dX4_chance_86
          · have c_14 := (lg_cmp_eq _ _).mp c_12
            refine lv_ldc2 (v := (-3)) hx hb hown (hts (.constantLong RX4 129 (-3)) (List.mem_of_getElem? (i := 3) rfl)) dX4_chance_50 ?_
            exact W.lret (v := (-3)) hx hb hr (fun t9 ht9 hW9 => ⟨(-3), rfl, (by simp [aChance, b_3, b_6, b_9, b_11, c_14, (ob_0 hI b_3).mp c_14]), ht9⟩) (fun _ h => by cases h) dX4_chance_53
        · have b_15 : (rg w 0 1) = false := bI_f c_10
          refine lv_ldc2 (v := (-2)) hx hb hown (hts (.constantLong RX4 123 (-2)) (List.mem_of_getElem? (i := 1) rfl)) dX4_chance_29 ?_
          exact W.lret (v := (-2)) hx hb hr (fun t9 ht9 hW9 => ⟨(-2), rfl, (by simp [aChance, b_3, b_6, b_9, b_15]), ht9⟩) (fun _ h => by cases h) dX4_chance_32
set_option maxHeartbeats 4000000 in
set_option maxRecDepth 100000 in
/-- X4_oddest -/
theorem c_X4_oddest (l : Launch) (D : va_G) (cs : Nat → ClassId) (q : Nat → Nat) (F : Nat → Nat → Int32) (n c : Nat) (g : Int32) (p0 : Int32) (mo : Int32) (hI : Inv F n c) : Met l yX4_oddest wsX4_oddest ({ frames := 3, cells := 0, slots := 0, locals := 74 }) (va_Pc [.ref (q 0), .int p0, .int mo] (pw D cs (xW q cs F n c g))) (vp_Si (fun r => r = (r2 (rg p0 0 9) (rg mo 0 300) (odC F n c p0 mo 8).1))) 0 0 (fun _ => False) := by
  refine Met.ofW (cc := cX4_oddest) (maxL := 17) (ret := (some .int)) (by decide) rfl ?_
  intro p e s m args below meth c_ s₁ B hml hv
  obtain ⟨rfl, hP, hK, hN⟩ := hv
  have hx := B.exec
  have hb := B.bytes
  have hr := B.returns
  have hts := atoms_spec (ws := wsX4_oddest) B.pre
  have hown : s.vm.findClass RX4 = some m.cls := findClass_of_methodNamed B.named
  have hlocks := B.notSynchronized
  have hl := lv_entry ([.ref (q 0), .int p0, .int mo]) (n := 17) (Nat.le_of_ble_eq_true rfl)
  rw [lg_entry_eq]
  generalize (lg_sl ([.ref (q 0), .int p0, .int mo]) ++ List.replicate (17 - (lg_sl ([.ref (q 0), .int p0, .int mo])).length) Slot.unset).toArray = ls at hl ⊢
  have hl : lv_has ls 17 [(0, .ref (q 0)), (1, .int p0), (2, .int mo)] := hl
  have hPo := va_P_l hP
  have hPt := va_P_l (va_P_r hP)
  have hPc := va_P_l (va_P_r (va_P_r hP))
  have hPp := va_P_l (va_P_r (va_P_r (va_P_r hP)))
  have hPw := va_P_r (va_P_r (va_P_r (va_P_r hP)))
  have hn60 := hI.n60
  have hc100 := hI.c100
  refine lv_iload_n hx hb dX4_oddest_0 rfl (lv_at hl 1 rfl) ?_
  refine roSi (As := [.int p0]) (rest := []) (v := (bI (rg p0 0 9))) ⟨hx, hb, hml, hown, hts⟩ (c_X4_isPart l p0) (va_cwS 1 hts gX4_oddest_X4_isPart rfl rfl rfl (by decide +kernel) ⟨Nat.le_of_ble_eq_true rfl, Nat.le_of_ble_eq_true rfl⟩) rfl hl.1 rfl (Nat.le_of_ble_eq_true rfl) dX4_oddest_1 ⟨Nat.zero_le _, Nat.zero_le _⟩ ?_
  refine lv_if_eq (tgt := 14) hx hb dX4_oddest_4 (by decide) (fun c_1 => ?_) (fun c_1 => ?_)
  · have b_2 : (rg p0 0 9) = false := bI_f c_1
    refine lv_bipush (v := (-2)) hx hb dX4_oddest_14 (by decide) ?_
    exact W.iret (v := (-2)) hx hb hr (fun t9 ht9 hW9 => ⟨(-2), rfl, (by first | with_reducible rfl | simp [r2, b_2]), ht9⟩) (fun _ h => by cases h) dX4_oddest_16
  · have b_3 : (rg p0 0 9) = true := bI_t c_1
    refine lv_iload_n hx hb dX4_oddest_7 rfl (lv_at hl 2 rfl) ?_
    refine roSi (As := [.int mo]) (rest := []) (v := (bI (rg mo 0 300))) ⟨hx, hb, hml, hown, hts⟩ (c_X4_isMonth l mo) (va_cwS 1 hts gX4_oddest_X4_isMonth rfl rfl rfl (by decide +kernel) ⟨Nat.le_of_ble_eq_true rfl, Nat.le_of_ble_eq_true rfl⟩) rfl hl.1 rfl (Nat.le_of_ble_eq_true rfl) dX4_oddest_8 ⟨Nat.zero_le _, Nat.zero_le _⟩ ?_
    refine lv_if_ne (tgt := 17) hx hb dX4_oddest_11 (by decide) (fun c_4 => ?_) (fun c_4 => ?_)
    · have b_5 : (rg mo 0 300) = true := bI_t c_4
      refine lv_aload_n hx hb dX4_oddest_17 rfl (lv_at hl 0 rfl) ?_
      refine va_get (D := D) (ci := 4) (v := .ref (q 2)) (C := RX4) (T := TX4) (N := 5) hx hb hts (fun _ h => List.mem_cons_of_mem _ (List.mem_append_left _ (List.mem_append_left _ (List.mem_append_left _ (List.mem_append_right _ h))))) hown hK hPo 0 rfl rfl 1 (by decide) (hts (.fieldLink RX4 19 "UnderPromise" "claims" "LUnderPromise$Claims;") (List.mem_of_getElem? (i := 1) rfl)) (fun _ h9 => h9) rfl dX4_oddest_18 ?_
      refine lv_iconst (v := 1) hx hb dX4_oddest_21 (by decide) ?_
      refine lv_iload_n hx hb dX4_oddest_22 rfl (lv_at hl 1 rfl) ?_
      refine lv_ishl hx hb dX4_oddest_23 ?_
      refine lv_iload_n hx hb dX4_oddest_24 rfl (lv_at hl 2 rfl) ?_
      refine roVl (As := [.int (1 <<< (p0 &&& 31)), .int mo]) (rest := []) (v := (orL (sHit F (1 <<< (p0 &&& 31)) mo) (fun k => bit1 (F 6 k)) c)) ⟨hx, hb, hml, hown, hts⟩ (c_X0_thingsLetFor l D cs q F n c (1 <<< (p0 &&& 31)) mo hI) (cwV 2 hts gX4_oddest_X0_thingsLetFor rfl rfl rfl (by decide +kernel) ⟨Nat.le_of_ble_eq_true rfl, Nat.le_of_ble_eq_true rfl⟩) hPc hK hN 0 rfl rfl rfl hl.1 rfl (Nat.le_of_ble_eq_true rfl) dX4_oddest_25 ⟨Nat.zero_le _, Nat.zero_le _⟩ ?_
      rw [show (orL (sHit F (1 <<< (p0 &&& 31)) mo) (fun k => bit1 (F 6 k)) c) = (sHi F c p0 mo) from rfl]
      refine lv_lstore_n (lv' := [(3, .long (sHi F c p0 mo)), (0, .ref (q 0)), (1, .int p0), (2, .int mo)]) hx hb dX4_oddest_28 rfl hl (by decide) rfl (fun ls hl => ?_)
      refine lv_iconst (v := (-1)) hx hb dX4_oddest_29 (by decide) ?_
      refine lv_istore (lv' := [(5, .int (-1)), (3, .long (sHi F c p0 mo)), (0, .ref (q 0)), (1, .int p0), (2, .int mo)]) hx hb dX4_oddest_30 hl (by decide) rfl (fun ls hl => ?_)
      refine lv_lconst (v := 1) hx hb dX4_oddest_32 (by decide) ?_
      refine lv_lstore (lv' := [(6, .long 1), (5, .int (-1)), (3, .long (sHi F c p0 mo)), (0, .ref (q 0)), (1, .int p0), (2, .int mo)]) hx hb dX4_oddest_33 hl (by decide) rfl (fun ls hl => ?_)
      refine lv_lconst (v := 1) hx hb dX4_oddest_35 (by decide) ?_
      refine lv_lstore (lv' := [(8, .long 1), (6, .long 1), (5, .int (-1)), (3, .long (sHi F c p0 mo)), (0, .ref (q 0)), (1, .int p0), (2, .int mo)]) hx hb dX4_oddest_36 hl (by decide) rfl (fun ls hl => ?_)
      refine lv_iconst (v := 0) hx hb dX4_oddest_38 (by decide) ?_
      refine lv_istore (lv' := [(10, .int 0), (8, .long 1), (6, .long 1), (5, .int (-1)), (3, .long (sHi F c p0 mo)), (0, .ref (q 0)), (1, .int p0), (2, .int mo)]) hx hb dX4_oddest_39 hl (by decide) rfl (fun ls hl => ?_)
      refine lpW (fun k ls => lv_has ls 17 [(0, .ref (q 0)), (1, .int p0), (2, .int mo), (3, .long (sHi F c p0 mo)), (5, .int ((odC F n c p0 mo k).1)), (6, .long (lN (odC F n c p0 mo k).2.1)), (8, .long (lN (odC F n c p0 mo k).2.2)), (10, .int (nI k))]) 8 0 (Nat.zero_le _) ls (show lv_has ls 17 [(0, .ref (q 0)), (1, .int p0), (2, .int mo), (3, .long (sHi F c p0 mo)), (5, .int ((odC F n c p0 mo 0).1)), (6, .long (lN (odC F n c p0 mo 0).2.1)), (8, .long (lN (odC F n c p0 mo 0).2.2)), (10, .int (nI 0))] from lv_sub hl [5, 6, 7, 4, 3, 2, 1, 0] rfl) ?_ ?_
      · intro ls hl
        have hl : lv_has ls 17 [(0, .ref (q 0)), (1, .int p0), (2, .int mo), (3, .long (sHi F c p0 mo)), (5, .int ((odC F n c p0 mo 8).1)), (6, .long (lN (odC F n c p0 mo 8).2.1)), (8, .long (lN (odC F n c p0 mo 8).2.2)), (10, .int (nI 8))] := hl
        refine lv_iload hx hb dX4_oddest_41 (lv_at hl 7 rfl) ?_
        refine lv_bipush (v := 8) hx hb dX4_oddest_43 (by decide) ?_
        refine lv_icmp_ge (tgt := 124) hx hb dX4_oddest_45 (by decide) (fun c_6 => ?_) (fun c_6 => ?_)
        · have c_7 := i_le c_6
          refine lv_iload hx hb dX4_oddest_124 (lv_at hl 4 rfl) ?_
          exact W.iret (v := ((odC F n c p0 mo 8).1)) hx hb hr (fun t9 ht9 hW9 => ⟨((odC F n c p0 mo 8).1), rfl, (by first | with_reducible rfl | simp [r2, b_3, b_5, c_6, c_7]), ht9⟩) (fun _ h => by cases h) dX4_oddest_126
        · exact absurd (nI_le (b := 8) (Nat.le_refl 8) (by decide)) c_6
      · intro k hk0 hk ih ls hl
        have hl : lv_has ls 17 [(0, .ref (q 0)), (1, .int p0), (2, .int mo), (3, .long (sHi F c p0 mo)), (5, .int ((odC F n c p0 mo k).1)), (6, .long (lN (odC F n c p0 mo k).2.1)), (8, .long (lN (odC F n c p0 mo k).2.2)), (10, .int (nI k))] := hl
        refine lv_iload hx hb dX4_oddest_41 (lv_at hl 7 rfl) ?_
        refine lv_bipush (v := 8) hx hb dX4_oddest_43 (by decide) ?_
        refine lv_icmp_ge (tgt := 124) hx hb dX4_oddest_45 (by decide) (fun c_8 => ?_) (fun c_8 => ?_)
        · exact absurd c_8 (nI_ge (b := 8) hk (by decide))
        · have c_9 := i_nle c_8
          refine lv_aload_n hx hb dX4_oddest_48 rfl (lv_at hl 0 rfl) ?_
          refine va_get (D := D) (ci := 4) (v := .ref (q 1)) (C := RX4) (T := TX4) (N := 5) hx hb hts (fun _ h => List.mem_cons_of_mem _ (List.mem_append_left _ (List.mem_append_left _ (List.mem_append_left _ (List.mem_append_right _ h))))) hown hK hPo 0 rfl rfl 0 (by decide) (hts (.fieldLink RX4 12 "UnderPromise" "things" "LUnderPromise$Things;") (List.mem_of_getElem? (i := 2) rfl)) (fun _ h9 => h9) rfl dX4_oddest_49 ?_
          refine lv_iload hx hb dX4_oddest_52 (lv_at hl 7 rfl) ?_
          refine roVl (As := [.int (nI k)]) (rest := []) (v := (orL (sSold F ((1 : Int32) <<< ((nI k) &&& 31)) 0 119) (fun k => bit1 (nI k)) n)) ⟨hx, hb, hml, hown, hts⟩ (c_X2_ofBatch l D cs q F n c (nI k) hI) (cwV 1 hts gX4_oddest_X2_ofBatch rfl rfl rfl (by decide +kernel) ⟨Nat.le_of_ble_eq_true rfl, Nat.le_of_ble_eq_true rfl⟩) hPt hK hN 0 rfl rfl rfl hl.1 rfl (Nat.le_of_ble_eq_true rfl) dX4_oddest_54 ⟨Nat.zero_le _, Nat.zero_le _⟩ ?_
          rw [show (orL (sSold F ((1 : Int32) <<< ((nI k) &&& 31)) 0 119) (fun k => bit1 (nI k)) n) = (sOb F n (nI k)) from rfl]
          refine lv_lstore (lv' := [(11, .long (sOb F n (nI k))), (0, .ref (q 0)), (1, .int p0), (2, .int mo), (3, .long (sHi F c p0 mo)), (5, .int ((odC F n c p0 mo k).1)), (6, .long (lN (odC F n c p0 mo k).2.1)), (8, .long (lN (odC F n c p0 mo k).2.2)), (10, .int (nI k))]) hx hb dX4_oddest_57 hl (by decide) rfl (fun ls hl => ?_)
          refine lv_lload hx hb dX4_oddest_59 (lv_at hl 0 rfl) ?_
          refine lv_lconst (v := 0) hx hb dX4_oddest_61 (by decide) ?_
          refine W.lcmp hx hb dX4_oddest_62 ?_
          refine lv_if_ne (tgt := 69) hx hb dX4_oddest_63 (by decide) (fun c_10 => ?_) (fun c_10 => ?_)
          · have c_11 := (not_congr (lg_cmp_eq _ _)).mp c_10
            refine lv_aload_n hx hb dX4_oddest_69 rfl (lv_at hl 1 rfl) ?_
            refine lv_lload hx hb dX4_oddest_70 (lv_at hl 0 rfl) ?_
            refine lv_lload_n hx hb dX4_oddest_72 rfl (lv_at hl 4 rfl) ?_
            refine roVl (As := [.long (sOb F n (nI k)), .long (sHi F c p0 mo)]) (rest := []) (v := (lN (uW (ctN (bitL (sHi F c p0 mo)) 64) n (ctN (bitL (sOb F n (nI k))) 64) (ctN (bitL ((sOb F n (nI k)) &&& (sHi F c p0 mo))) 64)))) ⟨hx, hb, hml, hown, hts⟩ (c_X4_waysAsOddOrOdder l D cs q F n c g (sOb F n (nI k)) (sHi F c p0 mo) hI (by rw [ob_ct hI (rg_k7 hk)]; exact sNb_le) (by rw [hi_ct hI b_3]; exact sK_le)) (cwV 2 hts gX4_oddest_X4_waysAsOddOrOdder rfl rfl rfl (by decide +kernel) ⟨Nat.le_of_ble_eq_true rfl, Nat.le_of_ble_eq_true rfl⟩) hP hK hN 0 rfl rfl rfl hl.1 rfl (Nat.le_of_ble_eq_true rfl) dX4_oddest_73 ⟨Nat.zero_le _, Nat.zero_le _⟩ ?_
            rw [show (lN (uW (ctN (bitL (sHi F c p0 mo)) 64) n (ctN (bitL (sOb F n (nI k))) 64) (ctN (bitL ((sOb F n (nI k)) &&& (sHi F c p0 mo))) 64))) = (lN (cU F n c (nI k) p0 mo)) from by rw [ob_ct hI (rg_k7 hk), hi_ct hI b_3, oh_ct hI (rg_k7 hk) b_3]; rfl]
            refine lv_lstore (lv' := [(13, .long (lN (cU F n c (nI k) p0 mo))), (11, .long (sOb F n (nI k))), (0, .ref (q 0)), (1, .int p0), (2, .int mo), (3, .long (sHi F c p0 mo)), (5, .int ((odC F n c p0 mo k).1)), (6, .long (lN (odC F n c p0 mo k).2.1)), (8, .long (lN (odC F n c p0 mo k).2.2)), (10, .int (nI k))]) hx hb dX4_oddest_76 hl (by decide) rfl (fun ls hl => ?_)
            refine lv_aload_n hx hb dX4_oddest_78 rfl (lv_at hl 2 rfl) ?_
            refine lv_lload hx hb dX4_oddest_79 (lv_at hl 1 rfl) ?_
            refine roVl (As := [.long (sOb F n (nI k))]) (rest := []) (v := (lN (chs n (ctN (bitL (sOb F n (nI k))) 64)))) ⟨hx, hb, hml, hown, hts⟩ (c_X4_waysInAll l D cs q F n c g (sOb F n (nI k)) hI (by rw [ob_ct hI (rg_k7 hk)]; exact sNb_le)) (cwV 1 hts gX4_oddest_X4_waysInAll rfl rfl rfl (by decide +kernel) ⟨Nat.le_of_ble_eq_true rfl, Nat.le_of_ble_eq_true rfl⟩) hP hK hN 0 rfl rfl rfl hl.1 rfl (Nat.le_of_ble_eq_true rfl) dX4_oddest_81 ⟨Nat.zero_le _, Nat.zero_le _⟩ ?_
            rw [show (lN (chs n (ctN (bitL (sOb F n (nI k))) 64))) = (lN (cL F n (nI k))) from by rw [ob_ct hI (rg_k7 hk)]; rfl]
            refine lv_lstore (lv' := [(15, .long (lN (cL F n (nI k)))), (13, .long (lN (cU F n c (nI k) p0 mo))), (11, .long (sOb F n (nI k))), (0, .ref (q 0)), (1, .int p0), (2, .int mo), (3, .long (sHi F c p0 mo)), (5, .int ((odC F n c p0 mo k).1)), (6, .long (lN (odC F n c p0 mo k).2.1)), (8, .long (lN (odC F n c p0 mo k).2.2)), (10, .int (nI k))]) hx hb dX4_oddest_84 hl (by decide) rfl (fun ls hl => ?_)
            refine lv_iload hx hb dX4_oddest_86 (lv_at hl 7 rfl) ?_
            refine lv_iconst (v := (-1)) hx hb dX4_oddest_88 (by decide) ?_
            refine lv_icmp_eq (tgt := 106) hx hb dX4_oddest_89 (by decide) (fun c_12 => ?_) (fun c_12 => ?_)
            · refine lv_iload hx hb dX4_oddest_106 (lv_at hl 10 rfl) ?_
              refine lv_istore (lv' := [(5, .int (nI k)), (15, .long (lN (cL F n (nI k)))), (13, .long (lN (cU F n c (nI k) p0 mo))), (11, .long (sOb F n (nI k))), (0, .ref (q 0)), (1, .int p0), (2, .int mo), (3, .long (sHi F c p0 mo)), (6, .long (lN (odC F n c p0 mo k).2.1)), (8, .long (lN (odC F n c p0 mo k).2.2)), (10, .int (nI k))]) hx hb dX4_oddest_108 hl (by decide) rfl (fun ls hl => ?_)
              refine lv_lload hx hb dX4_oddest_110 (lv_at hl 2 rfl) ?_
              refine lv_lstore (lv' := [(6, .long (lN (cU F n c (nI k) p0 mo))), (5, .int (nI k)), (15, .long (lN (cL F n (nI k)))), (13, .long (lN (cU F n c (nI k) p0 mo))), (11, .long (sOb F n (nI k))), (0, .ref (q 0)), (1, .int p0), (2, .int mo), (3, .long (sHi F c p0 mo)), (8, .long (lN (odC F n c p0 mo k).2.2)), (10, .int (nI k))]) hx hb dX4_oddest_112 hl (by decide) rfl (fun ls hl => ?_)
              refine lv_lload hx hb dX4_oddest_114 (lv_at hl 2 rfl) ?_
              refine lv_lstore (lv' := [(8, .long (lN (cL F n (nI k)))), (6, .long (lN (cU F n c (nI k) p0 mo))), (5, .int (nI k)), (15, .long (lN (cL F n (nI k)))), (13, .long (lN (cU F n c (nI k) p0 mo))), (11, .long (sOb F n (nI k))), (0, .ref (q 0)), (1, .int p0), (2, .int mo), (3, .long (sHi F c p0 mo)), (10, .int (nI k))]) hx hb dX4_oddest_116 hl (by decide) rfl (fun ls hl => ?_)
              refine lv_iinc (v := ((nI k) + 1)) (lv' := [(10, .int ((nI k) + 1)), (8, .long (lN (cL F n (nI k)))), (6, .long (lN (cU F n c (nI k) p0 mo))), (5, .int (nI k)), (15, .long (lN (cL F n (nI k)))), (13, .long (lN (cU F n c (nI k) p0 mo))), (11, .long (sOb F n (nI k))), (0, .ref (q 0)), (1, .int p0), (2, .int mo), (3, .long (sHi F c p0 mo))]) hx hb dX4_oddest_118 hl (k := 10) rfl rfl (by decide) rfl (fun ls hl => ?_)
              refine lv_goto (tgt := 41) hx hb dX4_oddest_121 (by decide) ?_
              have h_13 : (nI k) = ((odC F n c p0 mo (k + 1)).1) := (by first | with_reducible rfl | simp [odC, b_3, b_5, c_8, c_9, c_11, c_12, (not_congr (ob_0 hI (rg_k7 hk))).mp c_11])
              have h_14 : (lN (cU F n c (nI k) p0 mo)) = (lN (odC F n c p0 mo (k + 1)).2.1) := (by first | with_reducible rfl | simp [odC, b_3, b_5, c_8, c_9, c_11, c_12, (not_congr (ob_0 hI (rg_k7 hk))).mp c_11])
              have h_15 : (lN (cL F n (nI k))) = (lN (odC F n c p0 mo (k + 1)).2.2) := (by first | with_reducible rfl | simp [odC, b_3, b_5, c_8, c_9, c_11, c_12, (not_congr (ob_0 hI (rg_k7 hk))).mp c_11])
              have h_16 : ((nI k) + 1) = (nI (k + 1)) := (nI_1 _)
              exact ih _ (lv_cast (lv_sub (l' := [(0, .ref (q 0)), (1, .int p0), (2, .int mo), (3, .long (sHi F c p0 mo)), (5, .int (nI k)), (6, .long (lN (cU F n c (nI k) p0 mo))), (8, .long (lN (cL F n (nI k)))), (10, .int ((nI k) + 1))]) hl [7, 8, 9, 10, 3, 2, 1, 0] rfl) (cg4 (fun z13 z14 z15 z16 => [(0, .ref (q 0)), (1, .int p0), (2, .int mo), (3, .long (sHi F c p0 mo)), (5, .int z13), (6, .long z14), (8, .long z15), (10, .int z16)]) h_13 h_14 h_15 h_16))
            · refine lv_lload hx hb dX4_oddest_92 (lv_at hl 1 rfl) ?_
              refine lv_lload hx hb dX4_oddest_94 (lv_at hl 0 rfl) ?_
              refine lv_lload hx hb dX4_oddest_96 (lv_at hl 8 rfl) ?_
              refine lv_lload hx hb dX4_oddest_98 (lv_at hl 9 rfl) ?_
              refine roSi (As := [.long (lN (cU F n c (nI k) p0 mo)), .long (lN (cL F n (nI k))), .long (lN (odC F n c p0 mo k).2.1), .long (lN (odC F n c p0 mo k).2.2)]) (rest := []) (v := (bI (decide ((cU F n c (nI k) p0 mo) * ((odC F n c p0 mo k).2.2) < ((odC F n c p0 mo k).2.1) * (cL F n (nI k)))))) ⟨hx, hb, hml, hown, hts⟩ (c_X4_isLess l (cU F n c (nI k) p0 mo) (cL F n (nI k)) ((odC F n c p0 mo k).2.1) ((odC F n c p0 mo k).2.2) (cU_63 hI) (cL_63 hI) (odC_ok hI k).1 (odC_ok hI k).2.1 cL_pos (odC_ok hI k).2.2) (va_cwS 4 hts gX4_oddest_X4_isLess rfl rfl rfl (by decide +kernel) ⟨Nat.le_of_ble_eq_true rfl, Nat.le_of_ble_eq_true rfl⟩) rfl hl.1 rfl (Nat.le_of_ble_eq_true rfl) dX4_oddest_100 ⟨Nat.zero_le _, Nat.zero_le _⟩ ?_
              refine lv_if_eq (tgt := 118) hx hb dX4_oddest_103 (by decide) (fun c_17 => ?_) (fun c_17 => ?_)
              · have b_18 : (decide ((cU F n c (nI k) p0 mo) * ((odC F n c p0 mo k).2.2) < ((odC F n c p0 mo k).2.1) * (cL F n (nI k)))) = false := bI_f c_17
                refine lv_iinc (v := ((nI k) + 1)) (lv' := [(10, .int ((nI k) + 1)), (15, .long (lN (cL F n (nI k)))), (13, .long (lN (cU F n c (nI k) p0 mo))), (11, .long (sOb F n (nI k))), (0, .ref (q 0)), (1, .int p0), (2, .int mo), (3, .long (sHi F c p0 mo)), (5, .int ((odC F n c p0 mo k).1)), (6, .long (lN (odC F n c p0 mo k).2.1)), (8, .long (lN (odC F n c p0 mo k).2.2))]) hx hb dX4_oddest_118 hl (k := 10) rfl rfl (by decide) rfl (fun ls hl => ?_)
                refine lv_goto (tgt := 41) hx hb dX4_oddest_121 (by decide) ?_
                have h_19 : ((odC F n c p0 mo k).1) = ((odC F n c p0 mo (k + 1)).1) := (by first | with_reducible rfl | simp [odC, b_3, b_5, c_8, c_9, c_11, c_12, b_18, (not_congr (ob_0 hI (rg_k7 hk))).mp c_11, of_decide_eq_false b_18])
                have h_20 : (lN (odC F n c p0 mo k).2.1) = (lN (odC F n c p0 mo (k + 1)).2.1) := (by first | with_reducible rfl | simp [odC, b_3, b_5, c_8, c_9, c_11, c_12, b_18, (not_congr (ob_0 hI (rg_k7 hk))).mp c_11, of_decide_eq_false b_18])
                have h_21 : (lN (odC F n c p0 mo k).2.2) = (lN (odC F n c p0 mo (k + 1)).2.2) := (by first | with_reducible rfl | simp [odC, b_3, b_5, c_8, c_9, c_11, c_12, b_18, (not_congr (ob_0 hI (rg_k7 hk))).mp c_11, of_decide_eq_false b_18])
                have h_22 : ((nI k) + 1) = (nI (k + 1)) := (nI_1 _)
                exact ih _ (lv_cast (lv_sub (l' := [(0, .ref (q 0)), (1, .int p0), (2, .int mo), (3, .long (sHi F c p0 mo)), (5, .int ((odC F n c p0 mo k).1)), (6, .long (lN (odC F n c p0 mo k).2.1)), (8, .long (lN (odC F n c p0 mo k).2.2)), (10, .int ((nI k) + 1))]) hl [4, 5, 6, 7, 8, 9, 10, 0] rfl) (cg4 (fun z19 z20 z21 z22 => [(0, .ref (q 0)), (1, .int p0), (2, .int mo), (3, .long (sHi F c p0 mo)), (5, .int z19), (6, .long z20), (8, .long z21), (10, .int z22)]) h_19 h_20 h_21 h_22))
              · have b_23 : (decide ((cU F n c (nI k) p0 mo) * ((odC F n c p0 mo k).2.2) < ((odC F n c p0 mo k).2.1) * (cL F n (nI k)))) = true := bI_t c_17
                refine lv_iload hx hb dX4_oddest_106 (lv_at hl 10 rfl) ?_
                refine lv_istore (lv' := [(5, .int (nI k)), (15, .long (lN (cL F n (nI k)))), (13, .long (lN (cU F n c (nI k) p0 mo))), (11, .long (sOb F n (nI k))), (0, .ref (q 0)), (1, .int p0), (2, .int mo), (3, .long (sHi F c p0 mo)), (6, .long (lN (odC F n c p0 mo k).2.1)), (8, .long (lN (odC F n c p0 mo k).2.2)), (10, .int (nI k))]) hx hb dX4_oddest_108 hl (by decide) rfl (fun ls hl => ?_)
                refine lv_lload hx hb dX4_oddest_110 (lv_at hl 2 rfl) ?_
                refine lv_lstore (lv' := [(6, .long (lN (cU F n c (nI k) p0 mo))), (5, .int (nI k)), (15, .long (lN (cL F n (nI k)))), (13, .long (lN (cU F n c (nI k) p0 mo))), (11, .long (sOb F n (nI k))), (0, .ref (q 0)), (1, .int p0), (2, .int mo), (3, .long (sHi F c p0 mo)), (8, .long (lN (odC F n c p0 mo k).2.2)), (10, .int (nI k))]) hx hb dX4_oddest_112 hl (by decide) rfl (fun ls hl => ?_)
                refine lv_lload hx hb dX4_oddest_114 (lv_at hl 2 rfl) ?_
                refine lv_lstore (lv' := [(8, .long (lN (cL F n (nI k)))), (6, .long (lN (cU F n c (nI k) p0 mo))), (5, .int (nI k)), (15, .long (lN (cL F n (nI k)))), (13, .long (lN (cU F n c (nI k) p0 mo))), (11, .long (sOb F n (nI k))), (0, .ref (q 0)), (1, .int p0), (2, .int mo), (3, .long (sHi F c p0 mo)), (10, .int (nI k))]) hx hb dX4_oddest_116 hl (by decide) rfl (fun ls hl => ?_)
                refine lv_iinc (v := ((nI k) + 1)) (lv' := [(10, .int ((nI k) + 1)), (8, .long (lN (cL F n (nI k)))), (6, .long (lN (cU F n c (nI k) p0 mo))), (5, .int (nI k)), (15, .long (lN (cL F n (nI k)))), (13, .long (lN (cU F n c (nI k) p0 mo))), (11, .long (sOb F n (nI k))), (0, .ref (q 0)), (1, .int p0), (2, .int mo), (3, .long (sHi F c p0 mo))]) hx hb dX4_oddest_118 hl (k := 10) rfl rfl (by decide) rfl (fun ls hl => ?_)
                refine lv_goto (tgt := 41) hx hb dX4_oddest_121 (by decide) ?_
                have h_24 : (nI k) = ((odC F n c p0 mo (k + 1)).1) := (by first | with_reducible rfl | simp [odC, b_3, b_5, c_8, c_9, c_11, c_12, b_23, (not_congr (ob_0 hI (rg_k7 hk))).mp c_11, of_decide_eq_true b_23])
                have h_25 : (lN (cU F n c (nI k) p0 mo)) = (lN (odC F n c p0 mo (k + 1)).2.1) := (by first | with_reducible rfl | simp [odC, b_3, b_5, c_8, c_9, c_11, c_12, b_23, (not_congr (ob_0 hI (rg_k7 hk))).mp c_11, of_decide_eq_true b_23])
                have h_26 : (lN (cL F n (nI k))) = (lN (odC F n c p0 mo (k + 1)).2.2) := (by first | with_reducible rfl | simp [odC, b_3, b_5, c_8, c_9, c_11, c_12, b_23, (not_congr (ob_0 hI (rg_k7 hk))).mp c_11, of_decide_eq_true b_23])
                have h_27 : ((nI k) + 1) = (nI (k + 1)) := (nI_1 _)
                exact ih _ (lv_cast (lv_sub (l' := [(0, .ref (q 0)), (1, .int p0), (2, .int mo), (3, .long (sHi F c p0 mo)), (5, .int (nI k)), (6, .long (lN (cU F n c (nI k) p0 mo))), (8, .long (lN (cL F n (nI k)))), (10, .int ((nI k) + 1))]) hl [7, 8, 9, 10, 3, 2, 1, 0] rfl) (cg4 (fun z24 z25 z26 z27 => [(0, .ref (q 0)), (1, .int p0), (2, .int mo), (3, .long (sHi F c p0 mo)), (5, .int z24), (6, .long z25), (8, .long z26), (10, .int z27)]) h_24 h_25 h_26 h_27))
          · have c_28 := (lg_cmp_eq _ _).mp c_10
            refine lv_goto (tgt := 118) hx hb dX4_oddest_66 (by decide) ?_
            refine lv_iinc (v := ((nI k) + 1)) (lv' := [(10, .int ((nI k) + 1)), (11, .long (sOb F n (nI k))), (0, .ref (q 0)), (1, .int p0), (2, .int mo), (3, .long (sHi F c p0 mo)), (5, .int ((odC F n c p0 mo k).1)), (6, .long (lN (odC F n c p0 mo k).2.1)), (8, .long (lN (odC F n c p0 mo k).2.2))]) hx hb dX4_oddest_118 hl (k := 8) rfl rfl (by decide) rfl (fun ls hl => ?_)
            refine lv_goto (tgt := 41) hx hb dX4_oddest_121 (by decide) ?_
            have h_29 : ((odC F n c p0 mo k).1) = ((odC F n c p0 mo (k + 1)).1) := (by first | with_reducible rfl | simp [odC, b_3, b_5, c_8, c_9, c_28, (ob_0 hI (rg_k7 hk)).mp c_28])
            have h_30 : (lN (odC F n c p0 mo k).2.1) = (lN (odC F n c p0 mo (k + 1)).2.1) := (by first | with_reducible rfl | simp [odC, b_3, b_5, c_8, c_9, c_28, (ob_0 hI (rg_k7 hk)).mp c_28])
            have h_31 : (lN (odC F n c p0 mo k).2.2) = (lN (odC F n c p0 mo (k + 1)).2.2) := (by first | with_reducible rfl | simp [odC, b_3, b_5, c_8, c_9, c_28, (ob_0 hI (rg_k7 hk)).mp c_28])
            have h_32 : ((nI k) + 1) = (nI (k + 1)) := (nI_1 _)
            exact ih _ (lv_cast (lv_sub (l' := [(0, .ref (q 0)), (1, .int p0), (2, .int mo), (3, .long (sHi F c p0 mo)), (5, .int ((odC F n c p0 mo k).1)), (6, .long (lN (odC F n c p0 mo k).2.1)), (8, .long (lN (odC F n c p0 mo k).2.2)), (10, .int ((nI k) + 1))]) hl [2, 3, 4, 5, 6, 7, 8, 0] rfl) (cg4 (fun z29 z30 z31 z32 => [(0, .ref (q 0)), (1, .int p0), (2, .int mo), (3, .long (sHi F c p0 mo)), (5, .int z29), (6, .long z30), (8, .long z31), (10, .int z32)]) h_29 h_30 h_31 h_32))
    · have b_33 : (rg mo 0 300) = false := bI_f c_4
      refine lv_bipush (v := (-2)) hx hb dX4_oddest_14 (by decide) ?_
      exact W.iret (v := (-2)) hx hb hr (fun t9 ht9 hW9 => ⟨(-2), rfl, (by first | with_reducible rfl | simp [r2, b_3, b_33]), ht9⟩) (fun _ h => by cases h) dX4_oddest_16
set_option maxHeartbeats 4000000 in
set_option maxRecDepth 100000 in
/-- X4_rate -/
theorem c_X4_rate (l : Launch) (D : va_G) (cs : Nat → ClassId) (q : Nat → Nat) (F : Nat → Nat → Int32) (n c : Nat) (g : Int32) (a : Int32) (mo : Int32) (w : Int32) (hI : Inv F n c) : Met l yX4_rate wsX4_rate ({ frames := 2, cells := 0, slots := 0, locals := 56 }) (va_Pc [.ref (q 0), .int a, .int mo, .int w] (pw D cs (xW q cs F n c g))) (vp_Si (fun r => r = (aRate F n c (sAge F a mo) a mo w))) 0 0 (fun _ => False) := by
  refine Met.ofW (cc := cX4_rate) (maxL := 5) (ret := (some .int)) (by decide) rfl ?_
  intro p e s m args below meth c_ s₁ B hml hv
  obtain ⟨rfl, hP, hK, hN⟩ := hv
  have hx := B.exec
  have hb := B.bytes
  have hr := B.returns
  have hts := atoms_spec (ws := wsX4_rate) B.pre
  have hown : s.vm.findClass RX4 = some m.cls := findClass_of_methodNamed B.named
  have hlocks := B.notSynchronized
  have hl := lv_entry ([.ref (q 0), .int a, .int mo, .int w]) (n := 5) (Nat.le_of_ble_eq_true rfl)
  rw [lg_entry_eq]
  generalize (lg_sl ([.ref (q 0), .int a, .int mo, .int w]) ++ List.replicate (5 - (lg_sl ([.ref (q 0), .int a, .int mo, .int w])).length) Slot.unset).toArray = ls at hl ⊢
  have hl : lv_has ls 5 [(0, .ref (q 0)), (1, .int a), (2, .int mo), (3, .int w)] := hl
  have hPo := va_P_l hP
  have hPt := va_P_l (va_P_r hP)
  have hPc := va_P_l (va_P_r (va_P_r hP))
  have hPp := va_P_l (va_P_r (va_P_r (va_P_r hP)))
  have hPw := va_P_r (va_P_r (va_P_r (va_P_r hP)))
  have hn60 := hI.n60
  have hc100 := hI.c100
  refine lv_iload_n hx hb dX4_rate_0 rfl (lv_at hl 1 rfl) ?_
  refine roSi (As := [.int a]) (rest := []) (v := (bI (rg a 0 300))) ⟨hx, hb, hml, hown, hts⟩ (c_X4_isMonth l a) (va_cwS 1 hts gX4_rate_X4_isMonth rfl rfl rfl (by decide +kernel) ⟨Nat.le_of_ble_eq_true rfl, Nat.le_of_ble_eq_true rfl⟩) rfl hl.1 rfl (Nat.le_of_ble_eq_true rfl) dX4_rate_1 ⟨Nat.zero_le _, Nat.zero_le _⟩ ?_
  refine lv_if_eq (tgt := 21) hx hb dX4_rate_4 (by decide) (fun c_1 => ?_) (fun c_1 => ?_)
  · have b_2 : (rg a 0 300) = false := bI_f c_1
    refine lv_bipush (v := (-2)) hx hb dX4_rate_21 (by decide) ?_
    exact W.iret (v := (-2)) hx hb hr (fun t9 ht9 hW9 => ⟨(-2), rfl, (by first | with_reducible rfl | simp [aRate, r3, lN_i, b_2]), ht9⟩) (fun _ h => by cases h) dX4_rate_23
  · have b_3 : (rg a 0 300) = true := bI_t c_1
    refine lv_iload_n hx hb dX4_rate_7 rfl (lv_at hl 2 rfl) ?_
    refine roSi (As := [.int mo]) (rest := []) (v := (bI (rg mo 0 300))) ⟨hx, hb, hml, hown, hts⟩ (c_X4_isMonth l mo) (va_cwS 1 hts gX4_rate_X4_isMonth rfl rfl rfl (by decide +kernel) ⟨Nat.le_of_ble_eq_true rfl, Nat.le_of_ble_eq_true rfl⟩) rfl hl.1 rfl (Nat.le_of_ble_eq_true rfl) dX4_rate_8 ⟨Nat.zero_le _, Nat.zero_le _⟩ ?_
    refine lv_if_eq (tgt := 21) hx hb dX4_rate_11 (by decide) (fun c_4 => ?_) (fun c_4 => ?_)
    · have b_5 : (rg mo 0 300) = false := bI_f c_4
      refine lv_bipush (v := (-2)) hx hb dX4_rate_21 (by decide) ?_
      exact W.iret (v := (-2)) hx hb hr (fun t9 ht9 hW9 => ⟨(-2), rfl, (by first | with_reducible rfl | simp [aRate, r3, lN_i, b_3, b_5]), ht9⟩) (fun _ h => by cases h) dX4_rate_23
    · have b_6 : (rg mo 0 300) = true := bI_t c_4
      refine lv_iload_n hx hb dX4_rate_14 rfl (lv_at hl 3 rfl) ?_
      refine roSi (As := [.int w]) (rest := []) (v := (bI (rg w 0 1))) ⟨hx, hb, hml, hown, hts⟩ (c_X4_isAboveOrBelow l w) (va_cwS 1 hts gX4_rate_X4_isAboveOrBelow rfl rfl rfl (by decide +kernel) ⟨Nat.le_of_ble_eq_true rfl, Nat.le_of_ble_eq_true rfl⟩) rfl hl.1 rfl (Nat.le_of_ble_eq_true rfl) dX4_rate_15 ⟨Nat.zero_le _, Nat.zero_le _⟩ ?_
      refine lv_if_ne (tgt := 24) hx hb dX4_rate_18 (by decide) (fun c_7 => ?_) (fun c_7 => ?_)
      · have b_8 : (rg w 0 1) = true := bI_t c_7
        refine lv_aload_n hx hb dX4_rate_24 rfl (lv_at hl 0 rfl) ?_
        refine va_get (D := D) (ci := 4) (v := .ref (q 1)) (C := RX4) (T := TX4) (N := 5) hx hb hts (fun _ h => List.mem_cons_of_mem _ (List.mem_append_left _ (List.mem_append_left _ (List.mem_append_right _ h)))) hown hK hPo 0 rfl rfl 0 (by decide) (hts (.fieldLink RX4 12 "UnderPromise" "things" "LUnderPromise$Things;") (List.mem_of_getElem? (i := 1) rfl)) (fun _ h9 => h9) rfl dX4_rate_25 ?_
        refine lv_iload_n hx hb dX4_rate_28 rfl (lv_at hl 1 rfl) ?_
        refine lv_iload_n hx hb dX4_rate_29 rfl (lv_at hl 2 rfl) ?_
        refine roVi (As := [.int a, .int mo]) (rest := []) (v := (ctI (sExp F a mo) n)) ⟨hx, hb, hml, hown, hts⟩ (c_X2_coveredAtAge l D cs q F n c a mo hI) (cwV 2 hts gX4_rate_X2_coveredAtAge rfl rfl rfl (by decide +kernel) ⟨Nat.le_of_ble_eq_true rfl, Nat.le_of_ble_eq_true rfl⟩) hPt hK hN 0 rfl rfl rfl hl.1 rfl (Nat.le_of_ble_eq_true rfl) dX4_rate_30 ⟨Nat.zero_le _, Nat.zero_le _⟩ ?_
        refine lv_istore (lv' := [(4, .int (ctI (sExp F a mo) n)), (0, .ref (q 0)), (1, .int a), (2, .int mo), (3, .int w)]) hx hb dX4_rate_33 hl (by decide) rfl (fun ls hl => ?_)
        refine lv_iload hx hb dX4_rate_35 (lv_at hl 0 rfl) ?_
        refine lv_if_ne (tgt := 43) hx hb dX4_rate_37 (by decide) (fun c_9 => ?_) (fun c_9 => ?_)
        · refine lv_aload_n hx hb dX4_rate_43 rfl (lv_at hl 1 rfl) ?_
          refine va_get (D := D) (ci := 4) (v := .ref (q 2)) (C := RX4) (T := TX4) (N := 5) hx hb hts (fun _ h => List.mem_cons_of_mem _ (List.mem_append_left _ (List.mem_append_left _ (List.mem_append_right _ h)))) hown hK hPo 0 rfl rfl 1 (by decide) (hts (.fieldLink RX4 19 "UnderPromise" "claims" "LUnderPromise$Claims;") (List.mem_of_getElem? (i := 2) rfl)) (fun _ h9 => h9) rfl dX4_rate_44 ?_
          refine lv_iload_n hx hb dX4_rate_47 rfl (lv_at hl 2 rfl) ?_
          refine lv_iload_n hx hb dX4_rate_48 rfl (lv_at hl 3 rfl) ?_
          refine roVi (As := [.int a, .int mo]) (rest := []) (v := (ctI (sAge F a mo) c)) ⟨hx, hb, hml, hown, hts⟩ (c_X0_letAtAge l D cs q F n c a mo hI) (cwV 2 hts gX4_rate_X0_letAtAge rfl rfl rfl (by decide +kernel) ⟨Nat.le_of_ble_eq_true rfl, Nat.le_of_ble_eq_true rfl⟩) hPc hK hN 0 rfl rfl rfl hl.1 rfl (Nat.le_of_ble_eq_true rfl) dX4_rate_49 ⟨Nat.zero_le _, Nat.zero_le _⟩ ?_
          refine lv_i2l (v := (Int32.toInt64 (ctI (sAge F a mo) c))) hx hb dX4_rate_52 rfl ?_
          rw [show (Int32.toInt64 (ctI (sAge F a mo) c)) = lN (ctN (sAge F a mo) c) from by rw [ctI_N, nI_l (by have h9 := ctN_le (p := (sAge F a mo)) c; omega)]]
          refine lv_iload hx hb dX4_rate_53 (lv_at hl 0 rfl) ?_
          refine lv_i2l (v := (Int32.toInt64 (ctI (sExp F a mo) n))) hx hb dX4_rate_55 rfl ?_
          rw [show (Int32.toInt64 (ctI (sExp F a mo) n)) = lN (ctN (sExp F a mo) n) from by rw [ctI_N, nI_l (by have h9 := ctN_le (p := (sExp F a mo)) n; omega)]]
          refine lv_iload_n hx hb dX4_rate_56 rfl (lv_at hl 4 rfl) ?_
          refine roSl (As := [.long (lN (ctN (sAge F a mo) c)), .long (lN (ctN (sExp F a mo) n)), .int w]) (rest := []) (v := (lN ((if w = 0 then (ctN (sAge F a mo) c) else (ctN (sExp F a mo) n)) / Nat.gcd (ctN (sAge F a mo) c) (ctN (sExp F a mo) n)))) ⟨hx, hb, hml, hown, hts⟩ (c_X4_ofLowestTerms l (ctN (sAge F a mo) c) (ctN (sExp F a mo) n) w (Nat.lt_of_le_of_lt (ctN_le _) (by omega)) (Nat.lt_of_le_of_lt (ctN_le _) (by omega)) (ct_pos c_9)) (va_cwS 3 hts gX4_rate_X4_ofLowestTerms rfl rfl rfl (by decide +kernel) ⟨Nat.le_of_ble_eq_true rfl, Nat.le_of_ble_eq_true rfl⟩) rfl hl.1 rfl (Nat.le_of_ble_eq_true rfl) dX4_rate_57 ⟨Nat.zero_le _, Nat.zero_le _⟩ ?_
          refine lv_l2i (v := (Int64.toInt32 (lN ((if w = 0 then (ctN (sAge F a mo) c) else (ctN (sExp F a mo) n)) / Nat.gcd (ctN (sAge F a mo) c) (ctN (sExp F a mo) n))))) hx hb dX4_rate_60 rfl ?_
          exact W.iret (v := (Int64.toInt32 (lN ((if w = 0 then (ctN (sAge F a mo) c) else (ctN (sExp F a mo) n)) / Nat.gcd (ctN (sAge F a mo) c) (ctN (sExp F a mo) n))))) hx hb hr (fun t9 ht9 hW9 => ⟨(Int64.toInt32 (lN ((if w = 0 then (ctN (sAge F a mo) c) else (ctN (sExp F a mo) n)) / Nat.gcd (ctN (sAge F a mo) c) (ctN (sExp F a mo) n)))), rfl, (by first | with_reducible rfl | simp [aRate, r3, lN_i, b_3, b_6, b_8, c_9]), ht9⟩) (fun _ h => by cases h) dX4_rate_61
        · refine lv_bipush (v := (-3)) hx hb dX4_rate_40 (by decide) ?_
          exact W.iret (v := (-3)) hx hb hr (fun t9 ht9 hW9 => ⟨(-3), rfl, (by first | with_reducible rfl | simp [aRate, r3, lN_i, b_3, b_6, b_8, c_9]), ht9⟩) (fun _ h => by cases h) dX4_rate_42
      · have b_10 : (rg w 0 1) = false := bI_f c_7
        refine lv_bipush (v := (-2)) hx hb dX4_rate_21 (by decide) ?_
        exact W.iret (v := (-2)) hx hb hr (fun t9 ht9 hW9 => ⟨(-2), rfl, (by first | with_reducible rfl | simp [aRate, r3, lN_i, b_3, b_6, b_10]), ht9⟩) (fun _ h => by cases h) dX4_rate_23
set_option maxHeartbeats 4000000 in
set_option maxRecDepth 100000 in
/-- X4_called -/
theorem c_X4_called (l : Launch) (D : va_G) (cs : Nat → ClassId) (q : Nat → Nat) (F : Nat → Nat → Int32) (n c : Nat) (g : Int32) (pt : Int32) (bs : Int32) (fr : Int32) (to0 : Int32) (hI : Inv F n c) : Met l yX4_called wsX4_called ({ frames := 5, cells := 0, slots := 0, locals := 115 }) (va_Pc [.ref (q 0), .int pt, .int bs, .int fr, .int to0] (pw D cs (xW q cs F n c g))) (vp_Si (fun r => r = (if canK pt bs fr to0 = true then nI (ctN (bitL (cald F n c pt bs fr to0)) 64) else -2))) 0 0 (fun _ => False) := by
  refine Met.ofW (cc := cX4_called) (maxL := 5) (ret := (some .int)) (by decide) rfl ?_
  intro p e s m args below meth c_ s₁ B hml hv
  obtain ⟨rfl, hP, hK, hN⟩ := hv
  have hx := B.exec
  have hb := B.bytes
  have hr := B.returns
  have hts := atoms_spec (ws := wsX4_called) B.pre
  have hown : s.vm.findClass RX4 = some m.cls := findClass_of_methodNamed B.named
  have hlocks := B.notSynchronized
  have hl := lv_entry ([.ref (q 0), .int pt, .int bs, .int fr, .int to0]) (n := 5) (Nat.le_of_ble_eq_true rfl)
  rw [lg_entry_eq]
  generalize (lg_sl ([.ref (q 0), .int pt, .int bs, .int fr, .int to0]) ++ List.replicate (5 - (lg_sl ([.ref (q 0), .int pt, .int bs, .int fr, .int to0])).length) Slot.unset).toArray = ls at hl ⊢
  have hl : lv_has ls 5 [(0, .ref (q 0)), (1, .int pt), (2, .int bs), (3, .int fr), (4, .int to0)] := hl
  have hPo := va_P_l hP
  have hPt := va_P_l (va_P_r hP)
  have hPc := va_P_l (va_P_r (va_P_r hP))
  have hPp := va_P_l (va_P_r (va_P_r (va_P_r hP)))
  have hPw := va_P_r (va_P_r (va_P_r (va_P_r hP)))
  have hn60 := hI.n60
  have hc100 := hI.c100
  refine lv_iload_n hx hb dX4_called_0 rfl (lv_at hl 1 rfl) ?_
  refine lv_iload_n hx hb dX4_called_1 rfl (lv_at hl 2 rfl) ?_
  refine lv_iload_n hx hb dX4_called_2 rfl (lv_at hl 3 rfl) ?_
  refine lv_iload hx hb dX4_called_3 (lv_at hl 4 rfl) ?_
  refine roSi (As := [.int pt, .int bs, .int fr, .int to0]) (rest := []) (v := (bI (canK pt bs fr to0))) ⟨hx, hb, hml, hown, hts⟩ (c_X4_canBeCalled l pt bs fr to0) (va_cwS 4 hts gX4_called_X4_canBeCalled rfl rfl rfl (by decide +kernel) ⟨Nat.le_of_ble_eq_true rfl, Nat.le_of_ble_eq_true rfl⟩) rfl hl.1 rfl (Nat.le_of_ble_eq_true rfl) dX4_called_5 ⟨Nat.zero_le _, Nat.zero_le _⟩ ?_
  refine lv_if_ne (tgt := 14) hx hb dX4_called_8 (by decide) (fun c_1 => ?_) (fun c_1 => ?_)
  · have b_2 : (canK pt bs fr to0) = true := bI_t c_1
    refine lv_aload_n hx hb dX4_called_14 rfl (lv_at hl 0 rfl) ?_
    refine lv_iload_n hx hb dX4_called_15 rfl (lv_at hl 1 rfl) ?_
    refine lv_iload_n hx hb dX4_called_16 rfl (lv_at hl 2 rfl) ?_
    refine lv_iload_n hx hb dX4_called_17 rfl (lv_at hl 3 rfl) ?_
    refine lv_iload hx hb dX4_called_18 (lv_at hl 4 rfl) ?_
    refine roVl (As := [.int pt, .int bs, .int fr, .int to0]) (rest := []) (v := (cald F n c pt bs fr to0)) ⟨hx, hb, hml, hown, hts⟩ (c_X4_thingsCalled l D cs q F n c g pt bs fr to0 hI) (cwV 4 hts gX4_called_X4_thingsCalled rfl rfl rfl (by decide +kernel) ⟨Nat.le_of_ble_eq_true rfl, Nat.le_of_ble_eq_true rfl⟩) hP hK hN 0 rfl rfl rfl hl.1 rfl (Nat.le_of_ble_eq_true rfl) dX4_called_20 ⟨Nat.zero_le _, Nat.zero_le _⟩ ?_
    refine roSi (As := [.long (cald F n c pt bs fr to0)]) (rest := []) (v := (nI (ctN (bitL (cald F n c pt bs fr to0)) 64))) ⟨hx, hb, hml, hown, hts⟩ (c_J13_bitCount_95d88 l (cald F n c pt bs fr to0)) (va_cwS 1 hts gX4_called_J13_bitCount_95d88 rfl rfl rfl (by decide +kernel) ⟨Nat.le_of_ble_eq_true rfl, Nat.le_of_ble_eq_true rfl⟩) rfl hl.1 rfl (Nat.le_of_ble_eq_true rfl) dX4_called_23 ⟨Nat.zero_le _, Nat.zero_le _⟩ ?_
    exact W.iret (v := (nI (ctN (bitL (cald F n c pt bs fr to0)) 64))) hx hb hr (fun t9 ht9 hW9 => ⟨(nI (ctN (bitL (cald F n c pt bs fr to0)) 64)), rfl, (by first | with_reducible rfl | simp [b_2]), ht9⟩) (fun _ h => by cases h) dX4_called_26
  · have b_3 : (canK pt bs fr to0) = false := bI_f c_1
    refine lv_bipush (v := (-2)) hx hb dX4_called_11 (by decide) ?_
    exact W.iret (v := (-2)) hx hb hr (fun t9 ht9 hW9 => ⟨(-2), rfl, (by first | with_reducible rfl | simp [b_3]), ht9⟩) (fun _ h => by cases h) dX4_called_13
set_option maxHeartbeats 4000000 in
set_option maxRecDepth 100000 in
/-- X4_count -/
theorem c_X4_count (l : Launch) (D : va_G) (cs : Nat → ClassId) (q : Nat → Nat) (F : Nat → Nat → Int32) (n c : Nat) (g : Int32) (x : Int32) (hI : Inv F n c) : Met l yX4_count wsX4_count ({ frames := 2, cells := 0, slots := 0, locals := 47 }) (va_Pc [.ref (q 0), .int x] (pw D cs (xW q cs F n c g))) (vp_Si (fun r => r = (aCountC F n c x))) 0 0 (fun _ => False) := by
  refine Met.ofW (cc := cX4_count) (maxL := 2) (ret := (some .int)) (by decide) rfl ?_
  intro p e s m args below meth c_ s₁ B hml hv
  obtain ⟨rfl, hP, hK, hN⟩ := hv
  have hx := B.exec
  have hb := B.bytes
  have hr := B.returns
  have hts := atoms_spec (ws := wsX4_count) B.pre
  have hown : s.vm.findClass RX4 = some m.cls := findClass_of_methodNamed B.named
  have hlocks := B.notSynchronized
  have hl := lv_entry ([.ref (q 0), .int x]) (n := 2) (Nat.le_of_ble_eq_true rfl)
  rw [lg_entry_eq]
  generalize (lg_sl ([.ref (q 0), .int x]) ++ List.replicate (2 - (lg_sl ([.ref (q 0), .int x])).length) Slot.unset).toArray = ls at hl ⊢
  have hl : lv_has ls 2 [(0, .ref (q 0)), (1, .int x)] := hl
  have hPo := va_P_l hP
  have hPt := va_P_l (va_P_r hP)
  have hPc := va_P_l (va_P_r (va_P_r hP))
  have hPp := va_P_l (va_P_r (va_P_r (va_P_r hP)))
  have hPw := va_P_r (va_P_r (va_P_r (va_P_r hP)))
  have hn60 := hI.n60
  have hc100 := hI.c100
  refine lv_iload_n hx hb dX4_count_0 rfl (lv_at hl 1 rfl) ?_
  refine lv_iconst (v := 0) hx hb dX4_count_1 (by decide) ?_
  refine lv_bipush (v := 8) hx hb dX4_count_2 (by decide) ?_
  refine roSi (As := [.int x, .int 0, .int 8]) (rest := []) (v := (bI (rg x 0 8))) ⟨hx, hb, hml, hown, hts⟩ (c_X4_isWithin l x 0 8) (va_cwS 3 hts gX4_count_X4_isWithin rfl rfl rfl (by decide +kernel) ⟨Nat.le_of_ble_eq_true rfl, Nat.le_of_ble_eq_true rfl⟩) rfl hl.1 rfl (Nat.le_of_ble_eq_true rfl) dX4_count_4 ⟨Nat.zero_le _, Nat.zero_le _⟩ ?_
  refine lv_if_ne (tgt := 13) hx hb dX4_count_7 (by decide) (fun c_1 => ?_) (fun c_1 => ?_)
  · have b_2 : (rg x 0 8) = true := bI_t c_1
    refine lv_iload_n hx hb dX4_count_13 rfl (lv_at hl 1 rfl) ?_
    refine lv_if_ne (tgt := 25) hx hb dX4_count_14 (by decide) (fun c_3 => ?_) (fun c_3 => ?_)
    · refine lv_iload_n hx hb dX4_count_25 rfl (lv_at hl 1 rfl) ?_
      refine lv_iconst (v := 1) hx hb dX4_count_26 (by decide) ?_
      refine lv_icmp_ne (tgt := 38) hx hb dX4_count_27 (by decide) (fun c_4 => ?_) (fun c_4 => ?_)
      · refine lv_iload_n hx hb dX4_count_38 rfl (lv_at hl 1 rfl) ?_
        refine lv_bipush (v := 7) hx hb dX4_count_39 (by decide) ?_
        refine lv_icmp_ne (tgt := 61) hx hb dX4_count_41 (by decide) (fun c_5 => ?_) (fun c_5 => ?_)
        · refine lv_iload_n hx hb dX4_count_61 rfl (lv_at hl 1 rfl) ?_
          refine lv_bipush (v := 8) hx hb dX4_count_62 (by decide) ?_
          refine lv_icmp_ne (tgt := 75) hx hb dX4_count_64 (by decide) (fun c_6 => ?_) (fun c_6 => ?_)
          · refine lv_aload_n hx hb dX4_count_75 rfl (lv_at hl 0 rfl) ?_
            refine va_get (D := D) (ci := 4) (v := .ref (q 2)) (C := RX4) (T := TX4) (N := 5) hx hb hts (fun _ h => List.mem_cons_of_mem _ (List.mem_append_left _ (List.mem_append_left _ (List.mem_append_right _ h)))) hown hK hPo 0 rfl rfl 1 (by decide) (hts (.fieldLink RX4 19 "UnderPromise" "claims" "LUnderPromise$Claims;") (List.mem_of_getElem? (i := 2) rfl)) (fun _ h9 => h9) rfl dX4_count_76 ?_
            refine lv_iload_n hx hb dX4_count_79 rfl (lv_at hl 1 rfl) ?_
            refine lv_iconst (v := 2) hx hb dX4_count_80 (by decide) ?_
            refine lv_isub hx hb dX4_count_81 ?_
            refine roVi (As := [.int (x - 2)]) (rest := []) (v := (ctI (sJud F (x - 2)) c)) ⟨hx, hb, hml, hown, hts⟩ (c_X0_judgedAs l D cs q F n c (x - 2) hI) (cwV 1 hts gX4_count_X0_judgedAs rfl rfl rfl (by decide +kernel) ⟨Nat.le_of_ble_eq_true rfl, Nat.le_of_ble_eq_true rfl⟩) hPc hK hN 0 rfl rfl rfl hl.1 rfl (Nat.le_of_ble_eq_true rfl) dX4_count_82 ⟨Nat.zero_le _, Nat.zero_le _⟩ ?_
            exact W.iret (v := (ctI (sJud F (x - 2)) c)) hx hb hr (fun t9 ht9 hW9 => ⟨(ctI (sJud F (x - 2)) c), rfl, (by unfold aCountC; rw [if_pos b_2]; simp [aThB, c_3, c_4, c_5, c_6]), ht9⟩) (fun _ h => by cases h) dX4_count_85
          · refine lv_aload_n hx hb dX4_count_67 rfl (lv_at hl 0 rfl) ?_
            refine va_get (D := D) (ci := 4) (v := .ref (q 2)) (C := RX4) (T := TX4) (N := 5) hx hb hts (fun _ h => List.mem_cons_of_mem _ (List.mem_append_left _ (List.mem_append_left _ (List.mem_append_right _ h)))) hown hK hPo 0 rfl rfl 1 (by decide) (hts (.fieldLink RX4 19 "UnderPromise" "claims" "LUnderPromise$Claims;") (List.mem_of_getElem? (i := 2) rfl)) (fun _ h9 => h9) rfl dX4_count_68 ?_
            refine roVi (As := []) (rest := []) (v := (smI (sCost F) c)) ⟨hx, hb, hml, hown, hts⟩ (c_X0_letCost l D cs q F n c  hI) (cwV 0 hts gX4_count_X0_letCost rfl rfl rfl (by decide +kernel) ⟨Nat.le_of_ble_eq_true rfl, Nat.le_of_ble_eq_true rfl⟩) hPc hK hN 0 rfl rfl rfl hl.1 rfl (Nat.le_of_ble_eq_true rfl) dX4_count_71 ⟨Nat.zero_le _, Nat.zero_le _⟩ ?_
            exact W.iret (v := (smI (sCost F) c)) hx hb hr (fun t9 ht9 hW9 => ⟨(smI (sCost F) c), rfl, (by unfold aCountC; rw [if_pos b_2]; simp [aThB, c_3, c_4, c_5, c_6]), ht9⟩) (fun _ h => by cases h) dX4_count_74
        · refine lv_aload_n hx hb dX4_count_44 rfl (lv_at hl 0 rfl) ?_
          refine va_get (D := D) (ci := 4) (v := .ref (q 2)) (C := RX4) (T := TX4) (N := 5) hx hb hts (fun _ h => List.mem_cons_of_mem _ (List.mem_append_left _ (List.mem_append_left _ (List.mem_append_right _ h)))) hown hK hPo 0 rfl rfl 1 (by decide) (hts (.fieldLink RX4 19 "UnderPromise" "claims" "LUnderPromise$Claims;") (List.mem_of_getElem? (i := 2) rfl)) (fun _ h9 => h9) rfl dX4_count_45 ?_
          refine lv_sipush (v := 1023) hx hb dX4_count_48 (by decide) ?_
          refine lv_sipush (v := 300) hx hb dX4_count_51 (by decide) ?_
          refine roVl (As := [.int 1023, .int 300]) (rest := []) (v := (orL (sHit F 1023 300) (fun k => bit1 (F 6 k)) c)) ⟨hx, hb, hml, hown, hts⟩ (c_X0_thingsLetFor l D cs q F n c 1023 300 hI) (cwV 2 hts gX4_count_X0_thingsLetFor rfl rfl rfl (by decide +kernel) ⟨Nat.le_of_ble_eq_true rfl, Nat.le_of_ble_eq_true rfl⟩) hPc hK hN 0 rfl rfl rfl hl.1 rfl (Nat.le_of_ble_eq_true rfl) dX4_count_54 ⟨Nat.zero_le _, Nat.zero_le _⟩ ?_
          refine roSi (As := [.long (orL (sHit F 1023 300) (fun k => bit1 (F 6 k)) c)]) (rest := []) (v := (nI (ctN (bitL (orL (sHit F 1023 300) (fun k => bit1 (F 6 k)) c)) 64))) ⟨hx, hb, hml, hown, hts⟩ (c_J13_bitCount_95d88 l (orL (sHit F 1023 300) (fun k => bit1 (F 6 k)) c)) (va_cwS 1 hts gX4_count_J13_bitCount_95d88 rfl rfl rfl (by decide +kernel) ⟨Nat.le_of_ble_eq_true rfl, Nat.le_of_ble_eq_true rfl⟩) rfl hl.1 rfl (Nat.le_of_ble_eq_true rfl) dX4_count_57 ⟨Nat.zero_le _, Nat.zero_le _⟩ ?_
          exact W.iret (v := (nI (ctN (bitL (orL (sHit F 1023 300) (fun k => bit1 (F 6 k)) c)) 64))) hx hb hr (fun t9 ht9 hW9 => ⟨(nI (ctN (bitL (orL (sHit F 1023 300) (fun k => bit1 (F 6 k)) c)) 64)), rfl, (by unfold aCountC; rw [if_pos b_2]; simp [aThB, c_3, c_4, c_5]), ht9⟩) (fun _ h => by cases h) dX4_count_60
      · refine lv_aload_n hx hb dX4_count_30 rfl (lv_at hl 0 rfl) ?_
        refine va_get (D := D) (ci := 4) (v := .ref (q 2)) (C := RX4) (T := TX4) (N := 5) hx hb hts (fun _ h => List.mem_cons_of_mem _ (List.mem_append_left _ (List.mem_append_left _ (List.mem_append_right _ h)))) hown hK hPo 0 rfl rfl 1 (by decide) (hts (.fieldLink RX4 19 "UnderPromise" "claims" "LUnderPromise$Claims;") (List.mem_of_getElem? (i := 2) rfl)) (fun _ h9 => h9) rfl dX4_count_31 ?_
        refine va_getN (D := D) (ci := 0) (v := .int (nI c)) (C := RX0) (T := TX0) (N := 8) hx hb hts (fun _ h => List.mem_cons_of_mem _ (List.mem_append_right _ h)) hown hK hPc 0 rfl rfl 7 (by decide) (va_Nw.use rfl hN.2.2.2.2.2.2.2.2.2.2.2.1) (fun _ h9 => h9) rfl dX4_count_34 ?_
        exact W.iret (v := (nI c)) hx hb hr (fun t9 ht9 hW9 => ⟨(nI c), rfl, (by unfold aCountC; rw [if_pos b_2]; simp [aThB, c_3, c_4]), ht9⟩) (fun _ h => by cases h) dX4_count_37
    · refine lv_aload_n hx hb dX4_count_17 rfl (lv_at hl 0 rfl) ?_
      refine va_get (D := D) (ci := 4) (v := .ref (q 1)) (C := RX4) (T := TX4) (N := 5) hx hb hts (fun _ h => List.mem_cons_of_mem _ (List.mem_append_left _ (List.mem_append_left _ (List.mem_append_right _ h)))) hown hK hPo 0 rfl rfl 0 (by decide) (hts (.fieldLink RX4 12 "UnderPromise" "things" "LUnderPromise$Things;") (List.mem_of_getElem? (i := 1) rfl)) (fun _ h9 => h9) rfl dX4_count_18 ?_
      refine va_getN (D := D) (ci := 2) (v := .int (nI n)) (C := RX2) (T := TX2) (N := 7) hx hb hts (fun _ h => List.mem_cons_of_mem _ (List.mem_append_left _ (List.mem_append_right _ h))) hown hK hPt 0 rfl rfl 6 (by decide) (va_Nw.use rfl hN.2.2.2.2.2.2.2.1) (fun _ h9 => h9) rfl dX4_count_21 ?_
      exact W.iret (v := (nI n)) hx hb hr (fun t9 ht9 hW9 => ⟨(nI n), rfl, (by unfold aCountC; rw [if_pos b_2]; simp [aThB, c_3]), ht9⟩) (fun _ h => by cases h) dX4_count_24
  · have b_7 : (rg x 0 8) = false := bI_f c_1
    refine lv_bipush (v := (-2)) hx hb dX4_count_10 (by decide) ?_
    exact W.iret (v := (-2)) hx hb hr (fun t9 ht9 hW9 => ⟨(-2), rfl, (by simp [aCountC, b_7]), ht9⟩) (fun _ h => by cases h) dX4_count_12
set_option maxHeartbeats 4000000 in
set_option maxRecDepth 100000 in
/-- X4_digest -/
theorem c_X4_digest (l : Launch) (D : va_G) (cs : Nat → ClassId) (q : Nat → Nat) (F : Nat → Nat → Int32) (n c : Nat) (g : Int32)  (hI : Inv F n c) : Met l yX4_digest wsX4_digest ({ frames := 3, cells := 0, slots := 0, locals := 79 }) (va_Pc [.ref (q 0)] (pw D cs (xW q cs F n c g))) (vp_Sl (fun r => r = (aDigC F n c))) 0 0 (fun _ => False) := by
  refine Met.ofW (cc := cX4_digest) (maxL := 4) (ret := (some .long)) (by decide) rfl ?_
  intro p e s m args below meth c_ s₁ B hml hv
  obtain ⟨rfl, hP, hK, hN⟩ := hv
  have hx := B.exec
  have hb := B.bytes
  have hr := B.returns
  have hts := atoms_spec (ws := wsX4_digest) B.pre
  have hown : s.vm.findClass RX4 = some m.cls := findClass_of_methodNamed B.named
  have hlocks := B.notSynchronized
  have hl := lv_entry ([.ref (q 0)]) (n := 4) (Nat.le_of_ble_eq_true rfl)
  rw [lg_entry_eq]
  generalize (lg_sl ([.ref (q 0)]) ++ List.replicate (4 - (lg_sl ([.ref (q 0)])).length) Slot.unset).toArray = ls at hl ⊢
  have hl : lv_has ls 4 [(0, .ref (q 0))] := hl
  have hPo := va_P_l hP
  have hPt := va_P_l (va_P_r hP)
  have hPc := va_P_l (va_P_r (va_P_r hP))
  have hPp := va_P_l (va_P_r (va_P_r (va_P_r hP)))
  have hPw := va_P_r (va_P_r (va_P_r (va_P_r hP)))
  have hn60 := hI.n60
  have hc100 := hI.c100
  refine lv_ldc2 (v := 199) hx hb hown (hts (.constantLong RX4 194 (199)) (List.mem_of_getElem? (i := 1) rfl)) dX4_digest_0 ?_
  refine lv_lstore_n (lv' := [(1, .long 199), (0, .ref (q 0))]) hx hb dX4_digest_3 rfl hl (by decide) rfl (fun ls hl => ?_)
  refine lv_iconst (v := 0) hx hb dX4_digest_4 (by decide) ?_
  refine lv_istore_n (lv' := [(3, .int 0), (1, .long 199), (0, .ref (q 0))]) hx hb dX4_digest_5 rfl hl (by decide) rfl (fun ls hl => ?_)
  refine lpW (fun k ls => lv_has ls 4 [(0, .ref (q 0)), (1, .long (fdL (fun j => (aCountC F n c (nI j)).toInt64) 199 k)), (3, .int (nI k))]) 9 0 (Nat.zero_le _) ls (show lv_has ls 4 [(0, .ref (q 0)), (1, .long (fdL (fun j => (aCountC F n c (nI j)).toInt64) 199 0)), (3, .int (nI 0))] from lv_sub hl [2, 1, 0] rfl) ?_ ?_
  · intro ls hl
    have hl : lv_has ls 4 [(0, .ref (q 0)), (1, .long (fdL (fun j => (aCountC F n c (nI j)).toInt64) 199 9)), (3, .int (nI 9))] := hl
    refine lv_iload_n hx hb dX4_digest_6 rfl (lv_at hl 2 rfl) ?_
    refine lv_bipush (v := 8) hx hb dX4_digest_7 (by decide) ?_
    refine lv_icmp_gt (tgt := 31) hx hb dX4_digest_9 (by decide) (fun c_1 => ?_) (fun c_1 => ?_)
    · have c_2 := i_lt c_1
      refine lv_aload_n hx hb dX4_digest_31 rfl (lv_at hl 0 rfl) ?_
      refine va_get (D := D) (ci := 4) (v := .ref (q 1)) (C := RX4) (T := TX4) (N := 5) hx hb hts (fun _ h => List.mem_cons_of_mem _ (List.mem_append_left _ (List.mem_append_left _ (List.mem_append_left _ (List.mem_append_right _ h))))) hown hK hPo 0 rfl rfl 0 (by decide) (hts (.fieldLink RX4 12 "UnderPromise" "things" "LUnderPromise$Things;") (List.mem_of_getElem? (i := 3) rfl)) (fun _ h9 => h9) rfl dX4_digest_32 ?_
      refine lv_lload_n hx hb dX4_digest_35 rfl (lv_at hl 1 rfl) ?_
      refine roVl (As := [.long (fdL (fun j => (aCountC F n c (nI j)).toInt64) 199 9)]) (rest := []) (v := (dgT F (fdL (fun j => (aCountC F n c (nI j)).toInt64) 199 9) n)) ⟨hx, hb, hml, hown, hts⟩ (c_X2_digestOnto l D cs q F n c (fdL (fun j => (aCountC F n c (nI j)).toInt64) 199 9) hI) (cwV 1 hts gX4_digest_X2_digestOnto rfl rfl rfl (by decide +kernel) ⟨Nat.le_of_ble_eq_true rfl, Nat.le_of_ble_eq_true rfl⟩) hPt hK hN 0 rfl rfl rfl hl.1 rfl (Nat.le_of_ble_eq_true rfl) dX4_digest_36 ⟨Nat.zero_le _, Nat.zero_le _⟩ ?_
      refine lv_lstore_n (lv' := [(1, .long (dgT F (fdL (fun j => (aCountC F n c (nI j)).toInt64) 199 9) n)), (0, .ref (q 0)), (3, .int (nI 9))]) hx hb dX4_digest_39 rfl hl (by decide) rfl (fun ls hl => ?_)
      refine lv_aload_n hx hb dX4_digest_40 rfl (lv_at hl 1 rfl) ?_
      refine va_get (D := D) (ci := 4) (v := .ref (q 2)) (C := RX4) (T := TX4) (N := 5) hx hb hts (fun _ h => List.mem_cons_of_mem _ (List.mem_append_left _ (List.mem_append_left _ (List.mem_append_left _ (List.mem_append_right _ h))))) hown hK hPo 0 rfl rfl 1 (by decide) (hts (.fieldLink RX4 19 "UnderPromise" "claims" "LUnderPromise$Claims;") (List.mem_of_getElem? (i := 4) rfl)) (fun _ h9 => h9) rfl dX4_digest_41 ?_
      refine lv_lload_n hx hb dX4_digest_44 rfl (lv_at hl 0 rfl) ?_
      refine roVl (As := [.long (dgT F (fdL (fun j => (aCountC F n c (nI j)).toInt64) 199 9) n)]) (rest := []) (v := (dgC F (dgT F (fdL (fun j => (aCountC F n c (nI j)).toInt64) 199 9) n) c)) ⟨hx, hb, hml, hown, hts⟩ (c_X0_digestOnto l D cs q F n c (dgT F (fdL (fun j => (aCountC F n c (nI j)).toInt64) 199 9) n) hI) (cwV 1 hts gX4_digest_X0_digestOnto rfl rfl rfl (by decide +kernel) ⟨Nat.le_of_ble_eq_true rfl, Nat.le_of_ble_eq_true rfl⟩) hPc hK hN 0 rfl rfl rfl hl.1 rfl (Nat.le_of_ble_eq_true rfl) dX4_digest_45 ⟨Nat.zero_le _, Nat.zero_le _⟩ ?_
      refine lv_lstore_n (lv' := [(1, .long (dgC F (dgT F (fdL (fun j => (aCountC F n c (nI j)).toInt64) 199 9) n) c)), (0, .ref (q 0)), (3, .int (nI 9))]) hx hb dX4_digest_48 rfl hl (by decide) rfl (fun ls hl => ?_)
      refine lv_aload_n hx hb dX4_digest_49 rfl (lv_at hl 1 rfl) ?_
      refine va_get (D := D) (ci := 4) (v := .ref (q 3)) (C := RX4) (T := TX4) (N := 5) hx hb hts (fun _ h => List.mem_cons_of_mem _ (List.mem_append_left _ (List.mem_append_left _ (List.mem_append_left _ (List.mem_append_right _ h))))) hown hK hPo 0 rfl rfl 2 (by decide) (hts (.fieldLink RX4 26 "UnderPromise" "parts" "LUnderPromise$Parts;") (List.mem_of_getElem? (i := 5) rfl)) (fun _ h9 => h9) rfl dX4_digest_50 ?_
      refine lv_lload_n hx hb dX4_digest_53 rfl (lv_at hl 0 rfl) ?_
      refine roVl (As := [.long (dgC F (dgT F (fdL (fun j => (aCountC F n c (nI j)).toInt64) 199 9) n) c)]) (rest := []) (v := (dgP F (dgC F (dgT F (fdL (fun j => (aCountC F n c (nI j)).toInt64) 199 9) n) c) 10)) ⟨hx, hb, hml, hown, hts⟩ (c_X1_digestOnto l D cs q F n c (dgC F (dgT F (fdL (fun j => (aCountC F n c (nI j)).toInt64) 199 9) n) c) hI) (cwV 1 hts gX4_digest_X1_digestOnto rfl rfl rfl (by decide +kernel) ⟨Nat.le_of_ble_eq_true rfl, Nat.le_of_ble_eq_true rfl⟩) hPp hK hN 0 rfl rfl rfl hl.1 rfl (Nat.le_of_ble_eq_true rfl) dX4_digest_54 ⟨Nat.zero_le _, Nat.zero_le _⟩ ?_
      exact W.lret (v := (dgP F (dgC F (dgT F (fdL (fun j => (aCountC F n c (nI j)).toInt64) 199 9) n) c) 10)) hx hb hr (fun t9 ht9 hW9 => ⟨(dgP F (dgC F (dgT F (fdL (fun j => (aCountC F n c (nI j)).toInt64) 199 9) n) c) 10), rfl, rfl, ht9⟩) (fun _ h => by cases h) dX4_digest_57
    · exact absurd (nI_lt (a := 8) (b := 9) (by decide) (by decide)) c_1
  · intro k hk0 hk ih ls hl
    have hl : lv_has ls 4 [(0, .ref (q 0)), (1, .long (fdL (fun j => (aCountC F n c (nI j)).toInt64) 199 k)), (3, .int (nI k))] := hl
    refine lv_iload_n hx hb dX4_digest_6 rfl (lv_at hl 2 rfl) ?_
    refine lv_bipush (v := 8) hx hb dX4_digest_7 (by decide) ?_
    refine lv_icmp_gt (tgt := 31) hx hb dX4_digest_9 (by decide) (fun c_3 => ?_) (fun c_3 => ?_)
    · exact absurd c_3 (nI_nlt (a := 8) (by omega) (by decide))
    · have c_4 := i_nlt c_3
      refine lv_ldc2 (v := 31) hx hb hown (hts (.constantLong RX4 196 (31)) (List.mem_of_getElem? (i := 2) rfl)) dX4_digest_12 ?_
      refine lv_lload_n hx hb dX4_digest_15 rfl (lv_at hl 1 rfl) ?_
      refine lv_lmul hx hb dX4_digest_16 ?_
      refine lv_aload_n hx hb dX4_digest_17 rfl (lv_at hl 0 rfl) ?_
      refine lv_iload_n hx hb dX4_digest_18 rfl (lv_at hl 2 rfl) ?_
      refine roVi (As := [.int (nI k)]) (rest := [.long (31 * (fdL (fun j => (aCountC F n c (nI j)).toInt64) 199 k))]) (v := (aCountC F n c (nI k))) ⟨hx, hb, hml, hown, hts⟩ (c_X4_count l D cs q F n c g (nI k) hI) (cwV 1 hts gX4_digest_X4_count rfl rfl rfl (by decide +kernel) ⟨Nat.le_of_ble_eq_true rfl, Nat.le_of_ble_eq_true rfl⟩) hP hK hN 0 rfl rfl rfl hl.1 rfl (Nat.le_of_ble_eq_true rfl) dX4_digest_19 ⟨Nat.zero_le _, Nat.zero_le _⟩ ?_
      refine lv_i2l (v := (Int32.toInt64 (aCountC F n c (nI k)))) hx hb dX4_digest_22 rfl ?_
      refine lv_ladd hx hb dX4_digest_23 ?_
      refine lv_lstore_n (lv' := [(1, .long ((31 * (fdL (fun j => (aCountC F n c (nI j)).toInt64) 199 k)) + (Int32.toInt64 (aCountC F n c (nI k))))), (0, .ref (q 0)), (3, .int (nI k))]) hx hb dX4_digest_24 rfl hl (by decide) rfl (fun ls hl => ?_)
      refine lv_iinc (v := ((nI k) + 1)) (lv' := [(3, .int ((nI k) + 1)), (1, .long ((31 * (fdL (fun j => (aCountC F n c (nI j)).toInt64) 199 k)) + (Int32.toInt64 (aCountC F n c (nI k))))), (0, .ref (q 0))]) hx hb dX4_digest_25 hl (k := 2) rfl rfl (by decide) rfl (fun ls hl => ?_)
      refine lv_goto (tgt := 6) hx hb dX4_digest_28 (by decide) ?_
      have h_5 : ((31 * (fdL (fun j => (aCountC F n c (nI j)).toInt64) 199 k)) + (Int32.toInt64 (aCountC F n c (nI k)))) = (fdL (fun j => (aCountC F n c (nI j)).toInt64) 199 (k + 1)) := rfl
      have h_6 : ((nI k) + 1) = (nI (k + 1)) := (nI_1 _)
      exact ih _ (lv_cast (lv_sub (l' := [(0, .ref (q 0)), (1, .long ((31 * (fdL (fun j => (aCountC F n c (nI j)).toInt64) 199 k)) + (Int32.toInt64 (aCountC F n c (nI k))))), (3, .int ((nI k) + 1))]) hl [2, 1, 0] rfl) (cg2 (fun z5 z6 => [(0, .ref (q 0)), (1, .long z5), (3, .int z6)]) h_5 h_6))
set_option maxHeartbeats 4000000 in
set_option maxRecDepth 100000 in
/-- X5_choose -/
theorem c_X5_choose (l : Launch) (D : va_G) (cs : Nat → ClassId) (q : Nat → Nat) (F : Nat → Nat → Int32) (n c : Nat) (g : Int32) (up lo : Int64) (ka : Nat) (kb : Nat) (hI : Inv F n c) (hka : ka ≤ 60) (hkb : kb ≤ 60) : Met l yX5_choose wsX5_choose ({ frames := 1, cells := 0, slots := 0, locals := 25 }) (va_Pc [.ref (q 200), .int (nI ka), .int (nI kb)] (pw D cs (mW q cs F n c g up lo))) (vp_Sl (fun r => r = (lN (chs ka kb)))) 0 0 (fun _ => False) := by
  refine Met.ofW (cc := cX5_choose) (maxL := 3) (ret := (some .long)) (by decide) rfl ?_
  intro p e s m args below meth c_ s₁ B hml hv
  obtain ⟨rfl, hP, hK, hN⟩ := hv
  have hx := B.exec
  have hb := B.bytes
  have hr := B.returns
  have hts := atoms_spec (ws := wsX5_choose) B.pre
  have hown : s.vm.findClass RX5 = some m.cls := findClass_of_methodNamed B.named
  have hlocks := B.notSynchronized
  have hl := lv_entry ([.ref (q 200), .int (nI ka), .int (nI kb)]) (n := 3) (Nat.le_of_ble_eq_true rfl)
  rw [lg_entry_eq]
  generalize (lg_sl ([.ref (q 200), .int (nI ka), .int (nI kb)]) ++ List.replicate (3 - (lg_sl ([.ref (q 200), .int (nI ka), .int (nI kb)])).length) Slot.unset).toArray = ls at hl ⊢
  have hl : lv_has ls 3 [(0, .ref (q 200)), (1, .int (nI ka)), (2, .int (nI kb))] := hl
  have e61 : 61 * nI ka + nI kb = nI (61 * ka + kb) := by rw [show (61 : Int32) = nI 61 from rfl, pk_mul, nI_add]
  have hn60 := hI.n60
  have hc100 := hI.c100
  refine lv_iload_n hx hb dX5_choose_0 rfl (lv_at hl 2 rfl) ?_
  refine lv_i2l (v := (Int32.toInt64 (nI kb))) hx hb dX5_choose_1 rfl ?_
  refine lv_lconst (v := 0) hx hb dX5_choose_2 (by decide) ?_
  refine lv_iload_n hx hb dX5_choose_3 rfl (lv_at hl 1 rfl) ?_
  refine lv_i2l (v := (Int32.toInt64 (nI ka))) hx hb dX5_choose_4 rfl ?_
  refine roSi (As := [.long (Int32.toInt64 (nI kb)), .long 0, .long (Int32.toInt64 (nI ka))]) (rest := []) (v := (bI (rg (nI kb) 0 (nI ka)))) ⟨hx, hb, hml, hown, hts⟩ (c_X5_in l (nI kb) 0 (nI ka) 0 (Int32.toInt64 (nI ka)) (by decide) rfl) (va_cwS 3 hts gX5_choose_X5_in rfl rfl rfl (by decide +kernel) ⟨Nat.le_of_ble_eq_true rfl, Nat.le_of_ble_eq_true rfl⟩) rfl hl.1 rfl (Nat.le_of_ble_eq_true rfl) dX5_choose_5 ⟨Nat.zero_le _, Nat.zero_le _⟩ ?_
  refine lv_if_eq (tgt := 25) hx hb dX5_choose_8 (by decide) (fun c_1 => ?_) (fun c_1 => ?_)
  · have b_2 : (rg (nI kb) 0 (nI ka)) = false := bI_f c_1
    refine lv_lconst (v := 0) hx hb dX5_choose_25 (by decide) ?_
    exact W.lret (v := 0) hx hb hr (fun t9 ht9 hW9 => ⟨0, rfl, (by rw [chs_gt (rg_nI b_2 (by omega))]; rfl), ht9⟩) (fun _ h => by cases h) dX5_choose_26
  · have b_3 : (rg (nI kb) 0 (nI ka)) = true := bI_t c_1
    refine lv_aload_n hx hb dX5_choose_11 rfl (lv_at hl 0 rfl) ?_
    refine va_get (D := D) (ci := 5) (v := .ref (q 213)) (C := RX5) (T := TX5) (N := 21) hx hb hts (fun _ h => List.mem_cons_of_mem _ (List.mem_append_right _ h)) hown hK hP 0 rfl rfl 15 (by decide) (hts (.fieldLink RX5 50 "UnderPromiseModel" "ways" "[J") (List.mem_of_getElem? (i := 1) rfl)) (fun _ h9 => h9) rfl dX5_choose_12 ?_
    refine lv_bipush (v := 61) hx hb dX5_choose_15 (by decide) ?_
    refine lv_iload_n hx hb dX5_choose_17 rfl (lv_at hl 1 rfl) ?_
    refine lv_imul hx hb dX5_choose_18 ?_
    refine lv_iload_n hx hb dX5_choose_19 rfl (lv_at hl 2 rfl) ?_
    refine lv_iadd hx hb dX5_choose_20 ?_
    refine laK (v := (wyF (61 * ka + kb))) hx hb hK hP 13 1 rfl rfl (61 * ka + kb) (by rw [e61]; exact vp_in_nI (by omega) (by decide)) (by rw [e61]; exact nI_clamp (by omega)) rfl dX5_choose_21 ?_
    refine lv_goto (tgt := 26) hx hb dX5_choose_22 (by decide) ?_
    exact W.lret (v := (wyF (61 * ka + kb))) hx hb hr (fun t9 ht9 hW9 => ⟨(wyF (61 * ka + kb)), rfl, (wyF_at (by omega) (by omega)), ht9⟩) (fun _ h => by cases h) dX5_choose_26
set_option maxHeartbeats 4000000 in
set_option maxRecDepth 100000 in
/-- X5_rate -/
theorem c_X5_rate (l : Launch) (D : va_G) (cs : Nat → ClassId) (q : Nat → Nat) (F : Nat → Nat → Int32) (n c : Nat) (g : Int32) (up lo : Int64) (a : Int32) (mo : Int32) (w : Int32) (hI : Inv F n c) : Met l yX5_rate wsX5_rate ({ frames := 2, cells := 0, slots := 0, locals := 47 }) (va_Pc [.ref (q 200), .int a, .int mo, .int w] (pw D cs (mW q cs F n c g up lo))) (vp_Si (fun r => r = (aRate F n c (sAgeM F a mo) a mo w))) 0 0 (fun _ => False) := by
  refine Met.ofW (cc := cX5_rate) (maxL := 7) (ret := (some .int)) (by decide) rfl ?_
  intro p e s m args below meth c_ s₁ B hml hv
  obtain ⟨rfl, hP, hK, hN⟩ := hv
  have hx := B.exec
  have hb := B.bytes
  have hr := B.returns
  have hts := atoms_spec (ws := wsX5_rate) B.pre
  have hown : s.vm.findClass RX5 = some m.cls := findClass_of_methodNamed B.named
  have hlocks := B.notSynchronized
  have hl := lv_entry ([.ref (q 200), .int a, .int mo, .int w]) (n := 7) (Nat.le_of_ble_eq_true rfl)
  rw [lg_entry_eq]
  generalize (lg_sl ([.ref (q 200), .int a, .int mo, .int w]) ++ List.replicate (7 - (lg_sl ([.ref (q 200), .int a, .int mo, .int w])).length) Slot.unset).toArray = ls at hl ⊢
  have hl : lv_has ls 7 [(0, .ref (q 200)), (1, .int a), (2, .int mo), (3, .int w)] := hl
  have hn60 := hI.n60
  have hc100 := hI.c100
  refine lv_iload_n hx hb dX5_rate_0 rfl (lv_at hl 1 rfl) ?_
  refine roSi (As := [.int a]) (rest := []) (v := (bI (rg a 0 300))) ⟨hx, hb, hml, hown, hts⟩ (c_X5_isMonth l a) (va_cwS 1 hts gX5_rate_X5_isMonth rfl rfl rfl (by decide +kernel) ⟨Nat.le_of_ble_eq_true rfl, Nat.le_of_ble_eq_true rfl⟩) rfl hl.1 rfl (Nat.le_of_ble_eq_true rfl) dX5_rate_1 ⟨Nat.zero_le _, Nat.zero_le _⟩ ?_
  refine lv_if_eq (tgt := 24) hx hb dX5_rate_4 (by decide) (fun c_1 => ?_) (fun c_1 => ?_)
  · have b_2 : (rg a 0 300) = false := bI_f c_1
    refine lv_bipush (v := (-2)) hx hb dX5_rate_24 (by decide) ?_
    exact W.iret (v := (-2)) hx hb hr (fun t9 ht9 hW9 => ⟨(-2), rfl, (by simp [aRate, r3, b_2]), ht9⟩) (fun _ h => by cases h) dX5_rate_26
  · have b_3 : (rg a 0 300) = true := bI_t c_1
    refine lv_iload_n hx hb dX5_rate_7 rfl (lv_at hl 2 rfl) ?_
    refine roSi (As := [.int mo]) (rest := []) (v := (bI (rg mo 0 300))) ⟨hx, hb, hml, hown, hts⟩ (c_X5_isMonth l mo) (va_cwS 1 hts gX5_rate_X5_isMonth rfl rfl rfl (by decide +kernel) ⟨Nat.le_of_ble_eq_true rfl, Nat.le_of_ble_eq_true rfl⟩) rfl hl.1 rfl (Nat.le_of_ble_eq_true rfl) dX5_rate_8 ⟨Nat.zero_le _, Nat.zero_le _⟩ ?_
    refine lv_if_eq (tgt := 24) hx hb dX5_rate_11 (by decide) (fun c_4 => ?_) (fun c_4 => ?_)
    · have b_5 : (rg mo 0 300) = false := bI_f c_4
      refine lv_bipush (v := (-2)) hx hb dX5_rate_24 (by decide) ?_
      exact W.iret (v := (-2)) hx hb hr (fun t9 ht9 hW9 => ⟨(-2), rfl, (by simp [aRate, r3, b_3, b_5]), ht9⟩) (fun _ h => by cases h) dX5_rate_26
    · have b_6 : (rg mo 0 300) = true := bI_t c_4
      refine lv_iload_n hx hb dX5_rate_14 rfl (lv_at hl 3 rfl) ?_
      refine lv_i2l (v := (Int32.toInt64 w)) hx hb dX5_rate_15 rfl ?_
      refine lv_lconst (v := 0) hx hb dX5_rate_16 (by decide) ?_
      refine lv_lconst (v := 1) hx hb dX5_rate_17 (by decide) ?_
      refine roSi (As := [.long (Int32.toInt64 w), .long 0, .long 1]) (rest := []) (v := (bI (rg w 0 1))) ⟨hx, hb, hml, hown, hts⟩ (c_X5_in l w 0 1 0 1 (by decide) (by decide)) (va_cwS 3 hts gX5_rate_X5_in rfl rfl rfl (by decide +kernel) ⟨Nat.le_of_ble_eq_true rfl, Nat.le_of_ble_eq_true rfl⟩) rfl hl.1 rfl (Nat.le_of_ble_eq_true rfl) dX5_rate_18 ⟨Nat.zero_le _, Nat.zero_le _⟩ ?_
      refine lv_if_ne (tgt := 27) hx hb dX5_rate_21 (by decide) (fun c_7 => ?_) (fun c_7 => ?_)
      · have b_8 : (rg w 0 1) = true := bI_t c_7
        refine lv_aload_n hx hb dX5_rate_27 rfl (lv_at hl 0 rfl) ?_
        refine lv_iload_n hx hb dX5_rate_28 rfl (lv_at hl 1 rfl) ?_
        refine lv_iload_n hx hb dX5_rate_29 rfl (lv_at hl 2 rfl) ?_
        refine roVi (As := [.int a, .int mo]) (rest := []) (v := (ctI (sExp F a mo) n)) ⟨hx, hb, hml, hown, hts⟩ (c_X5_exposedAt l D cs q F n c g up lo a mo hI) (cwV 2 hts gX5_rate_X5_exposedAt rfl rfl rfl (by decide +kernel) ⟨Nat.le_of_ble_eq_true rfl, Nat.le_of_ble_eq_true rfl⟩) hP hK hN 0 rfl rfl rfl hl.1 rfl (Nat.le_of_ble_eq_true rfl) dX5_rate_30 ⟨Nat.zero_le _, Nat.zero_le _⟩ ?_
        refine lv_istore (lv' := [(4, .int (ctI (sExp F a mo) n)), (0, .ref (q 200)), (1, .int a), (2, .int mo), (3, .int w)]) hx hb dX5_rate_33 hl (by decide) rfl (fun ls hl => ?_)
        refine lv_iload hx hb dX5_rate_35 (lv_at hl 0 rfl) ?_
        refine lv_if_ne (tgt := 43) hx hb dX5_rate_37 (by decide) (fun c_9 => ?_) (fun c_9 => ?_)
        · refine lv_iconst (v := 0) hx hb dX5_rate_43 (by decide) ?_
          refine lv_istore (lv' := [(5, .int 0), (4, .int (ctI (sExp F a mo) n)), (0, .ref (q 200)), (1, .int a), (2, .int mo), (3, .int w)]) hx hb dX5_rate_44 hl (by decide) rfl (fun ls hl => ?_)
          refine lv_iconst (v := 0) hx hb dX5_rate_46 (by decide) ?_
          refine lv_istore (lv' := [(6, .int 0), (5, .int 0), (4, .int (ctI (sExp F a mo) n)), (0, .ref (q 200)), (1, .int a), (2, .int mo), (3, .int w)]) hx hb dX5_rate_47 hl (by decide) rfl (fun ls hl => ?_)
          refine lpW (fun k ls => lv_has ls 7 [(0, .ref (q 200)), (1, .int a), (2, .int mo), (3, .int w), (4, .int (ctI (sExp F a mo) n)), (5, .int (ctI (sAgeM F a mo) k)), (6, .int (nI k))]) c 0 (Nat.zero_le _) ls (show lv_has ls 7 [(0, .ref (q 200)), (1, .int a), (2, .int mo), (3, .int w), (4, .int (ctI (sExp F a mo) n)), (5, .int (ctI (sAgeM F a mo) 0)), (6, .int (nI 0))] from lv_sub hl [3, 4, 5, 6, 2, 1, 0] rfl) ?_ ?_
          · intro ls hl
            have hl : lv_has ls 7 [(0, .ref (q 200)), (1, .int a), (2, .int mo), (3, .int w), (4, .int (ctI (sExp F a mo) n)), (5, .int (ctI (sAgeM F a mo) c)), (6, .int (nI c))] := hl
            refine lv_iload hx hb dX5_rate_49 (lv_at hl 6 rfl) ?_
            refine lv_aload_n hx hb dX5_rate_51 rfl (lv_at hl 0 rfl) ?_
            refine va_get (D := D) (ci := 5) (v := .int (nI c)) (C := RX5) (T := TX5) (N := 21) hx hb hts (fun _ h => List.mem_cons_of_mem _ (List.mem_append_right _ h)) hown hK hP 0 rfl rfl 8 (by decide) (hts (.fieldLink RX5 102 "UnderPromiseModel" "claims" "I") (List.mem_of_getElem? (i := 1) rfl)) (fun _ h9 => h9) rfl dX5_rate_52 ?_
            refine lv_icmp_ge (tgt := 108) hx hb dX5_rate_55 (by decide) (fun c_10 => ?_) (fun c_10 => ?_)
            · have c_11 := i_le c_10
              refine lv_iload hx hb dX5_rate_108 (lv_at hl 5 rfl) ?_
              refine lv_i2l (v := (Int32.toInt64 (ctI (sAgeM F a mo) c))) hx hb dX5_rate_110 rfl ?_
              rw [show (Int32.toInt64 (ctI (sAgeM F a mo) c)) = lN (ctN (sAgeM F a mo) c) from by rw [ctI_N, nI_l (by have h9 := ctN_le (p := (sAgeM F a mo)) c; omega)]]
              refine lv_iload hx hb dX5_rate_111 (lv_at hl 4 rfl) ?_
              refine lv_i2l (v := (Int32.toInt64 (ctI (sExp F a mo) n))) hx hb dX5_rate_113 rfl ?_
              rw [show (Int32.toInt64 (ctI (sExp F a mo) n)) = lN (ctN (sExp F a mo) n) from by rw [ctI_N, nI_l (by have h9 := ctN_le (p := (sExp F a mo)) n; omega)]]
              refine roSl (As := [.long (lN (ctN (sAgeM F a mo) c)), .long (lN (ctN (sExp F a mo) n))]) (rest := []) (v := (lN (Nat.gcd (ctN (sAgeM F a mo) c) (ctN (sExp F a mo) n)))) ⟨hx, hb, hml, hown, hts⟩ (c_X5_gcd l (ctN (sAgeM F a mo) c) (ctN (sExp F a mo) n) (Nat.lt_of_le_of_lt (ctN_le _) (by omega)) (Nat.lt_of_le_of_lt (ctN_le _) (by omega))) (va_cwS 2 hts gX5_rate_X5_gcd rfl rfl rfl (by decide +kernel) ⟨Nat.le_of_ble_eq_true rfl, Nat.le_of_ble_eq_true rfl⟩) rfl hl.1 rfl (Nat.le_of_ble_eq_true rfl) dX5_rate_114 ⟨Nat.zero_le _, Nat.zero_le _⟩ ?_
              refine lv_l2i (v := (Int64.toInt32 (lN (Nat.gcd (ctN (sAgeM F a mo) c) (ctN (sExp F a mo) n))))) hx hb dX5_rate_117 rfl ?_
              rw [lN_i]
              refine lv_istore (lv' := [(6, .int (nI (Nat.gcd (ctN (sAgeM F a mo) c) (ctN (sExp F a mo) n)))), (0, .ref (q 200)), (1, .int a), (2, .int mo), (3, .int w), (4, .int (ctI (sExp F a mo) n)), (5, .int (ctI (sAgeM F a mo) c))]) hx hb dX5_rate_118 hl (by decide) rfl (fun ls hl => ?_)
              refine lv_iload_n hx hb dX5_rate_120 rfl (lv_at hl 4 rfl) ?_
              refine lv_if_ne (tgt := 132) hx hb dX5_rate_121 (by decide) (fun c_12 => ?_) (fun c_12 => ?_)
              · refine lv_iload hx hb dX5_rate_132 (lv_at hl 5 rfl) ?_
                refine lv_iload hx hb dX5_rate_134 (lv_at hl 0 rfl) ?_
                refine lv_idiv hx hb dX5_rate_136 (nI_gcd0 (ct_pos c_9) (Nat.le_trans (ctN_le _) hn60)) ?_
                exact W.iret (v := ((ctI (sExp F a mo) n) / (nI (Nat.gcd (ctN (sAgeM F a mo) c) (ctN (sExp F a mo) n))))) hx hb hr (fun t9 ht9 hW9 => ⟨((ctI (sExp F a mo) n) / (nI (Nat.gcd (ctN (sAgeM F a mo) c) (ctN (sExp F a mo) n)))), rfl, (by rw [aRate_v b_3 b_6 b_8 c_9, if_neg c_12, ctI_N]; exact rate_b (ct_pos c_9) (Nat.le_trans (ctN_le _) hc100) (Nat.le_trans (ctN_le _) hn60)), ht9⟩) (fun _ h => by cases h) dX5_rate_137
              · refine lv_iload hx hb dX5_rate_124 (lv_at hl 6 rfl) ?_
                refine lv_iload hx hb dX5_rate_126 (lv_at hl 0 rfl) ?_
                refine lv_idiv hx hb dX5_rate_128 (nI_gcd0 (ct_pos c_9) (Nat.le_trans (ctN_le _) hn60)) ?_
                refine lv_goto (tgt := 137) hx hb dX5_rate_129 (by decide) ?_
                exact W.iret (v := ((ctI (sAgeM F a mo) c) / (nI (Nat.gcd (ctN (sAgeM F a mo) c) (ctN (sExp F a mo) n))))) hx hb hr (fun t9 ht9 hW9 => ⟨((ctI (sAgeM F a mo) c) / (nI (Nat.gcd (ctN (sAgeM F a mo) c) (ctN (sExp F a mo) n)))), rfl, (by rw [aRate_v b_3 b_6 b_8 c_9, if_pos c_12, ctI_N]; exact rate_a (ct_pos c_9) (Nat.le_trans (ctN_le _) hc100) (Nat.le_trans (ctN_le _) hn60)), ht9⟩) (fun _ h => by cases h) dX5_rate_137
            · exact absurd (nI_le (Nat.le_refl _) (by omega)) c_10
          · intro k hk0 hk ih ls hl
            have hl : lv_has ls 7 [(0, .ref (q 200)), (1, .int a), (2, .int mo), (3, .int w), (4, .int (ctI (sExp F a mo) n)), (5, .int (ctI (sAgeM F a mo) k)), (6, .int (nI k))] := hl
            refine lv_iload hx hb dX5_rate_49 (lv_at hl 6 rfl) ?_
            refine lv_aload_n hx hb dX5_rate_51 rfl (lv_at hl 0 rfl) ?_
            refine va_get (D := D) (ci := 5) (v := .int (nI c)) (C := RX5) (T := TX5) (N := 21) hx hb hts (fun _ h => List.mem_cons_of_mem _ (List.mem_append_right _ h)) hown hK hP 0 rfl rfl 8 (by decide) (hts (.fieldLink RX5 102 "UnderPromiseModel" "claims" "I") (List.mem_of_getElem? (i := 1) rfl)) (fun _ h9 => h9) rfl dX5_rate_52 ?_
            refine lv_icmp_ge (tgt := 108) hx hb dX5_rate_55 (by decide) (fun c_13 => ?_) (fun c_13 => ?_)
            · exact absurd c_13 (nI_ge hk (by omega))
            · have c_14 := i_nle c_13
              refine lv_iload hx hb dX5_rate_58 (lv_at hl 5 rfl) ?_
              refine lv_aload_n hx hb dX5_rate_60 rfl (lv_at hl 0 rfl) ?_
              refine lv_iload hx hb dX5_rate_61 (lv_at hl 6 rfl) ?_
              refine lv_iload_n hx hb dX5_rate_63 rfl (lv_at hl 2 rfl) ?_
              refine roVi (As := [.int (nI k), .int mo]) (rest := [.int (ctI (sAgeM F a mo) k)]) (v := (bI (sLetBy F mo k))) ⟨hx, hb, hml, hown, hts⟩ (c_X5_counts l D cs q F n c g up lo k mo hI (by omega)) (cwV 2 hts gX5_rate_X5_counts rfl rfl rfl (by decide +kernel) ⟨Nat.le_of_ble_eq_true rfl, Nat.le_of_ble_eq_true rfl⟩) hP hK hN 0 rfl rfl rfl hl.1 rfl (Nat.le_of_ble_eq_true rfl) dX5_rate_64 ⟨Nat.zero_le _, Nat.zero_le _⟩ ?_
              refine lv_if_eq (tgt := 98) hx hb dX5_rate_67 (by decide) (fun c_15 => ?_) (fun c_15 => ?_)
              · have b_16 : (sLetBy F mo k) = false := bI_f c_15
                refine lv_iconst (v := 0) hx hb dX5_rate_98 (by decide) ?_
                refine lv_iadd hx hb dX5_rate_99 ?_
                refine lv_istore (lv' := [(5, .int ((ctI (sAgeM F a mo) k) + 0)), (0, .ref (q 200)), (1, .int a), (2, .int mo), (3, .int w), (4, .int (ctI (sExp F a mo) n)), (6, .int (nI k))]) hx hb dX5_rate_100 hl (by decide) rfl (fun ls hl => ?_)
                refine lv_iinc (v := ((nI k) + 1)) (lv' := [(6, .int ((nI k) + 1)), (5, .int ((ctI (sAgeM F a mo) k) + 0)), (0, .ref (q 200)), (1, .int a), (2, .int mo), (3, .int w), (4, .int (ctI (sExp F a mo) n))]) hx hb dX5_rate_102 hl (k := 6) rfl rfl (by decide) rfl (fun ls hl => ?_)
                refine lv_goto (tgt := 49) hx hb dX5_rate_105 (by decide) ?_
                have h_17 : ((ctI (sAgeM F a mo) k) + 0) = (ctI (sAgeM F a mo) (k + 1)) := (by first | with_reducible rfl | simp [ctI, sAgeM, aRate, r3, lN_i, b_3, b_6, b_8, c_9, c_13, c_14, b_16])
                have h_18 : ((nI k) + 1) = (nI (k + 1)) := (nI_1 _)
                exact ih _ (lv_cast (lv_sub (l' := [(0, .ref (q 200)), (1, .int a), (2, .int mo), (3, .int w), (4, .int (ctI (sExp F a mo) n)), (5, .int ((ctI (sAgeM F a mo) k) + 0)), (6, .int ((nI k) + 1))]) hl [2, 3, 4, 5, 6, 1, 0] rfl) (cg2 (fun z17 z18 => [(0, .ref (q 200)), (1, .int a), (2, .int mo), (3, .int w), (4, .int (ctI (sExp F a mo) n)), (5, .int z17), (6, .int z18)]) h_17 h_18))
              · have b_19 : (sLetBy F mo k) = true := bI_t c_15
                refine lv_aload_n hx hb dX5_rate_70 rfl (lv_at hl 0 rfl) ?_
                refine va_get (D := D) (ci := 5) (v := .ref (q 209)) (C := RX5) (T := TX5) (N := 21) hx hb hts (fun _ h => List.mem_cons_of_mem _ (List.mem_append_right _ h)) hown hK hP 0 rfl rfl 11 (by decide) (hts (.fieldLink RX5 38 "UnderPromiseModel" "failed" "[I") (List.mem_of_getElem? (i := 2) rfl)) (fun _ h9 => h9) rfl dX5_rate_71 ?_
                refine lv_iload hx hb dX5_rate_74 (lv_at hl 6 rfl) ?_
                refine iaK (v := (F 8 k)) hx hb hK hP 9 0 rfl rfl k (vp_in_nI (by omega) (by decide)) (nI_clamp (by omega)) rfl dX5_rate_76 ?_
                refine lv_aload_n hx hb dX5_rate_77 rfl (lv_at hl 0 rfl) ?_
                refine va_get (D := D) (ci := 5) (v := .ref (q 204)) (C := RX5) (T := TX5) (N := 21) hx hb hts (fun _ h => List.mem_cons_of_mem _ (List.mem_append_right _ h)) hown hK hP 0 rfl rfl 4 (by decide) (hts (.fieldLink RX5 19 "UnderPromiseModel" "soldIn" "[I") (List.mem_of_getElem? (i := 3) rfl)) (fun _ h9 => h9) rfl dX5_rate_78 ?_
                refine lv_aload_n hx hb dX5_rate_81 rfl (lv_at hl 0 rfl) ?_
                refine va_get (D := D) (ci := 5) (v := .ref (q 207)) (C := RX5) (T := TX5) (N := 21) hx hb hts (fun _ h => List.mem_cons_of_mem _ (List.mem_append_right _ h)) hown hK hP 0 rfl rfl 9 (by decide) (hts (.fieldLink RX5 32 "UnderPromiseModel" "ofThing" "[I") (List.mem_of_getElem? (i := 4) rfl)) (fun _ h9 => h9) rfl dX5_rate_82 ?_
                refine lv_iload hx hb dX5_rate_85 (lv_at hl 6 rfl) ?_
                refine iaK (v := (F 6 k)) hx hb hK hP 7 0 rfl rfl k (vp_in_nI (by omega) (by decide)) (nI_clamp (by omega)) rfl dX5_rate_87 ?_
                refine iaK (v := (F 1 (ix (F 6 k)))) hx hb hK hP 4 0 rfl rfl (ix (F 6 k)) (hI.ctV (by omega)) rfl rfl dX5_rate_88 ?_
                refine lv_isub hx hb dX5_rate_89 ?_
                refine lv_iload_n hx hb dX5_rate_90 rfl (lv_at hl 1 rfl) ?_
                refine lv_icmp_ne (tgt := 98) hx hb dX5_rate_91 (by decide) (fun c_20 => ?_) (fun c_20 => ?_)
                · refine lv_iconst (v := 0) hx hb dX5_rate_98 (by decide) ?_
                  refine lv_iadd hx hb dX5_rate_99 ?_
                  refine lv_istore (lv' := [(5, .int ((ctI (sAgeM F a mo) k) + 0)), (0, .ref (q 200)), (1, .int a), (2, .int mo), (3, .int w), (4, .int (ctI (sExp F a mo) n)), (6, .int (nI k))]) hx hb dX5_rate_100 hl (by decide) rfl (fun ls hl => ?_)
                  refine lv_iinc (v := ((nI k) + 1)) (lv' := [(6, .int ((nI k) + 1)), (5, .int ((ctI (sAgeM F a mo) k) + 0)), (0, .ref (q 200)), (1, .int a), (2, .int mo), (3, .int w), (4, .int (ctI (sExp F a mo) n))]) hx hb dX5_rate_102 hl (k := 6) rfl rfl (by decide) rfl (fun ls hl => ?_)
                  refine lv_goto (tgt := 49) hx hb dX5_rate_105 (by decide) ?_
                  have h_21 : ((ctI (sAgeM F a mo) k) + 0) = (ctI (sAgeM F a mo) (k + 1)) := (by first | with_reducible rfl | simp [ctI, sAgeM, aRate, r3, lN_i, b_3, b_6, b_8, c_9, c_13, c_14, b_19, c_20])
                  have h_22 : ((nI k) + 1) = (nI (k + 1)) := (nI_1 _)
                  exact ih _ (lv_cast (lv_sub (l' := [(0, .ref (q 200)), (1, .int a), (2, .int mo), (3, .int w), (4, .int (ctI (sExp F a mo) n)), (5, .int ((ctI (sAgeM F a mo) k) + 0)), (6, .int ((nI k) + 1))]) hl [2, 3, 4, 5, 6, 1, 0] rfl) (cg2 (fun z21 z22 => [(0, .ref (q 200)), (1, .int a), (2, .int mo), (3, .int w), (4, .int (ctI (sExp F a mo) n)), (5, .int z21), (6, .int z22)]) h_21 h_22))
                · refine lv_iconst (v := 1) hx hb dX5_rate_94 (by decide) ?_
                  refine lv_goto (tgt := 99) hx hb dX5_rate_95 (by decide) ?_
                  refine lv_iadd hx hb dX5_rate_99 ?_
                  refine lv_istore (lv' := [(5, .int ((ctI (sAgeM F a mo) k) + 1)), (0, .ref (q 200)), (1, .int a), (2, .int mo), (3, .int w), (4, .int (ctI (sExp F a mo) n)), (6, .int (nI k))]) hx hb dX5_rate_100 hl (by decide) rfl (fun ls hl => ?_)
                  refine lv_iinc (v := ((nI k) + 1)) (lv' := [(6, .int ((nI k) + 1)), (5, .int ((ctI (sAgeM F a mo) k) + 1)), (0, .ref (q 200)), (1, .int a), (2, .int mo), (3, .int w), (4, .int (ctI (sExp F a mo) n))]) hx hb dX5_rate_102 hl (k := 6) rfl rfl (by decide) rfl (fun ls hl => ?_)
                  refine lv_goto (tgt := 49) hx hb dX5_rate_105 (by decide) ?_
                  have h_23 : ((ctI (sAgeM F a mo) k) + 1) = (ctI (sAgeM F a mo) (k + 1)) := (by first | with_reducible rfl | simp [ctI, sAgeM, aRate, r3, lN_i, b_3, b_6, b_8, c_9, c_13, c_14, b_19, c_20])
                  have h_24 : ((nI k) + 1) = (nI (k + 1)) := (nI_1 _)
                  exact ih _ (lv_cast (lv_sub (l' := [(0, .ref (q 200)), (1, .int a), (2, .int mo), (3, .int w), (4, .int (ctI (sExp F a mo) n)), (5, .int ((ctI (sAgeM F a mo) k) + 1)), (6, .int ((nI k) + 1))]) hl [2, 3, 4, 5, 6, 1, 0] rfl) (cg2 (fun z23 z24 => [(0, .ref (q 200)), (1, .int a), (2, .int mo), (3, .int w), (4, .int (ctI (sExp F a mo) n)), (5, .int z23), (6, .int z24)]) h_23 h_24))
        · refine lv_bipush (v := (-3)) hx hb dX5_rate_40 (by decide) ?_
          exact W.iret (v := (-3)) hx hb hr (fun t9 ht9 hW9 => ⟨(-3), rfl, (by simp [aRate, r3, b_3, b_6, b_8, c_9]), ht9⟩) (fun _ h => by cases h) dX5_rate_42
      · have b_25 : (rg w 0 1) = false := bI_f c_7
        refine lv_bipush (v := (-2)) hx hb dX5_rate_24 (by decide) ?_
        exact W.iret (v := (-2)) hx hb hr (fun t9 ht9 hW9 => ⟨(-2), rfl, (by simp [aRate, r3, b_3, b_6, b_25]), ht9⟩) (fun _ h => by cases h) dX5_rate_26
