set_option maxHeartbeats 4000000 in
set_option maxRecDepth 100000 in
/-- X1_standsInRowOf -/
theorem c_X1_standsInRowOf (l : Launch) (D : va_G) (cs : Nat → ClassId) (q : Nat → Nat) (F : Nat → Nat → Int32) (n c : Nat) (x : Int32) (tp : Int32) (hI : Inv F n c) : Met l yX1_standsInRowOf wsX1_standsInRowOf ({ frames := 2, cells := 0, slots := 0, locals := 42 }) (va_Pc [.ref (q 3), .int x, .int tp] (pw D cs (pW q cs F))) (vp_Si (fun r => r = (bI (stn F tp 10 x)))) 0 0 (fun _ => False) := by
  refine Met.ofW (cc := cX1_standsInRowOf) (maxL := 5) (ret := (some .boolean)) (by decide) rfl ?_
  intro p e s m args below meth c_ s₁ B hml hv
  obtain ⟨rfl, hP, hK, hN⟩ := hv
  have hx := B.exec
  have hb := B.bytes
  have hr := B.returns
  have hts := atoms_spec (ws := wsX1_standsInRowOf) B.pre
  have hown : s.vm.findClass RX1 = some m.cls := findClass_of_methodNamed B.named
  have hlocks := B.notSynchronized
  have hl := lv_entry ([.ref (q 3), .int x, .int tp]) (n := 5) (Nat.le_of_ble_eq_true rfl)
  rw [lg_entry_eq]
  generalize (lg_sl ([.ref (q 3), .int x, .int tp]) ++ List.replicate (5 - (lg_sl ([.ref (q 3), .int x, .int tp])).length) Slot.unset).toArray = ls at hl ⊢
  have hl : lv_has ls 5 [(0, .ref (q 3)), (1, .int x), (2, .int tp)] := hl
  have hn60 := hI.n60
  have hc100 := hI.c100
  refine lv_iload_n hx hb dX1_standsInRowOf_0 rfl (lv_at hl 1 rfl) ?_
  refine lv_istore_n (lv' := [(3, .int x), (0, .ref (q 3)), (1, .int x), (2, .int tp)]) hx hb dX1_standsInRowOf_1 rfl hl (by decide) rfl (fun ls hl => ?_)
  refine lv_iconst (v := 0) hx hb dX1_standsInRowOf_2 (by decide) ?_
  refine lv_istore (lv' := [(4, .int 0), (3, .int x), (0, .ref (q 3)), (1, .int x), (2, .int tp)]) hx hb dX1_standsInRowOf_3 hl (by decide) rfl (fun ls hl => ?_)
  refine lpW (fun k ls => lv_has ls 5 [(0, .ref (q 3)), (1, .int x), (2, .int tp), (3, .int (itP F k x)), (4, .int (nI k))] ∧ (stn F tp (10 - k) (itP F k x) = stn F tp 10 x)) 10 0 (Nat.zero_le _) ls ⟨(show lv_has ls 5 [(0, .ref (q 3)), (1, .int x), (2, .int tp), (3, .int (itP F 0 x)), (4, .int (nI 0))] from lv_sub hl [2, 3, 4, 1, 0] rfl), rfl⟩ ?_ ?_
  · intro ls ⟨hl, hE⟩
    have hl : lv_has ls 5 [(0, .ref (q 3)), (1, .int x), (2, .int tp), (3, .int (itP F 10 x)), (4, .int (nI 10))] := hl
    have hE : stn F tp (10 - 10) (itP F 10 x) = stn F tp 10 x := hE
    refine lv_iload hx hb dX1_standsInRowOf_5 (lv_at hl 4 rfl) ?_
    refine lv_bipush (v := 10) hx hb dX1_standsInRowOf_7 (by decide) ?_
    refine lv_icmp_ge (tgt := 39) hx hb dX1_standsInRowOf_9 (by decide) (fun c_1 => ?_) (fun c_1 => ?_)
    · have c_2 := i_le c_1
      refine lv_iconst (v := 0) hx hb dX1_standsInRowOf_39 (by decide) ?_
      exact W.zret (v := 0) hx hb hr rfl (fun t9 ht9 hW9 => ⟨0, rfl, (by rw [← hE]; rfl), ht9⟩) (fun _ h => by cases h) dX1_standsInRowOf_40
    · exact absurd (nI_le (b := 10) (Nat.le_refl 10) (by decide)) c_1
  · intro k hk0 hk ih ls ⟨hl, hE⟩
    have hl : lv_has ls 5 [(0, .ref (q 3)), (1, .int x), (2, .int tp), (3, .int (itP F k x)), (4, .int (nI k))] := hl
    have hE : stn F tp (10 - k) (itP F k x) = stn F tp 10 x := hE
    refine lv_iload hx hb dX1_standsInRowOf_5 (lv_at hl 4 rfl) ?_
    refine lv_bipush (v := 10) hx hb dX1_standsInRowOf_7 (by decide) ?_
    refine lv_icmp_ge (tgt := 39) hx hb dX1_standsInRowOf_9 (by decide) (fun c_3 => ?_) (fun c_3 => ?_)
    · exact absurd c_3 (nI_ge (b := 10) hk (by decide))
    · have c_4 := i_nle c_3
      refine lv_iload_n hx hb dX1_standsInRowOf_12 rfl (lv_at hl 3 rfl) ?_
      refine roNi (As := [.int (itP F k x)]) (rest := []) (v := (bI (rg (itP F k x) 0 9))) ⟨hx, hb, hml, hown, hts⟩ (c_X4_isPart l (itP F k x)) (va_cnB 1 hts gX1_standsInRowOf_X4_isPart_n21 rfl rfl rfl hN.1 (hts (.initialized RX4) (List.mem_of_getElem? (i := 3) rfl)) (by decide +kernel) ⟨Nat.le_of_ble_eq_true rfl, Nat.le_of_ble_eq_true rfl⟩) (hts (.static yX4_isPart) (List.mem_of_getElem? (i := 2) rfl)) rfl hl.1 rfl (Nat.le_of_ble_eq_true rfl) dX1_standsInRowOf_13 ⟨Nat.zero_le _, Nat.zero_le _⟩ ?_
      refine lv_if_eq (tgt := 39) hx hb dX1_standsInRowOf_16 (by decide) (fun c_5 => ?_) (fun c_5 => ?_)
      · have b_6 : (rg (itP F k x) 0 9) = false := bI_f c_5
        refine lv_iconst (v := 0) hx hb dX1_standsInRowOf_39 (by decide) ?_
        exact W.zret (v := 0) hx hb hr rfl (fun t9 ht9 hW9 => ⟨0, rfl, (by rw [stn_e b_6 hE]; rfl), ht9⟩) (fun _ h => by cases h) dX1_standsInRowOf_40
      · have b_7 : (rg (itP F k x) 0 9) = true := bI_t c_5
        refine lv_iload_n hx hb dX1_standsInRowOf_19 rfl (lv_at hl 3 rfl) ?_
        refine lv_iload_n hx hb dX1_standsInRowOf_20 rfl (lv_at hl 2 rfl) ?_
        refine lv_icmp_ne (tgt := 26) hx hb dX1_standsInRowOf_21 (by decide) (fun c_8 => ?_) (fun c_8 => ?_)
        · refine lv_aload_n hx hb dX1_standsInRowOf_26 rfl (lv_at hl 0 rfl) ?_
          refine va_get (D := D) (ci := 1) (v := .ref (q 30)) (C := RX1) (T := TX1) (N := 3) hx hb hts (fun _ h => List.mem_cons_of_mem _ (List.mem_append_right _ h)) hown hK hP 0 rfl rfl 0 (by decide) (hts (.fieldLink RX1 9 "UnderPromise$Parts" "above" "[I") (List.mem_of_getElem? (i := 1) rfl)) (fun _ h9 => h9) rfl dX1_standsInRowOf_27 ?_
          refine lv_iload_n hx hb dX1_standsInRowOf_30 rfl (lv_at hl 3 rfl) ?_
          refine iaK (v := (F 12 (ix (itP F k x)))) hx hb hK hP 1 0 rfl rfl (ix (itP F k x)) (rg_in (by decide) (by decide) b_7) rfl rfl dX1_standsInRowOf_31 ?_
          refine lv_istore_n (lv' := [(3, .int (F 12 (ix (itP F k x)))), (0, .ref (q 3)), (1, .int x), (2, .int tp), (4, .int (nI k))]) hx hb dX1_standsInRowOf_32 rfl hl (by decide) rfl (fun ls hl => ?_)
          refine lv_iinc (v := ((nI k) + 1)) (lv' := [(4, .int ((nI k) + 1)), (3, .int (F 12 (ix (itP F k x)))), (0, .ref (q 3)), (1, .int x), (2, .int tp)]) hx hb dX1_standsInRowOf_33 hl (k := 4) rfl rfl (by decide) rfl (fun ls hl => ?_)
          refine lv_goto (tgt := 5) hx hb dX1_standsInRowOf_36 (by decide) ?_
          have h_9 : (F 12 (ix (itP F k x))) = (itP F (k + 1) x) := (by simp [itP, c_3, c_4, b_7, c_8])
          have h_10 : ((nI k) + 1) = (nI (k + 1)) := (nI_1 _)
          exact ih _ ⟨(lv_cast (lv_sub (l' := [(0, .ref (q 3)), (1, .int x), (2, .int tp), (3, .int (F 12 (ix (itP F k x)))), (4, .int ((nI k) + 1))]) hl [2, 3, 4, 1, 0] rfl) (cg2 (fun z9 z10 => [(0, .ref (q 3)), (1, .int x), (2, .int tp), (3, .int z9), (4, .int z10)]) h_9 h_10)), (stn_s hk b_7 c_8 hE (by simp [itP, b_7]))⟩
        · refine lv_iconst (v := 1) hx hb dX1_standsInRowOf_24 (by decide) ?_
          exact W.zret (v := 1) hx hb hr rfl (fun t9 ht9 hW9 => ⟨1, rfl, (by rw [stn_t hk b_7 c_8 hE]; rfl), ht9⟩) (fun _ h => by cases h) dX1_standsInRowOf_25
set_option maxHeartbeats 4000000 in
set_option maxRecDepth 100000 in
/-- X1_withAllUnder -/
theorem c_X1_withAllUnder (l : Launch) (D : va_G) (cs : Nat → ClassId) (q : Nat → Nat) (F : Nat → Nat → Int32) (n c : Nat) (tp : Int32) (hI : Inv F n c) : Met l yX1_withAllUnder wsX1_withAllUnder ({ frames := 3, cells := 0, slots := 0, locals := 66 }) (va_Pc [.ref (q 3), .int tp] (pw D cs (pW q cs F))) (vp_Si (fun r => r = (wau F tp 10))) 0 0 (fun _ => False) := by
  refine Met.ofW (cc := cX1_withAllUnder) (maxL := 4) (ret := (some .int)) (by decide) rfl ?_
  intro p e s m args below meth c_ s₁ B hml hv
  obtain ⟨rfl, hP, hK, hN⟩ := hv
  have hx := B.exec
  have hb := B.bytes
  have hr := B.returns
  have hts := atoms_spec (ws := wsX1_withAllUnder) B.pre
  have hown : s.vm.findClass RX1 = some m.cls := findClass_of_methodNamed B.named
  have hlocks := B.notSynchronized
  have hl := lv_entry ([.ref (q 3), .int tp]) (n := 4) (Nat.le_of_ble_eq_true rfl)
  rw [lg_entry_eq]
  generalize (lg_sl ([.ref (q 3), .int tp]) ++ List.replicate (4 - (lg_sl ([.ref (q 3), .int tp])).length) Slot.unset).toArray = ls at hl ⊢
  have hl : lv_has ls 4 [(0, .ref (q 3)), (1, .int tp)] := hl
  have hn60 := hI.n60
  have hc100 := hI.c100
  refine lv_iconst (v := 0) hx hb dX1_withAllUnder_0 (by decide) ?_
  refine lv_istore_n (lv' := [(2, .int 0), (0, .ref (q 3)), (1, .int tp)]) hx hb dX1_withAllUnder_1 rfl hl (by decide) rfl (fun ls hl => ?_)
  refine lv_iconst (v := 0) hx hb dX1_withAllUnder_2 (by decide) ?_
  refine lv_istore_n (lv' := [(3, .int 0), (2, .int 0), (0, .ref (q 3)), (1, .int tp)]) hx hb dX1_withAllUnder_3 rfl hl (by decide) rfl (fun ls hl => ?_)
  refine lpW (fun k ls => lv_has ls 4 [(0, .ref (q 3)), (1, .int tp), (2, .int (wau F tp k)), (3, .int (nI k))]) 10 0 (Nat.zero_le _) ls (show lv_has ls 4 [(0, .ref (q 3)), (1, .int tp), (2, .int (wau F tp 0)), (3, .int (nI 0))] from lv_sub hl [2, 3, 1, 0] rfl) ?_ ?_
  · intro ls hl
    have hl : lv_has ls 4 [(0, .ref (q 3)), (1, .int tp), (2, .int (wau F tp 10)), (3, .int (nI 10))] := hl
    refine lv_iload_n hx hb dX1_withAllUnder_4 rfl (lv_at hl 3 rfl) ?_
    refine lv_bipush (v := 10) hx hb dX1_withAllUnder_5 (by decide) ?_
    refine lv_icmp_ge (tgt := 31) hx hb dX1_withAllUnder_7 (by decide) (fun c_1 => ?_) (fun c_1 => ?_)
    · have c_2 := i_le c_1
      refine lv_iload_n hx hb dX1_withAllUnder_31 rfl (lv_at hl 2 rfl) ?_
      exact W.iret (v := (wau F tp 10)) hx hb hr (fun t9 ht9 hW9 => ⟨(wau F tp 10), rfl, rfl, ht9⟩) (fun _ h => by cases h) dX1_withAllUnder_32
    · exact absurd (nI_le (b := 10) (Nat.le_refl 10) (by decide)) c_1
  · intro k hk0 hk ih ls hl
    have hl : lv_has ls 4 [(0, .ref (q 3)), (1, .int tp), (2, .int (wau F tp k)), (3, .int (nI k))] := hl
    refine lv_iload_n hx hb dX1_withAllUnder_4 rfl (lv_at hl 3 rfl) ?_
    refine lv_bipush (v := 10) hx hb dX1_withAllUnder_5 (by decide) ?_
    refine lv_icmp_ge (tgt := 31) hx hb dX1_withAllUnder_7 (by decide) (fun c_3 => ?_) (fun c_3 => ?_)
    · exact absurd c_3 (nI_ge (b := 10) hk (by decide))
    · have c_4 := i_nle c_3
      refine lv_aload_n hx hb dX1_withAllUnder_10 rfl (lv_at hl 0 rfl) ?_
      refine lv_iload_n hx hb dX1_withAllUnder_11 rfl (lv_at hl 3 rfl) ?_
      refine lv_iload_n hx hb dX1_withAllUnder_12 rfl (lv_at hl 1 rfl) ?_
      refine roVi (As := [.int (nI k), .int tp]) (rest := []) (v := (bI (stn F tp 10 (nI k)))) ⟨hx, hb, hml, hown, hts⟩ (c_X1_standsInRowOf l D cs q F n c (nI k) tp hI) (cwV 2 hts gX1_withAllUnder_X1_standsInRowOf rfl rfl rfl (by decide +kernel) ⟨Nat.le_of_ble_eq_true rfl, Nat.le_of_ble_eq_true rfl⟩) hP hK hN 0 rfl rfl rfl hl.1 rfl (Nat.le_of_ble_eq_true rfl) dX1_withAllUnder_13 ⟨Nat.zero_le _, Nat.zero_le _⟩ ?_
      refine lv_if_eq (tgt := 25) hx hb dX1_withAllUnder_16 (by decide) (fun c_5 => ?_) (fun c_5 => ?_)
      · have b_6 : (stn F tp 10 (nI k)) = false := bI_f c_5
        refine lv_iinc (v := ((nI k) + 1)) (lv' := [(3, .int ((nI k) + 1)), (0, .ref (q 3)), (1, .int tp), (2, .int (wau F tp k))]) hx hb dX1_withAllUnder_25 hl (k := 3) rfl rfl (by decide) rfl (fun ls hl => ?_)
        refine lv_goto (tgt := 4) hx hb dX1_withAllUnder_28 (by decide) ?_
        have h_7 : (wau F tp k) = (wau F tp (k + 1)) := (by first | with_reducible rfl | simp [wau, c_3, c_4, b_6])
        have h_8 : ((nI k) + 1) = (nI (k + 1)) := (nI_1 _)
        exact ih _ (lv_cast (lv_sub (l' := [(0, .ref (q 3)), (1, .int tp), (2, .int (wau F tp k)), (3, .int ((nI k) + 1))]) hl [1, 2, 3, 0] rfl) (cg2 (fun z7 z8 => [(0, .ref (q 3)), (1, .int tp), (2, .int z7), (3, .int z8)]) h_7 h_8))
      · have b_9 : (stn F tp 10 (nI k)) = true := bI_t c_5
        refine lv_iload_n hx hb dX1_withAllUnder_19 rfl (lv_at hl 2 rfl) ?_
        refine lv_iconst (v := 1) hx hb dX1_withAllUnder_20 (by decide) ?_
        refine lv_iload_n hx hb dX1_withAllUnder_21 rfl (lv_at hl 3 rfl) ?_
        refine lv_ishl hx hb dX1_withAllUnder_22 ?_
        refine lv_ior hx hb dX1_withAllUnder_23 ?_
        refine lv_istore_n (lv' := [(2, .int ((wau F tp k) ||| (1 <<< ((nI k) &&& 31)))), (0, .ref (q 3)), (1, .int tp), (3, .int (nI k))]) hx hb dX1_withAllUnder_24 rfl hl (by decide) rfl (fun ls hl => ?_)
        refine lv_iinc (v := ((nI k) + 1)) (lv' := [(3, .int ((nI k) + 1)), (2, .int ((wau F tp k) ||| (1 <<< ((nI k) &&& 31)))), (0, .ref (q 3)), (1, .int tp)]) hx hb dX1_withAllUnder_25 hl (k := 3) rfl rfl (by decide) rfl (fun ls hl => ?_)
        refine lv_goto (tgt := 4) hx hb dX1_withAllUnder_28 (by decide) ?_
        have h_10 : ((wau F tp k) ||| (1 <<< ((nI k) &&& 31))) = (wau F tp (k + 1)) := (by first | with_reducible rfl | simp [wau, c_3, c_4, b_9])
        have h_11 : ((nI k) + 1) = (nI (k + 1)) := (nI_1 _)
        exact ih _ (lv_cast (lv_sub (l' := [(0, .ref (q 3)), (1, .int tp), (2, .int ((wau F tp k) ||| (1 <<< ((nI k) &&& 31)))), (3, .int ((nI k) + 1))]) hl [2, 3, 1, 0] rfl) (cg2 (fun z10 z11 => [(0, .ref (q 3)), (1, .int tp), (2, .int z10), (3, .int z11)]) h_10 h_11))
set_option maxHeartbeats 4000000 in
set_option maxRecDepth 100000 in
/-- X1_firstWithMaker -/
theorem c_X1_firstWithMaker (l : Launch) (D : va_G) (cs : Nat → ClassId) (q : Nat → Nat) (F : Nat → Nat → Int32) (n c : Nat) (x : Int32) (hI : Inv F n c) : Met l yX1_firstWithMaker wsX1_firstWithMaker ({ frames := 2, cells := 0, slots := 0, locals := 42 }) (va_Pc [.ref (q 3), .int x] (pw D cs (pW q cs F))) (vp_Si (fun r => r = (fwm F 10 x))) 0 0 (fun _ => False) := by
  refine Met.ofW (cc := cX1_firstWithMaker) (maxL := 4) (ret := (some .int)) (by decide) rfl ?_
  intro p e s m args below meth c_ s₁ B hml hv
  obtain ⟨rfl, hP, hK, hN⟩ := hv
  have hx := B.exec
  have hb := B.bytes
  have hr := B.returns
  have hts := atoms_spec (ws := wsX1_firstWithMaker) B.pre
  have hown : s.vm.findClass RX1 = some m.cls := findClass_of_methodNamed B.named
  have hlocks := B.notSynchronized
  have hl := lv_entry ([.ref (q 3), .int x]) (n := 4) (Nat.le_of_ble_eq_true rfl)
  rw [lg_entry_eq]
  generalize (lg_sl ([.ref (q 3), .int x]) ++ List.replicate (4 - (lg_sl ([.ref (q 3), .int x])).length) Slot.unset).toArray = ls at hl ⊢
  have hl : lv_has ls 4 [(0, .ref (q 3)), (1, .int x)] := hl
  have hn60 := hI.n60
  have hc100 := hI.c100
  refine lv_iload_n hx hb dX1_firstWithMaker_0 rfl (lv_at hl 1 rfl) ?_
  refine lv_istore_n (lv' := [(2, .int x), (0, .ref (q 3)), (1, .int x)]) hx hb dX1_firstWithMaker_1 rfl hl (by decide) rfl (fun ls hl => ?_)
  refine lv_iconst (v := 0) hx hb dX1_firstWithMaker_2 (by decide) ?_
  refine lv_istore_n (lv' := [(3, .int 0), (2, .int x), (0, .ref (q 3)), (1, .int x)]) hx hb dX1_firstWithMaker_3 rfl hl (by decide) rfl (fun ls hl => ?_)
  refine lpW (fun k ls => lv_has ls 4 [(0, .ref (q 3)), (1, .int x), (2, .int (itP F k x)), (3, .int (nI k))] ∧ (fwm F (10 - k) (itP F k x) = fwm F 10 x)) 10 0 (Nat.zero_le _) ls ⟨(show lv_has ls 4 [(0, .ref (q 3)), (1, .int x), (2, .int (itP F 0 x)), (3, .int (nI 0))] from lv_sub hl [2, 3, 1, 0] rfl), rfl⟩ ?_ ?_
  · intro ls ⟨hl, hE⟩
    have hl : lv_has ls 4 [(0, .ref (q 3)), (1, .int x), (2, .int (itP F 10 x)), (3, .int (nI 10))] := hl
    have hE : fwm F (10 - 10) (itP F 10 x) = fwm F 10 x := hE
    refine lv_iload_n hx hb dX1_firstWithMaker_4 rfl (lv_at hl 3 rfl) ?_
    refine lv_bipush (v := 10) hx hb dX1_firstWithMaker_5 (by decide) ?_
    refine lv_icmp_ge (tgt := 42) hx hb dX1_firstWithMaker_7 (by decide) (fun c_1 => ?_) (fun c_1 => ?_)
    · have c_2 := i_le c_1
      refine lv_iconst (v := (-1)) hx hb dX1_firstWithMaker_42 (by decide) ?_
      exact W.iret (v := (-1)) hx hb hr (fun t9 ht9 hW9 => ⟨(-1), rfl, (by rw [← hE]; rfl), ht9⟩) (fun _ h => by cases h) dX1_firstWithMaker_43
    · exact absurd (nI_le (b := 10) (Nat.le_refl 10) (by decide)) c_1
  · intro k hk0 hk ih ls ⟨hl, hE⟩
    have hl : lv_has ls 4 [(0, .ref (q 3)), (1, .int x), (2, .int (itP F k x)), (3, .int (nI k))] := hl
    have hE : fwm F (10 - k) (itP F k x) = fwm F 10 x := hE
    refine lv_iload_n hx hb dX1_firstWithMaker_4 rfl (lv_at hl 3 rfl) ?_
    refine lv_bipush (v := 10) hx hb dX1_firstWithMaker_5 (by decide) ?_
    refine lv_icmp_ge (tgt := 42) hx hb dX1_firstWithMaker_7 (by decide) (fun c_3 => ?_) (fun c_3 => ?_)
    · exact absurd c_3 (nI_ge (b := 10) hk (by decide))
    · have c_4 := i_nle c_3
      refine lv_iload_n hx hb dX1_firstWithMaker_10 rfl (lv_at hl 2 rfl) ?_
      refine roNi (As := [.int (itP F k x)]) (rest := []) (v := (bI (rg (itP F k x) 0 9))) ⟨hx, hb, hml, hown, hts⟩ (c_X4_isPart l (itP F k x)) (va_cnB 1 hts gX1_firstWithMaker_X4_isPart_n21 rfl rfl rfl hN.1 (hts (.initialized RX4) (List.mem_of_getElem? (i := 4) rfl)) (by decide +kernel) ⟨Nat.le_of_ble_eq_true rfl, Nat.le_of_ble_eq_true rfl⟩) (hts (.static yX4_isPart) (List.mem_of_getElem? (i := 3) rfl)) rfl hl.1 rfl (Nat.le_of_ble_eq_true rfl) dX1_firstWithMaker_11 ⟨Nat.zero_le _, Nat.zero_le _⟩ ?_
      refine lv_if_eq (tgt := 42) hx hb dX1_firstWithMaker_14 (by decide) (fun c_5 => ?_) (fun c_5 => ?_)
      · have b_6 : (rg (itP F k x) 0 9) = false := bI_f c_5
        refine lv_iconst (v := (-1)) hx hb dX1_firstWithMaker_42 (by decide) ?_
        exact W.iret (v := (-1)) hx hb hr (fun t9 ht9 hW9 => ⟨(-1), rfl, (fwm_e b_6 hE), ht9⟩) (fun _ h => by cases h) dX1_firstWithMaker_43
      · have b_7 : (rg (itP F k x) 0 9) = true := bI_t c_5
        refine lv_aload_n hx hb dX1_firstWithMaker_17 rfl (lv_at hl 0 rfl) ?_
        refine va_get (D := D) (ci := 1) (v := .ref (q 31)) (C := RX1) (T := TX1) (N := 3) hx hb hts (fun _ h => List.mem_cons_of_mem _ (List.mem_append_right _ h)) hown hK hP 0 rfl rfl 1 (by decide) (hts (.fieldLink RX1 15 "UnderPromise$Parts" "maker" "[I") (List.mem_of_getElem? (i := 1) rfl)) (fun _ h9 => h9) rfl dX1_firstWithMaker_18 ?_
        refine lv_iload_n hx hb dX1_firstWithMaker_21 rfl (lv_at hl 2 rfl) ?_
        refine iaK (v := (F 13 (ix (itP F k x)))) hx hb hK hP 2 0 rfl rfl (ix (itP F k x)) (rg_in (by decide) (by decide) b_7) rfl rfl dX1_firstWithMaker_22 ?_
        refine lv_iconst (v := (-1)) hx hb dX1_firstWithMaker_23 (by decide) ?_
        refine lv_icmp_eq (tgt := 29) hx hb dX1_firstWithMaker_24 (by decide) (fun c_8 => ?_) (fun c_8 => ?_)
        · refine lv_aload_n hx hb dX1_firstWithMaker_29 rfl (lv_at hl 0 rfl) ?_
          refine va_get (D := D) (ci := 1) (v := .ref (q 30)) (C := RX1) (T := TX1) (N := 3) hx hb hts (fun _ h => List.mem_cons_of_mem _ (List.mem_append_right _ h)) hown hK hP 0 rfl rfl 0 (by decide) (hts (.fieldLink RX1 9 "UnderPromise$Parts" "above" "[I") (List.mem_of_getElem? (i := 2) rfl)) (fun _ h9 => h9) rfl dX1_firstWithMaker_30 ?_
          refine lv_iload_n hx hb dX1_firstWithMaker_33 rfl (lv_at hl 2 rfl) ?_
          refine iaK (v := (F 12 (ix (itP F k x)))) hx hb hK hP 1 0 rfl rfl (ix (itP F k x)) (rg_in (by decide) (by decide) b_7) rfl rfl dX1_firstWithMaker_34 ?_
          refine lv_istore_n (lv' := [(2, .int (F 12 (ix (itP F k x)))), (0, .ref (q 3)), (1, .int x), (3, .int (nI k))]) hx hb dX1_firstWithMaker_35 rfl hl (by decide) rfl (fun ls hl => ?_)
          refine lv_iinc (v := ((nI k) + 1)) (lv' := [(3, .int ((nI k) + 1)), (2, .int (F 12 (ix (itP F k x)))), (0, .ref (q 3)), (1, .int x)]) hx hb dX1_firstWithMaker_36 hl (k := 3) rfl rfl (by decide) rfl (fun ls hl => ?_)
          refine lv_goto (tgt := 4) hx hb dX1_firstWithMaker_39 (by decide) ?_
          have h_9 : (F 12 (ix (itP F k x))) = (itP F (k + 1) x) := (by simp [itP, c_3, c_4, b_7, c_8])
          have h_10 : ((nI k) + 1) = (nI (k + 1)) := (nI_1 _)
          exact ih _ ⟨(lv_cast (lv_sub (l' := [(0, .ref (q 3)), (1, .int x), (2, .int (F 12 (ix (itP F k x)))), (3, .int ((nI k) + 1))]) hl [2, 3, 1, 0] rfl) (cg2 (fun z9 z10 => [(0, .ref (q 3)), (1, .int x), (2, .int z9), (3, .int z10)]) h_9 h_10)), (fwm_s hk b_7 c_8 hE (by simp [itP, b_7]))⟩
        · refine lv_iload_n hx hb dX1_firstWithMaker_27 rfl (lv_at hl 2 rfl) ?_
          exact W.iret (v := (itP F k x)) hx hb hr (fun t9 ht9 hW9 => ⟨(itP F k x), rfl, (fwm_t hk b_7 c_8 hE), ht9⟩) (fun _ h => by cases h) dX1_firstWithMaker_28
set_option maxHeartbeats 4000000 in
set_option maxRecDepth 100000 in
/-- X1_digestOnto -/
theorem c_X1_digestOnto (l : Launch) (D : va_G) (cs : Nat → ClassId) (q : Nat → Nat) (F : Nat → Nat → Int32) (n c : Nat) (h0 : Int64) (hI : Inv F n c) : Met l yX1_digestOnto wsX1_digestOnto ({ frames := 0, cells := 0, slots := 0, locals := 0 }) (va_Pc [.ref (q 3), .long h0] (pw D cs (pW q cs F))) (vp_Sl (fun r => r = (dgP F h0 10))) 0 0 (fun _ => False) := by
  refine Met.ofW (cc := cX1_digestOnto) (maxL := 6) (ret := (some .long)) (by decide) rfl ?_
  intro p e s m args below meth c_ s₁ B hml hv
  obtain ⟨rfl, hP, hK, hN⟩ := hv
  have hx := B.exec
  have hb := B.bytes
  have hr := B.returns
  have hts := atoms_spec (ws := wsX1_digestOnto) B.pre
  have hown : s.vm.findClass RX1 = some m.cls := findClass_of_methodNamed B.named
  have hlocks := B.notSynchronized
  have hl := lv_entry ([.ref (q 3), .long h0]) (n := 6) (Nat.le_of_ble_eq_true rfl)
  rw [lg_entry_eq]
  generalize (lg_sl ([.ref (q 3), .long h0]) ++ List.replicate (6 - (lg_sl ([.ref (q 3), .long h0])).length) Slot.unset).toArray = ls at hl ⊢
  have hl : lv_has ls 6 [(0, .ref (q 3)), (1, .long h0)] := hl
  have hn60 := hI.n60
  have hc100 := hI.c100
  refine lv_lload_n hx hb dX1_digestOnto_0 rfl (lv_at hl 1 rfl) ?_
  refine lv_lstore_n (lv' := [(3, .long h0), (0, .ref (q 3)), (1, .long h0)]) hx hb dX1_digestOnto_1 rfl hl (by decide) rfl (fun ls hl => ?_)
  refine lv_iconst (v := 0) hx hb dX1_digestOnto_2 (by decide) ?_
  refine lv_istore (lv' := [(5, .int 0), (3, .long h0), (0, .ref (q 3)), (1, .long h0)]) hx hb dX1_digestOnto_3 hl (by decide) rfl (fun ls hl => ?_)
  refine lpW (fun k ls => lv_has ls 6 [(0, .ref (q 3)), (1, .long h0), (3, .long (dgP F h0 k)), (5, .int (nI k))]) 10 0 (Nat.zero_le _) ls (show lv_has ls 6 [(0, .ref (q 3)), (1, .long h0), (3, .long (dgP F h0 0)), (5, .int (nI 0))] from lv_sub hl [2, 3, 1, 0] rfl) ?_ ?_
  · intro ls hl
    have hl : lv_has ls 6 [(0, .ref (q 3)), (1, .long h0), (3, .long (dgP F h0 10)), (5, .int (nI 10))] := hl
    refine lv_iload hx hb dX1_digestOnto_5 (lv_at hl 3 rfl) ?_
    refine lv_bipush (v := 10) hx hb dX1_digestOnto_7 (by decide) ?_
    refine lv_icmp_ge (tgt := 63) hx hb dX1_digestOnto_9 (by decide) (fun c_1 => ?_) (fun c_1 => ?_)
    · have c_2 := i_le c_1
      refine lv_lload_n hx hb dX1_digestOnto_63 rfl (lv_at hl 2 rfl) ?_
      exact W.lret (v := (dgP F h0 10)) hx hb hr (fun t9 ht9 hW9 => ⟨(dgP F h0 10), rfl, rfl, ht9⟩) (fun _ h => by cases h) dX1_digestOnto_64
    · exact absurd (nI_le (b := 10) (Nat.le_refl 10) (by decide)) c_1
  · intro k hk0 hk ih ls hl
    have hl : lv_has ls 6 [(0, .ref (q 3)), (1, .long h0), (3, .long (dgP F h0 k)), (5, .int (nI k))] := hl
    refine lv_iload hx hb dX1_digestOnto_5 (lv_at hl 3 rfl) ?_
    refine lv_bipush (v := 10) hx hb dX1_digestOnto_7 (by decide) ?_
    refine lv_icmp_ge (tgt := 63) hx hb dX1_digestOnto_9 (by decide) (fun c_3 => ?_) (fun c_3 => ?_)
    · exact absurd c_3 (nI_ge (b := 10) hk (by decide))
    · have c_4 := i_nle c_3
      refine lv_ldc2 (v := 31) hx hb hown (hts (.constantLong RX1 29 (31)) (List.mem_of_getElem? (i := 1) rfl)) dX1_digestOnto_12 ?_
      refine lv_lload_n hx hb dX1_digestOnto_15 rfl (lv_at hl 2 rfl) ?_
      refine lv_lmul hx hb dX1_digestOnto_16 ?_
      refine lv_aload_n hx hb dX1_digestOnto_17 rfl (lv_at hl 0 rfl) ?_
      refine va_get (D := D) (ci := 1) (v := .ref (q 30)) (C := RX1) (T := TX1) (N := 3) hx hb hts (fun _ h => List.mem_cons_of_mem _ (List.mem_append_right _ h)) hown hK hP 0 rfl rfl 0 (by decide) (hts (.fieldLink RX1 9 "UnderPromise$Parts" "above" "[I") (List.mem_of_getElem? (i := 2) rfl)) (fun _ h9 => h9) rfl dX1_digestOnto_18 ?_
      refine lv_iload hx hb dX1_digestOnto_21 (lv_at hl 3 rfl) ?_
      refine iaK (v := (F 12 k)) hx hb hK hP 1 0 rfl rfl k (vp_in_nI (by omega) (by decide)) (nI_clamp (by omega)) rfl dX1_digestOnto_23 ?_
      refine lv_i2l (v := (Int32.toInt64 (F 12 k))) hx hb dX1_digestOnto_24 rfl ?_
      refine lv_ladd hx hb dX1_digestOnto_25 ?_
      refine lv_lstore_n (lv' := [(3, .long ((31 * (dgP F h0 k)) + (Int32.toInt64 (F 12 k)))), (0, .ref (q 3)), (1, .long h0), (5, .int (nI k))]) hx hb dX1_digestOnto_26 rfl hl (by decide) rfl (fun ls hl => ?_)
      refine lv_ldc2 (v := 31) hx hb hown (hts (.constantLong RX1 29 (31)) (List.mem_of_getElem? (i := 1) rfl)) dX1_digestOnto_27 ?_
      refine lv_lload_n hx hb dX1_digestOnto_30 rfl (lv_at hl 0 rfl) ?_
      refine lv_lmul hx hb dX1_digestOnto_31 ?_
      refine lv_aload_n hx hb dX1_digestOnto_32 rfl (lv_at hl 1 rfl) ?_
      refine va_get (D := D) (ci := 1) (v := .ref (q 31)) (C := RX1) (T := TX1) (N := 3) hx hb hts (fun _ h => List.mem_cons_of_mem _ (List.mem_append_right _ h)) hown hK hP 0 rfl rfl 1 (by decide) (hts (.fieldLink RX1 15 "UnderPromise$Parts" "maker" "[I") (List.mem_of_getElem? (i := 3) rfl)) (fun _ h9 => h9) rfl dX1_digestOnto_33 ?_
      refine lv_iload hx hb dX1_digestOnto_36 (lv_at hl 3 rfl) ?_
      refine iaK (v := (F 13 k)) hx hb hK hP 2 0 rfl rfl k (vp_in_nI (by omega) (by decide)) (nI_clamp (by omega)) rfl dX1_digestOnto_38 ?_
      refine lv_i2l (v := (Int32.toInt64 (F 13 k))) hx hb dX1_digestOnto_39 rfl ?_
      refine lv_ladd hx hb dX1_digestOnto_40 ?_
      refine lv_lstore_n (lv' := [(3, .long ((31 * ((31 * (dgP F h0 k)) + (Int32.toInt64 (F 12 k)))) + (Int32.toInt64 (F 13 k)))), (0, .ref (q 3)), (1, .long h0), (5, .int (nI k))]) hx hb dX1_digestOnto_41 rfl hl (by decide) rfl (fun ls hl => ?_)
      refine lv_ldc2 (v := 31) hx hb hown (hts (.constantLong RX1 29 (31)) (List.mem_of_getElem? (i := 1) rfl)) dX1_digestOnto_42 ?_
      refine lv_lload_n hx hb dX1_digestOnto_45 rfl (lv_at hl 0 rfl) ?_
      refine lv_lmul hx hb dX1_digestOnto_46 ?_
      refine lv_aload_n hx hb dX1_digestOnto_47 rfl (lv_at hl 1 rfl) ?_
      refine va_get (D := D) (ci := 1) (v := .ref (q 32)) (C := RX1) (T := TX1) (N := 3) hx hb hts (fun _ h => List.mem_cons_of_mem _ (List.mem_append_right _ h)) hown hK hP 0 rfl rfl 2 (by decide) (hts (.fieldLink RX1 18 "UnderPromise$Parts" "share" "[I") (List.mem_of_getElem? (i := 4) rfl)) (fun _ h9 => h9) rfl dX1_digestOnto_48 ?_
      refine lv_iload hx hb dX1_digestOnto_51 (lv_at hl 3 rfl) ?_
      refine iaK (v := (F 14 k)) hx hb hK hP 3 0 rfl rfl k (vp_in_nI (by omega) (by decide)) (nI_clamp (by omega)) rfl dX1_digestOnto_53 ?_
      refine lv_i2l (v := (Int32.toInt64 (F 14 k))) hx hb dX1_digestOnto_54 rfl ?_
      refine lv_ladd hx hb dX1_digestOnto_55 ?_
      refine lv_lstore_n (lv' := [(3, .long ((31 * ((31 * ((31 * (dgP F h0 k)) + (Int32.toInt64 (F 12 k)))) + (Int32.toInt64 (F 13 k)))) + (Int32.toInt64 (F 14 k)))), (0, .ref (q 3)), (1, .long h0), (5, .int (nI k))]) hx hb dX1_digestOnto_56 rfl hl (by decide) rfl (fun ls hl => ?_)
      refine lv_iinc (v := ((nI k) + 1)) (lv' := [(5, .int ((nI k) + 1)), (3, .long ((31 * ((31 * ((31 * (dgP F h0 k)) + (Int32.toInt64 (F 12 k)))) + (Int32.toInt64 (F 13 k)))) + (Int32.toInt64 (F 14 k)))), (0, .ref (q 3)), (1, .long h0)]) hx hb dX1_digestOnto_57 hl (k := 3) rfl rfl (by decide) rfl (fun ls hl => ?_)
      refine lv_goto (tgt := 5) hx hb dX1_digestOnto_60 (by decide) ?_
      have h_5 : ((31 * ((31 * ((31 * (dgP F h0 k)) + (Int32.toInt64 (F 12 k)))) + (Int32.toInt64 (F 13 k)))) + (Int32.toInt64 (F 14 k))) = (dgP F h0 (k + 1)) := rfl
      have h_6 : ((nI k) + 1) = (nI (k + 1)) := (nI_1 _)
      exact ih _ (lv_cast (lv_sub (l' := [(0, .ref (q 3)), (1, .long h0), (3, .long ((31 * ((31 * ((31 * (dgP F h0 k)) + (Int32.toInt64 (F 12 k)))) + (Int32.toInt64 (F 13 k)))) + (Int32.toInt64 (F 14 k)))), (5, .int ((nI k) + 1))]) hl [2, 3, 1, 0] rfl) (cg2 (fun z5 z6 => [(0, .ref (q 3)), (1, .long h0), (3, .long z5), (5, .int z6)]) h_5 h_6))
