set_option maxHeartbeats 4000000 in
set_option maxRecDepth 100000 in
/-- X5_in -/
theorem c_X5_in (l : Launch) (x lo hi : Int32) (lo2 hi2 : Int64) (hlo : lo2 = lo.toInt64) (hhi : hi2 = hi.toInt64) : Met l yX5_in wsX5_in ({ frames := 0, cells := 0, slots := 0, locals := 0 }) (va_Pc [.long (Int32.toInt64 x), .long lo2, .long hi2] (fun _ => True)) (vp_Si (fun r => r = (bI (rg x lo hi)))) 0 0 (fun _ => False) := by
  refine Met.ofW (cc := cX5_in) (maxL := 6) (ret := (some .boolean)) (by decide) rfl ?_
  intro p e s m args below meth c_ s₁ B hml hv
  obtain ⟨rfl, -⟩ := hv
  have hx := B.exec
  have hb := B.bytes
  have hr := B.returns
  have hts := atoms_spec (ws := wsX5_in) B.pre
  have hown : s.vm.findClass RX5 = some m.cls := findClass_of_methodNamed B.named
  have hlocks := B.notSynchronized
  have hl := lv_entry ([.long (Int32.toInt64 x), .long lo2, .long hi2]) (n := 6) (Nat.le_of_ble_eq_true rfl)
  rw [lg_entry_eq]
  generalize (lg_sl ([.long (Int32.toInt64 x), .long lo2, .long hi2]) ++ List.replicate (6 - (lg_sl ([.long (Int32.toInt64 x), .long lo2, .long hi2])).length) Slot.unset).toArray = ls at hl ⊢
  have hl : lv_has ls 6 [(0, .long (Int32.toInt64 x)), (2, .long lo2), (4, .long hi2)] := hl
  refine lv_lload_n hx hb dX5_in_0 rfl (lv_at hl 0 rfl) ?_
  refine lv_lload_n hx hb dX5_in_1 rfl (lv_at hl 1 rfl) ?_
  refine W.lcmp hx hb dX5_in_2 ?_
  refine lv_if_lt (tgt := 17) hx hb dX5_in_3 (by decide) (fun c_1 => ?_) (fun c_1 => ?_)
  · have c_2 := (lg_cmp_lt _ _).mp c_1
    have c_3 := i_ltL c_2
    refine lv_iconst (v := 0) hx hb dX5_in_17 (by decide) ?_
    exact W.zret (v := 0) hx hb hr rfl (fun t9 ht9 hW9 => ⟨0, rfl, (by subst hlo; subst hhi; simp only [w_le, w_lt] at c_2 c_3; simp [bI, rg, c_2, c_3]), ht9⟩) (fun _ h => by cases h) dX5_in_18
  · have c_4 := (not_congr (lg_cmp_lt _ _)).mp c_1
    have c_5 := i_nltL c_4
    refine lv_lload_n hx hb dX5_in_6 rfl (lv_at hl 0 rfl) ?_
    refine lv_lload hx hb dX5_in_7 (lv_at hl 2 rfl) ?_
    refine W.lcmp hx hb dX5_in_9 ?_
    refine lv_if_gt (tgt := 17) hx hb dX5_in_10 (by decide) (fun c_6 => ?_) (fun c_6 => ?_)
    · have c_7 := (lg_cmp_gt _ _).mp c_6
      have c_8 := i_ltL c_7
      refine lv_iconst (v := 0) hx hb dX5_in_17 (by decide) ?_
      exact W.zret (v := 0) hx hb hr rfl (fun t9 ht9 hW9 => ⟨0, rfl, (by subst hlo; subst hhi; simp only [w_le, w_lt] at c_4 c_5 c_7 c_8; simp [bI, rg, c_4, c_5, c_7, c_8]), ht9⟩) (fun _ h => by cases h) dX5_in_18
    · have c_9 := (not_congr (lg_cmp_gt _ _)).mp c_6
      have c_10 := i_nltL c_9
      refine lv_iconst (v := 1) hx hb dX5_in_13 (by decide) ?_
      refine lv_goto (tgt := 18) hx hb dX5_in_14 (by decide) ?_
      exact W.zret (v := 1) hx hb hr rfl (fun t9 ht9 hW9 => ⟨1, rfl, (by subst hlo; subst hhi; simp only [w_le, w_lt] at c_4 c_5 c_9 c_10; simp [bI, rg, c_4, c_5, c_9, c_10]), ht9⟩) (fun _ h => by cases h) dX5_in_18
set_option maxHeartbeats 4000000 in
set_option maxRecDepth 100000 in
/-- X5_isMonth -/
theorem c_X5_isMonth (l : Launch)  (x : Int32)  : Met l yX5_isMonth wsX5_isMonth ({ frames := 1, cells := 0, slots := 0, locals := 25 }) (va_Pc [.int x] (fun _ => True)) (vp_Si (fun r => r = (bI (rg x 0 300)))) 0 0 (fun _ => False) := by
  refine Met.ofW (cc := cX5_isMonth) (maxL := 1) (ret := (some .boolean)) (by decide) rfl ?_
  intro p e s m args below meth c_ s₁ B hml hv
  obtain ⟨rfl, -⟩ := hv
  have hx := B.exec
  have hb := B.bytes
  have hr := B.returns
  have hts := atoms_spec (ws := wsX5_isMonth) B.pre
  have hown : s.vm.findClass RX5 = some m.cls := findClass_of_methodNamed B.named
  have hlocks := B.notSynchronized
  have hl := lv_entry ([.int x]) (n := 1) (Nat.le_of_ble_eq_true rfl)
  rw [lg_entry_eq]
  generalize (lg_sl ([.int x]) ++ List.replicate (1 - (lg_sl ([.int x])).length) Slot.unset).toArray = ls at hl ⊢
  have hl : lv_has ls 1 [(0, .int x)] := hl
  refine lv_iload_n hx hb dX5_isMonth_0 rfl (lv_at hl 0 rfl) ?_
  refine lv_i2l (v := (Int32.toInt64 x)) hx hb dX5_isMonth_1 rfl ?_
  refine lv_lconst (v := 0) hx hb dX5_isMonth_2 (by decide) ?_
  refine lv_ldc2 (v := 300) hx hb hown (hts (.constantLong RX5 64 (300)) (List.mem_of_getElem? (i := 1) rfl)) dX5_isMonth_3 ?_
  refine roSi (As := [.long (Int32.toInt64 x), .long 0, .long 300]) (rest := []) (v := (bI (rg x 0 300))) ⟨hx, hb, hml, hown, hts⟩ (c_X5_in l x 0 300 0 300 (by decide) (by decide)) (va_cwS 3 hts gX5_isMonth_X5_in rfl rfl rfl (by decide +kernel) ⟨Nat.le_of_ble_eq_true rfl, Nat.le_of_ble_eq_true rfl⟩) rfl hl.1 rfl (Nat.le_of_ble_eq_true rfl) dX5_isMonth_6 ⟨Nat.zero_le _, Nat.zero_le _⟩ ?_
  exact W.zret (v := (bI (rg x 0 300))) hx hb hr (bI_n (rg x 0 300)) (fun t9 ht9 hW9 => ⟨(bI (rg x 0 300)), rfl, rfl, ht9⟩) (fun _ h => by cases h) dX5_isMonth_9
set_option maxHeartbeats 4000000 in
set_option maxRecDepth 100000 in
/-- X5_noThing -/
theorem c_X5_noThing (l : Launch) (D : va_G) (cs : Nat → ClassId) (q : Nat → Nat) (F : Nat → Nat → Int32) (n c : Nat) (g : Int32) (up lo : Int64) (x : Int32) (hI : Inv F n c) : Met l yX5_noThing wsX5_noThing ({ frames := 1, cells := 0, slots := 0, locals := 25 }) (va_Pc [.ref (q 200), .int x] (pw D cs (mW q cs F n c g up lo))) (vp_Si (fun r => r = (bI (!hasT n x)))) 0 0 (fun _ => False) := by
  refine Met.ofW (cc := cX5_noThing) (maxL := 2) (ret := (some .boolean)) (by decide) rfl ?_
  intro p e s m args below meth c_ s₁ B hml hv
  obtain ⟨rfl, hP, hK, hN⟩ := hv
  have hx := B.exec
  have hb := B.bytes
  have hr := B.returns
  have hts := atoms_spec (ws := wsX5_noThing) B.pre
  have hown : s.vm.findClass RX5 = some m.cls := findClass_of_methodNamed B.named
  have hlocks := B.notSynchronized
  have hl := lv_entry ([.ref (q 200), .int x]) (n := 2) (Nat.le_of_ble_eq_true rfl)
  rw [lg_entry_eq]
  generalize (lg_sl ([.ref (q 200), .int x]) ++ List.replicate (2 - (lg_sl ([.ref (q 200), .int x])).length) Slot.unset).toArray = ls at hl ⊢
  have hl : lv_has ls 2 [(0, .ref (q 200)), (1, .int x)] := hl
  have hn60 := hI.n60
  have hc100 := hI.c100
  refine lv_iload_n hx hb dX5_noThing_0 rfl (lv_at hl 1 rfl) ?_
  refine lv_i2l (v := (Int32.toInt64 x)) hx hb dX5_noThing_1 rfl ?_
  refine lv_lconst (v := 0) hx hb dX5_noThing_2 (by decide) ?_
  refine lv_aload_n hx hb dX5_noThing_3 rfl (lv_at hl 0 rfl) ?_
  refine va_get (D := D) (ci := 5) (v := .int (nI n)) (C := RX5) (T := TX5) (N := 21) hx hb hts (fun _ h => List.mem_cons_of_mem _ (List.mem_append_right _ h)) hown hK hP 0 rfl rfl 2 (by decide) (hts (.fieldLink RX5 70 "UnderPromiseModel" "things" "I") (List.mem_of_getElem? (i := 1) rfl)) (fun _ h9 => h9) rfl dX5_noThing_4 ?_
  refine lv_iconst (v := 1) hx hb dX5_noThing_7 (by decide) ?_
  refine lv_isub hx hb dX5_noThing_8 ?_
  refine lv_i2l (v := (Int32.toInt64 ((nI n) - 1))) hx hb dX5_noThing_9 rfl ?_
  refine roSi (As := [.long (Int32.toInt64 x), .long 0, .long (Int32.toInt64 ((nI n) - 1))]) (rest := []) (v := (bI (rg x 0 ((nI n) - 1)))) ⟨hx, hb, hml, hown, hts⟩ (c_X5_in l x 0 ((nI n) - 1) 0 (Int32.toInt64 ((nI n) - 1)) (by decide) rfl) (va_cwS 3 hts gX5_noThing_X5_in rfl rfl rfl (by decide +kernel) ⟨Nat.le_of_ble_eq_true rfl, Nat.le_of_ble_eq_true rfl⟩) rfl hl.1 rfl (Nat.le_of_ble_eq_true rfl) dX5_noThing_10 ⟨Nat.zero_le _, Nat.zero_le _⟩ ?_
  refine lv_if_ne (tgt := 20) hx hb dX5_noThing_13 (by decide) (fun c_1 => ?_) (fun c_1 => ?_)
  · have b_2 : (rg x 0 ((nI n) - 1)) = true := bI_t c_1
    refine lv_iconst (v := 0) hx hb dX5_noThing_20 (by decide) ?_
    exact W.zret (v := 0) hx hb hr rfl (fun t9 ht9 hW9 => ⟨0, rfl, (by rw [← hasT_rg hn60]; simp [bI, b_2]), ht9⟩) (fun _ h => by cases h) dX5_noThing_21
  · have b_3 : (rg x 0 ((nI n) - 1)) = false := bI_f c_1
    refine lv_iconst (v := 1) hx hb dX5_noThing_16 (by decide) ?_
    refine lv_goto (tgt := 21) hx hb dX5_noThing_17 (by decide) ?_
    exact W.zret (v := 1) hx hb hr rfl (fun t9 ht9 hW9 => ⟨1, rfl, (by rw [← hasT_rg hn60]; simp [bI, b_3]), ht9⟩) (fun _ h => by cases h) dX5_noThing_21
set_option maxHeartbeats 4000000 in
set_option maxRecDepth 100000 in
/-- X5_isPromised -/
theorem c_X5_isPromised (l : Launch) (D : va_G) (cs : Nat → ClassId) (q : Nat → Nat) (F : Nat → Nat → Int32) (n c : Nat) (g : Int32) (up lo : Int64) (t : Nat) (mo : Int32) (hI : Inv F n c) (ht : t < n) : Met l yX5_isPromised wsX5_isPromised ({ frames := 0, cells := 0, slots := 0, locals := 0 }) (va_Pc [.ref (q 200), .int (nI t), .int mo] (pw D cs (mW q cs F n c g up lo))) (vp_Si (fun r => r = (bI (sProm F t mo)))) 0 0 (fun _ => False) := by
  refine Met.ofW (cc := cX5_isPromised) (maxL := 4) (ret := (some .boolean)) (by decide) rfl ?_
  intro p e s m args below meth c_ s₁ B hml hv
  obtain ⟨rfl, hP, hK, hN⟩ := hv
  have hx := B.exec
  have hb := B.bytes
  have hr := B.returns
  have hts := atoms_spec (ws := wsX5_isPromised) B.pre
  have hown : s.vm.findClass RX5 = some m.cls := findClass_of_methodNamed B.named
  have hlocks := B.notSynchronized
  have hl := lv_entry ([.ref (q 200), .int (nI t), .int mo]) (n := 4) (Nat.le_of_ble_eq_true rfl)
  rw [lg_entry_eq]
  generalize (lg_sl ([.ref (q 200), .int (nI t), .int mo]) ++ List.replicate (4 - (lg_sl ([.ref (q 200), .int (nI t), .int mo])).length) Slot.unset).toArray = ls at hl ⊢
  have hl : lv_has ls 4 [(0, .ref (q 200)), (1, .int (nI t)), (2, .int mo)] := hl
  have hn60 := hI.n60
  have hc100 := hI.c100
  refine lv_iload_n hx hb dX5_isPromised_0 rfl (lv_at hl 2 rfl) ?_
  refine lv_aload_n hx hb dX5_isPromised_1 rfl (lv_at hl 0 rfl) ?_
  refine va_get (D := D) (ci := 5) (v := .ref (q 204)) (C := RX5) (T := TX5) (N := 21) hx hb hts (fun _ h => List.mem_cons_of_mem _ (List.mem_append_right _ h)) hown hK hP 0 rfl rfl 4 (by decide) (hts (.fieldLink RX5 19 "UnderPromiseModel" "soldIn" "[I") (List.mem_of_getElem? (i := 1) rfl)) (fun _ h9 => h9) rfl dX5_isPromised_2 ?_
  refine lv_iload_n hx hb dX5_isPromised_5 rfl (lv_at hl 1 rfl) ?_
  refine iaK (v := (F 1 t)) hx hb hK hP 4 0 rfl rfl t (vp_in_nI (by omega) (by decide)) (nI_clamp (by omega)) rfl dX5_isPromised_6 ?_
  refine lv_isub hx hb dX5_isPromised_7 ?_
  refine lv_istore_n (lv' := [(3, .int (mo - (F 1 t))), (0, .ref (q 200)), (1, .int (nI t)), (2, .int mo)]) hx hb dX5_isPromised_8 rfl hl (by decide) rfl (fun ls hl => ?_)
  refine lv_iload_n hx hb dX5_isPromised_9 rfl (lv_at hl 0 rfl) ?_
  refine lv_if_lt (tgt := 54) hx hb dX5_isPromised_10 (by decide) (fun c_1 => ?_) (fun c_1 => ?_)
  · have c_2 := i_lt c_1
    refine lv_iconst (v := 0) hx hb dX5_isPromised_54 (by decide) ?_
    exact W.zret (v := 0) hx hb hr rfl (fun t9 ht9 hW9 => ⟨0, rfl, (by first | with_reducible rfl | simp [rg, bI, sProm, c_1, c_2]), ht9⟩) (fun _ h => by cases h) dX5_isPromised_55
  · have c_3 := i_nlt c_1
    refine lv_iload_n hx hb dX5_isPromised_13 rfl (lv_at hl 0 rfl) ?_
    refine lv_aload_n hx hb dX5_isPromised_14 rfl (lv_at hl 1 rfl) ?_
    refine va_get (D := D) (ci := 5) (v := .ref (q 201)) (C := RX5) (T := TX5) (N := 21) hx hb hts (fun _ h => List.mem_cons_of_mem _ (List.mem_append_right _ h)) hown hK hP 0 rfl rfl 0 (by decide) (hts (.fieldLink RX5 7 "UnderPromiseModel" "months" "[I") (List.mem_of_getElem? (i := 2) rfl)) (fun _ h9 => h9) rfl dX5_isPromised_15 ?_
    refine lv_aload_n hx hb dX5_isPromised_18 rfl (lv_at hl 1 rfl) ?_
    refine va_get (D := D) (ci := 5) (v := .ref (q 206)) (C := RX5) (T := TX5) (N := 21) hx hb hts (fun _ h => List.mem_cons_of_mem _ (List.mem_append_right _ h)) hown hK hP 0 rfl rfl 6 (by decide) (hts (.fieldLink RX5 25 "UnderPromiseModel" "landOf" "[I") (List.mem_of_getElem? (i := 3) rfl)) (fun _ h9 => h9) rfl dX5_isPromised_19 ?_
    refine lv_iload_n hx hb dX5_isPromised_22 rfl (lv_at hl 2 rfl) ?_
    refine iaK (v := (F 3 t)) hx hb hK hP 6 0 rfl rfl t (vp_in_nI (by omega) (by decide)) (nI_clamp (by omega)) rfl dX5_isPromised_23 ?_
    refine iaK (v := (F 4 (ix (F 3 t)))) hx hb hK hP 1 0 rfl rfl (ix (F 3 t)) (hI.land (by omega)) rfl rfl dX5_isPromised_24 ?_
    refine lv_icmp_ge (tgt := 54) hx hb dX5_isPromised_25 (by decide) (fun c_4 => ?_) (fun c_4 => ?_)
    · have c_5 := i_le c_4
      refine lv_iconst (v := 0) hx hb dX5_isPromised_54 (by decide) ?_
      exact W.zret (v := 0) hx hb hr rfl (fun t9 ht9 hW9 => ⟨0, rfl, (by first | with_reducible rfl | simp [rg, bI, sProm, c_1, c_3, c_4, c_5]), ht9⟩) (fun _ h => by cases h) dX5_isPromised_55
    · have c_6 := i_nle c_4
      refine lv_iload_n hx hb dX5_isPromised_28 rfl (lv_at hl 0 rfl) ?_
      refine lv_aload_n hx hb dX5_isPromised_29 rfl (lv_at hl 1 rfl) ?_
      refine va_get (D := D) (ci := 5) (v := .ref (q 205)) (C := RX5) (T := TX5) (N := 21) hx hb hts (fun _ h => List.mem_cons_of_mem _ (List.mem_append_right _ h)) hown hK hP 0 rfl rfl 5 (by decide) (hts (.fieldLink RX5 22 "UnderPromiseModel" "runs" "[I") (List.mem_of_getElem? (i := 4) rfl)) (fun _ h9 => h9) rfl dX5_isPromised_30 ?_
      refine lv_iload_n hx hb dX5_isPromised_33 rfl (lv_at hl 2 rfl) ?_
      refine iaK (v := (F 2 t)) hx hb hK hP 5 0 rfl rfl t (vp_in_nI (by omega) (by decide)) (nI_clamp (by omega)) rfl dX5_isPromised_34 ?_
      refine lv_imul hx hb dX5_isPromised_35 ?_
      refine lv_aload_n hx hb dX5_isPromised_36 rfl (lv_at hl 1 rfl) ?_
      refine va_get (D := D) (ci := 5) (v := .ref (q 202)) (C := RX5) (T := TX5) (N := 21) hx hb hts (fun _ h => List.mem_cons_of_mem _ (List.mem_append_right _ h)) hown hK hP 0 rfl rfl 1 (by decide) (hts (.fieldLink RX5 13 "UnderPromiseModel" "miles" "[I") (List.mem_of_getElem? (i := 5) rfl)) (fun _ h9 => h9) rfl dX5_isPromised_37 ?_
      refine lv_aload_n hx hb dX5_isPromised_40 rfl (lv_at hl 1 rfl) ?_
      refine va_get (D := D) (ci := 5) (v := .ref (q 206)) (C := RX5) (T := TX5) (N := 21) hx hb hts (fun _ h => List.mem_cons_of_mem _ (List.mem_append_right _ h)) hown hK hP 0 rfl rfl 6 (by decide) (hts (.fieldLink RX5 25 "UnderPromiseModel" "landOf" "[I") (List.mem_of_getElem? (i := 3) rfl)) (fun _ h9 => h9) rfl dX5_isPromised_41 ?_
      refine lv_iload_n hx hb dX5_isPromised_44 rfl (lv_at hl 2 rfl) ?_
      refine iaK (v := (F 3 t)) hx hb hK hP 6 0 rfl rfl t (vp_in_nI (by omega) (by decide)) (nI_clamp (by omega)) rfl dX5_isPromised_45 ?_
      refine iaK (v := (F 5 (ix (F 3 t)))) hx hb hK hP 2 0 rfl rfl (ix (F 3 t)) (hI.land (by omega)) rfl rfl dX5_isPromised_46 ?_
      refine lv_icmp_ge (tgt := 54) hx hb dX5_isPromised_47 (by decide) (fun c_7 => ?_) (fun c_7 => ?_)
      · have c_8 := i_le c_7
        refine lv_iconst (v := 0) hx hb dX5_isPromised_54 (by decide) ?_
        exact W.zret (v := 0) hx hb hr rfl (fun t9 ht9 hW9 => ⟨0, rfl, (by first | with_reducible rfl | simp [rg, bI, sProm, c_1, c_3, c_4, c_6, c_7, c_8]), ht9⟩) (fun _ h => by cases h) dX5_isPromised_55
      · have c_9 := i_nle c_7
        refine lv_iconst (v := 1) hx hb dX5_isPromised_50 (by decide) ?_
        refine lv_goto (tgt := 55) hx hb dX5_isPromised_51 (by decide) ?_
        exact W.zret (v := 1) hx hb hr rfl (fun t9 ht9 hW9 => ⟨1, rfl, (by first | with_reducible rfl | simp [rg, bI, sProm, c_1, c_3, c_4, c_6, c_7, c_9]), ht9⟩) (fun _ h => by cases h) dX5_isPromised_55
set_option maxHeartbeats 4000000 in
set_option maxRecDepth 100000 in
/-- X5_promised -/
theorem c_X5_promised (l : Launch) (D : va_G) (cs : Nat → ClassId) (q : Nat → Nat) (F : Nat → Nat → Int32) (n c : Nat) (g : Int32) (up lo : Int64) (x : Int32) (mo : Int32) (hI : Inv F n c) : Met l yX5_promised wsX5_promised ({ frames := 2, cells := 0, slots := 0, locals := 46 }) (va_Pc [.ref (q 200), .int x, .int mo] (pw D cs (mW q cs F n c g up lo))) (vp_Si (fun r => r = (aPromised F n x mo))) 0 0 (fun _ => False) := by
  refine Met.ofW (cc := cX5_promised) (maxL := 3) (ret := (some .int)) (by decide) rfl ?_
  intro p e s m args below meth c_ s₁ B hml hv
  obtain ⟨rfl, hP, hK, hN⟩ := hv
  have hx := B.exec
  have hb := B.bytes
  have hr := B.returns
  have hts := atoms_spec (ws := wsX5_promised) B.pre
  have hown : s.vm.findClass RX5 = some m.cls := findClass_of_methodNamed B.named
  have hlocks := B.notSynchronized
  have hl := lv_entry ([.ref (q 200), .int x, .int mo]) (n := 3) (Nat.le_of_ble_eq_true rfl)
  rw [lg_entry_eq]
  generalize (lg_sl ([.ref (q 200), .int x, .int mo]) ++ List.replicate (3 - (lg_sl ([.ref (q 200), .int x, .int mo])).length) Slot.unset).toArray = ls at hl ⊢
  have hl : lv_has ls 3 [(0, .ref (q 200)), (1, .int x), (2, .int mo)] := hl
  have hn60 := hI.n60
  have hc100 := hI.c100
  refine lv_aload_n hx hb dX5_promised_0 rfl (lv_at hl 0 rfl) ?_
  refine lv_iload_n hx hb dX5_promised_1 rfl (lv_at hl 1 rfl) ?_
  refine roVi (As := [.int x]) (rest := []) (v := (bI (!hasT n x))) ⟨hx, hb, hml, hown, hts⟩ (c_X5_noThing l D cs q F n c g up lo x hI) (cwV 1 hts gX5_promised_X5_noThing rfl rfl rfl (by decide +kernel) ⟨Nat.le_of_ble_eq_true rfl, Nat.le_of_ble_eq_true rfl⟩) hP hK hN 0 rfl rfl rfl hl.1 rfl (Nat.le_of_ble_eq_true rfl) dX5_promised_2 ⟨Nat.zero_le _, Nat.zero_le _⟩ ?_
  refine lv_if_ne (tgt := 15) hx hb dX5_promised_5 (by decide) (fun c_1 => ?_) (fun c_1 => ?_)
  · have b_2 : (!hasT n x) = true := bI_t c_1
    have b_3 : hasT n x = false := bnot_t b_2
    refine lv_bipush (v := (-2)) hx hb dX5_promised_15 (by decide) ?_
    refine lv_goto (tgt := 34) hx hb dX5_promised_17 (by decide) ?_
    exact W.iret (v := (-2)) hx hb hr (fun t9 ht9 hW9 => ⟨(-2), rfl, (by first | with_reducible rfl | simp [aPromised, bI, b_3]), ht9⟩) (fun _ h => by cases h) dX5_promised_34
  · have b_4 : (!hasT n x) = false := bI_f c_1
    have b_5 : hasT n x = true := bnot_f b_4
    obtain ⟨t, ht, rfl⟩ := hasT_nat hn60 b_5
    have x_6 : ix (nI t) = t := nI_clamp (by omega)
    refine lv_iload_n hx hb dX5_promised_8 rfl (lv_at hl 2 rfl) ?_
    refine roSi (As := [.int mo]) (rest := []) (v := (bI (rg mo 0 300))) ⟨hx, hb, hml, hown, hts⟩ (c_X5_isMonth l mo) (va_cwS 1 hts gX5_promised_X5_isMonth rfl rfl rfl (by decide +kernel) ⟨Nat.le_of_ble_eq_true rfl, Nat.le_of_ble_eq_true rfl⟩) rfl hl.1 rfl (Nat.le_of_ble_eq_true rfl) dX5_promised_9 ⟨Nat.zero_le _, Nat.zero_le _⟩ ?_
    refine lv_if_ne (tgt := 20) hx hb dX5_promised_12 (by decide) (fun c_7 => ?_) (fun c_7 => ?_)
    · have b_8 : (rg mo 0 300) = true := bI_t c_7
      refine lv_aload_n hx hb dX5_promised_20 rfl (lv_at hl 0 rfl) ?_
      refine lv_iload_n hx hb dX5_promised_21 rfl (lv_at hl 1 rfl) ?_
      refine lv_iload_n hx hb dX5_promised_22 rfl (lv_at hl 2 rfl) ?_
      refine roVi (As := [.int (nI t), .int mo]) (rest := []) (v := (bI (sProm F t mo))) ⟨hx, hb, hml, hown, hts⟩ (c_X5_isPromised l D cs q F n c g up lo t mo hI (by omega)) (cwV 2 hts gX5_promised_X5_isPromised rfl rfl rfl (by decide +kernel) ⟨Nat.le_of_ble_eq_true rfl, Nat.le_of_ble_eq_true rfl⟩) hP hK hN 0 rfl rfl rfl hl.1 rfl (Nat.le_of_ble_eq_true rfl) dX5_promised_23 ⟨Nat.zero_le _, Nat.zero_le _⟩ ?_
      refine lv_if_eq (tgt := 33) hx hb dX5_promised_26 (by decide) (fun c_9 => ?_) (fun c_9 => ?_)
      · have b_10 : (sProm F t mo) = false := bI_f c_9
        refine lv_iconst (v := 0) hx hb dX5_promised_33 (by decide) ?_
        exact W.iret (v := 0) hx hb hr (fun t9 ht9 hW9 => ⟨0, rfl, (by first | with_reducible rfl | simp [aPromised, bI, x_6, b_5, b_8, b_10]), ht9⟩) (fun _ h => by cases h) dX5_promised_34
      · have b_11 : (sProm F t mo) = true := bI_t c_9
        refine lv_iconst (v := 1) hx hb dX5_promised_29 (by decide) ?_
        refine lv_goto (tgt := 34) hx hb dX5_promised_30 (by decide) ?_
        exact W.iret (v := 1) hx hb hr (fun t9 ht9 hW9 => ⟨1, rfl, (by first | with_reducible rfl | simp [aPromised, bI, x_6, b_5, b_8, b_11]), ht9⟩) (fun _ h => by cases h) dX5_promised_34
    · have b_12 : (rg mo 0 300) = false := bI_f c_7
      refine lv_bipush (v := (-2)) hx hb dX5_promised_15 (by decide) ?_
      refine lv_goto (tgt := 34) hx hb dX5_promised_17 (by decide) ?_
      exact W.iret (v := (-2)) hx hb hr (fun t9 ht9 hW9 => ⟨(-2), rfl, (by first | with_reducible rfl | simp [aPromised, bI, x_6, b_5, b_12]), ht9⟩) (fun _ h => by cases h) dX5_promised_34
set_option maxHeartbeats 4000000 in
set_option maxRecDepth 100000 in
/-- X5_lastOf -/
theorem c_X5_lastOf (l : Launch) (D : va_G) (cs : Nat → ClassId) (q : Nat → Nat) (F : Nat → Nat → Int32) (n c : Nat) (g : Int32) (up lo : Int64) (t : Nat) (hI : Inv F n c) (ht : t < n) : Met l yX5_lastOf wsX5_lastOf ({ frames := 1, cells := 0, slots := 0, locals := 23 }) (va_Pc [.ref (q 200), .int (nI t)] (pw D cs (mW q cs F n c g up lo))) (vp_Si (fun r => r = (lsK F t 121))) 0 0 (fun _ => False) := by
  refine Met.ofW (cc := cX5_lastOf) (maxL := 4) (ret := (some .int)) (by decide) rfl ?_
  intro p e s m args below meth c_ s₁ B hml hv
  obtain ⟨rfl, hP, hK, hN⟩ := hv
  have hx := B.exec
  have hb := B.bytes
  have hr := B.returns
  have hts := atoms_spec (ws := wsX5_lastOf) B.pre
  have hown : s.vm.findClass RX5 = some m.cls := findClass_of_methodNamed B.named
  have hlocks := B.notSynchronized
  have hl := lv_entry ([.ref (q 200), .int (nI t)]) (n := 4) (Nat.le_of_ble_eq_true rfl)
  rw [lg_entry_eq]
  generalize (lg_sl ([.ref (q 200), .int (nI t)]) ++ List.replicate (4 - (lg_sl ([.ref (q 200), .int (nI t)])).length) Slot.unset).toArray = ls at hl ⊢
  have hl : lv_has ls 4 [(0, .ref (q 200)), (1, .int (nI t))] := hl
  have hs0 := (hI.T ht).2.1
  have hn60 := hI.n60
  have hc100 := hI.c100
  refine lv_iconst (v := (-1)) hx hb dX5_lastOf_0 (by decide) ?_
  refine lv_istore_n (lv' := [(2, .int (-1)), (0, .ref (q 200)), (1, .int (nI t))]) hx hb dX5_lastOf_1 rfl hl (by decide) rfl (fun ls hl => ?_)
  refine lv_aload_n hx hb dX5_lastOf_2 rfl (lv_at hl 1 rfl) ?_
  refine va_get (D := D) (ci := 5) (v := .ref (q 204)) (C := RX5) (T := TX5) (N := 21) hx hb hts (fun _ h => List.mem_cons_of_mem _ (List.mem_append_right _ h)) hown hK hP 0 rfl rfl 4 (by decide) (hts (.fieldLink RX5 19 "UnderPromiseModel" "soldIn" "[I") (List.mem_of_getElem? (i := 1) rfl)) (fun _ h9 => h9) rfl dX5_lastOf_3 ?_
  refine lv_iload_n hx hb dX5_lastOf_6 rfl (lv_at hl 2 rfl) ?_
  refine iaK (v := (F 1 t)) hx hb hK hP 4 0 rfl rfl t (vp_in_nI (by omega) (by decide)) (nI_clamp (by omega)) rfl dX5_lastOf_7 ?_
  refine lv_istore_n (lv' := [(3, .int (F 1 t)), (2, .int (-1)), (0, .ref (q 200)), (1, .int (nI t))]) hx hb dX5_lastOf_8 rfl hl (by decide) rfl (fun ls hl => ?_)
  refine lpW (fun k ls => lv_has ls 4 [(0, .ref (q 200)), (1, .int (nI t)), (2, .int (lsK F t k)), (3, .int (F 1 t + nI k))]) 121 0 (Nat.zero_le _) ls (lv_cast (lv_sub (l' := [(0, .ref (q 200)), (1, .int (nI t)), (2, .int (-1)), (3, .int (F 1 t))]) hl [2, 3, 1, 0] rfl) (by rw [show nI 0 = 0 from rfl, Int32.add_zero]; first | done | rfl)) ?_ ?_
  · intro ls hl
    have hl : lv_has ls 4 [(0, .ref (q 200)), (1, .int (nI t)), (2, .int (lsK F t 121)), (3, .int (F 1 t + nI 121))] := hl
    refine lv_iload_n hx hb dX5_lastOf_9 rfl (lv_at hl 3 rfl) ?_
    refine lv_aload_n hx hb dX5_lastOf_10 rfl (lv_at hl 0 rfl) ?_
    refine va_get (D := D) (ci := 5) (v := .ref (q 204)) (C := RX5) (T := TX5) (N := 21) hx hb hts (fun _ h => List.mem_cons_of_mem _ (List.mem_append_right _ h)) hown hK hP 0 rfl rfl 4 (by decide) (hts (.fieldLink RX5 19 "UnderPromiseModel" "soldIn" "[I") (List.mem_of_getElem? (i := 1) rfl)) (fun _ h9 => h9) rfl dX5_lastOf_11 ?_
    refine lv_iload_n hx hb dX5_lastOf_14 rfl (lv_at hl 1 rfl) ?_
    refine iaK (v := (F 1 t)) hx hb hK hP 4 0 rfl rfl t (vp_in_nI (by omega) (by decide)) (nI_clamp (by omega)) rfl dX5_lastOf_15 ?_
    refine lv_bipush (v := 120) hx hb dX5_lastOf_16 (by decide) ?_
    refine lv_iadd hx hb dX5_lastOf_18 ?_
    refine lv_icmp_gt (tgt := 43) hx hb dX5_lastOf_19 (by decide) (fun c_1 => ?_) (fun c_1 => ?_)
    · have c_2 := i_lt c_1
      refine lv_iload_n hx hb dX5_lastOf_43 rfl (lv_at hl 2 rfl) ?_
      exact W.iret (v := (lsK F t 121)) hx hb hr (fun t9 ht9 hW9 => ⟨(lsK F t 121), rfl, rfl, ht9⟩) (fun _ h => by cases h) dX5_lastOf_44
    · exact absurd (ls_end hs0) c_1
  · intro k hk0 hk ih ls hl
    have hl : lv_has ls 4 [(0, .ref (q 200)), (1, .int (nI t)), (2, .int (lsK F t k)), (3, .int (F 1 t + nI k))] := hl
    refine lv_iload_n hx hb dX5_lastOf_9 rfl (lv_at hl 3 rfl) ?_
    refine lv_aload_n hx hb dX5_lastOf_10 rfl (lv_at hl 0 rfl) ?_
    refine va_get (D := D) (ci := 5) (v := .ref (q 204)) (C := RX5) (T := TX5) (N := 21) hx hb hts (fun _ h => List.mem_cons_of_mem _ (List.mem_append_right _ h)) hown hK hP 0 rfl rfl 4 (by decide) (hts (.fieldLink RX5 19 "UnderPromiseModel" "soldIn" "[I") (List.mem_of_getElem? (i := 1) rfl)) (fun _ h9 => h9) rfl dX5_lastOf_11 ?_
    refine lv_iload_n hx hb dX5_lastOf_14 rfl (lv_at hl 1 rfl) ?_
    refine iaK (v := (F 1 t)) hx hb hK hP 4 0 rfl rfl t (vp_in_nI (by omega) (by decide)) (nI_clamp (by omega)) rfl dX5_lastOf_15 ?_
    refine lv_bipush (v := 120) hx hb dX5_lastOf_16 (by decide) ?_
    refine lv_iadd hx hb dX5_lastOf_18 ?_
    refine lv_icmp_gt (tgt := 43) hx hb dX5_lastOf_19 (by decide) (fun c_3 => ?_) (fun c_3 => ?_)
    · exact absurd c_3 (ls_in hs0 hk)
    · have c_4 := i_nlt c_3
      refine lv_aload_n hx hb dX5_lastOf_22 rfl (lv_at hl 0 rfl) ?_
      refine lv_iload_n hx hb dX5_lastOf_23 rfl (lv_at hl 1 rfl) ?_
      refine lv_iload_n hx hb dX5_lastOf_24 rfl (lv_at hl 3 rfl) ?_
      refine roVi (As := [.int (nI t), .int (F 1 t + nI k)]) (rest := []) (v := (bI (sProm F t (F 1 t + nI k)))) ⟨hx, hb, hml, hown, hts⟩ (c_X5_isPromised l D cs q F n c g up lo t (F 1 t + nI k) hI (by omega)) (cwV 2 hts gX5_lastOf_X5_isPromised rfl rfl rfl (by decide +kernel) ⟨Nat.le_of_ble_eq_true rfl, Nat.le_of_ble_eq_true rfl⟩) hP hK hN 0 rfl rfl rfl hl.1 rfl (Nat.le_of_ble_eq_true rfl) dX5_lastOf_25 ⟨Nat.zero_le _, Nat.zero_le _⟩ ?_
      refine lv_if_eq (tgt := 35) hx hb dX5_lastOf_28 (by decide) (fun c_5 => ?_) (fun c_5 => ?_)
      · have b_6 : (sProm F t (F 1 t + nI k)) = false := bI_f c_5
        refine lv_iload_n hx hb dX5_lastOf_35 rfl (lv_at hl 2 rfl) ?_
        refine lv_istore_n (lv' := [(2, .int (lsK F t k)), (0, .ref (q 200)), (1, .int (nI t)), (3, .int (F 1 t + nI k))]) hx hb dX5_lastOf_36 rfl hl (by decide) rfl (fun ls hl => ?_)
        refine lv_iinc (v := ((F 1 t + nI k) + 1)) (lv' := [(3, .int ((F 1 t + nI k) + 1)), (2, .int (lsK F t k)), (0, .ref (q 200)), (1, .int (nI t))]) hx hb dX5_lastOf_37 hl (k := 3) rfl rfl (by decide) rfl (fun ls hl => ?_)
        refine lv_goto (tgt := 9) hx hb dX5_lastOf_40 (by decide) ?_
        have h_7 : (lsK F t k) = (lsK F t (k + 1)) := (by first | with_reducible rfl | simp [lsK, c_3, c_4, b_6])
        have h_8 : ((F 1 t + nI k) + 1) = (F 1 t + nI (k + 1)) := (by rw [Int32.add_assoc, nI_1])
        exact ih _ (lv_cast (lv_sub (l' := [(0, .ref (q 200)), (1, .int (nI t)), (2, .int (lsK F t k)), (3, .int ((F 1 t + nI k) + 1))]) hl [2, 3, 1, 0] rfl) (cg2 (fun z7 z8 => [(0, .ref (q 200)), (1, .int (nI t)), (2, .int z7), (3, .int z8)]) h_7 h_8))
      · have b_9 : (sProm F t (F 1 t + nI k)) = true := bI_t c_5
        refine lv_iload_n hx hb dX5_lastOf_31 rfl (lv_at hl 3 rfl) ?_
        refine lv_goto (tgt := 36) hx hb dX5_lastOf_32 (by decide) ?_
        refine lv_istore_n (lv' := [(2, .int (F 1 t + nI k)), (0, .ref (q 200)), (1, .int (nI t)), (3, .int (F 1 t + nI k))]) hx hb dX5_lastOf_36 rfl hl (by decide) rfl (fun ls hl => ?_)
        refine lv_iinc (v := ((F 1 t + nI k) + 1)) (lv' := [(3, .int ((F 1 t + nI k) + 1)), (2, .int (F 1 t + nI k)), (0, .ref (q 200)), (1, .int (nI t))]) hx hb dX5_lastOf_37 hl (k := 3) rfl rfl (by decide) rfl (fun ls hl => ?_)
        refine lv_goto (tgt := 9) hx hb dX5_lastOf_40 (by decide) ?_
        have h_10 : (F 1 t + nI k) = (lsK F t (k + 1)) := (by first | with_reducible rfl | simp [lsK, c_3, c_4, b_9])
        have h_11 : ((F 1 t + nI k) + 1) = (F 1 t + nI (k + 1)) := (by rw [Int32.add_assoc, nI_1])
        exact ih _ (lv_cast (lv_sub (l' := [(0, .ref (q 200)), (1, .int (nI t)), (2, .int (F 1 t + nI k)), (3, .int ((F 1 t + nI k) + 1))]) hl [2, 3, 1, 0] rfl) (cg2 (fun z10 z11 => [(0, .ref (q 200)), (1, .int (nI t)), (2, .int z10), (3, .int z11)]) h_10 h_11))
set_option maxHeartbeats 4000000 in
set_option maxRecDepth 100000 in
/-- X5_last -/
theorem c_X5_last (l : Launch) (D : va_G) (cs : Nat → ClassId) (q : Nat → Nat) (F : Nat → Nat → Int32) (n c : Nat) (g : Int32) (up lo : Int64) (x : Int32) (hI : Inv F n c) : Met l yX5_last wsX5_last ({ frames := 2, cells := 0, slots := 0, locals := 46 }) (va_Pc [.ref (q 200), .int x] (pw D cs (mW q cs F n c g up lo))) (vp_Si (fun r => r = (if hasT n x = true then lsK F (ix x) 121 else -2))) 0 0 (fun _ => False) := by
  refine Met.ofW (cc := cX5_last) (maxL := 2) (ret := (some .int)) (by decide) rfl ?_
  intro p e s m args below meth c_ s₁ B hml hv
  obtain ⟨rfl, hP, hK, hN⟩ := hv
  have hx := B.exec
  have hb := B.bytes
  have hr := B.returns
  have hts := atoms_spec (ws := wsX5_last) B.pre
  have hown : s.vm.findClass RX5 = some m.cls := findClass_of_methodNamed B.named
  have hlocks := B.notSynchronized
  have hl := lv_entry ([.ref (q 200), .int x]) (n := 2) (Nat.le_of_ble_eq_true rfl)
  rw [lg_entry_eq]
  generalize (lg_sl ([.ref (q 200), .int x]) ++ List.replicate (2 - (lg_sl ([.ref (q 200), .int x])).length) Slot.unset).toArray = ls at hl ⊢
  have hl : lv_has ls 2 [(0, .ref (q 200)), (1, .int x)] := hl
  have hn60 := hI.n60
  have hc100 := hI.c100
  refine lv_aload_n hx hb dX5_last_0 rfl (lv_at hl 0 rfl) ?_
  refine lv_iload_n hx hb dX5_last_1 rfl (lv_at hl 1 rfl) ?_
  refine roVi (As := [.int x]) (rest := []) (v := (bI (!hasT n x))) ⟨hx, hb, hml, hown, hts⟩ (c_X5_noThing l D cs q F n c g up lo x hI) (cwV 1 hts gX5_last_X5_noThing rfl rfl rfl (by decide +kernel) ⟨Nat.le_of_ble_eq_true rfl, Nat.le_of_ble_eq_true rfl⟩) hP hK hN 0 rfl rfl rfl hl.1 rfl (Nat.le_of_ble_eq_true rfl) dX5_last_2 ⟨Nat.zero_le _, Nat.zero_le _⟩ ?_
  refine lv_if_eq (tgt := 13) hx hb dX5_last_5 (by decide) (fun c_1 => ?_) (fun c_1 => ?_)
  · have b_2 : (!hasT n x) = false := bI_f c_1
    have b_3 : hasT n x = true := bnot_f b_2
    obtain ⟨t, ht, rfl⟩ := hasT_nat hn60 b_3
    have x_4 : ix (nI t) = t := nI_clamp (by omega)
    refine lv_aload_n hx hb dX5_last_13 rfl (lv_at hl 0 rfl) ?_
    refine lv_iload_n hx hb dX5_last_14 rfl (lv_at hl 1 rfl) ?_
    refine roVi (As := [.int (nI t)]) (rest := []) (v := (lsK F t 121)) ⟨hx, hb, hml, hown, hts⟩ (c_X5_lastOf l D cs q F n c g up lo t hI (by omega)) (cwV 1 hts gX5_last_X5_lastOf rfl rfl rfl (by decide +kernel) ⟨Nat.le_of_ble_eq_true rfl, Nat.le_of_ble_eq_true rfl⟩) hP hK hN 0 rfl rfl rfl hl.1 rfl (Nat.le_of_ble_eq_true rfl) dX5_last_15 ⟨Nat.zero_le _, Nat.zero_le _⟩ ?_
    exact W.iret (v := (lsK F t 121)) hx hb hr (fun t9 ht9 hW9 => ⟨(lsK F t 121), rfl, (by first | with_reducible rfl | simp [x_4, b_3]), ht9⟩) (fun _ h => by cases h) dX5_last_18
  · have b_5 : (!hasT n x) = true := bI_t c_1
    have b_6 : hasT n x = false := bnot_t b_5
    refine lv_bipush (v := (-2)) hx hb dX5_last_8 (by decide) ?_
    refine lv_goto (tgt := 18) hx hb dX5_last_10 (by decide) ?_
    exact W.iret (v := (-2)) hx hb hr (fun t9 ht9 hW9 => ⟨(-2), rfl, (by first | with_reducible rfl | simp [b_6]), ht9⟩) (fun _ h => by cases h) dX5_last_18
set_option maxHeartbeats 4000000 in
set_option maxRecDepth 100000 in
/-- X5_wasLet -/
theorem c_X5_wasLet (l : Launch) (D : va_G) (cs : Nat → ClassId) (q : Nat → Nat) (F : Nat → Nat → Int32) (n c : Nat) (g : Int32) (up lo : Int64) (t0 : Int32) (p0 : Int32) (fr : Int32) (to0 : Int32) (hI : Inv F n c) : Met l yX5_wasLet wsX5_wasLet ({ frames := 1, cells := 0, slots := 0, locals := 25 }) (va_Pc [.ref (q 200), .int t0, .int p0, .int fr, .int to0] (pw D cs (mW q cs F n c g up lo))) (vp_Si (fun r => r = (bI (anyB (sAny F t0 p0 fr to0) c)))) 0 0 (fun _ => False) := by
  refine Met.ofW (cc := cX5_wasLet) (maxL := 7) (ret := (some .boolean)) (by decide) rfl ?_
  intro p e s m args below meth c_ s₁ B hml hv
  obtain ⟨rfl, hP, hK, hN⟩ := hv
  have hx := B.exec
  have hb := B.bytes
  have hr := B.returns
  have hts := atoms_spec (ws := wsX5_wasLet) B.pre
  have hown : s.vm.findClass RX5 = some m.cls := findClass_of_methodNamed B.named
  have hlocks := B.notSynchronized
  have hl := lv_entry ([.ref (q 200), .int t0, .int p0, .int fr, .int to0]) (n := 7) (Nat.le_of_ble_eq_true rfl)
  rw [lg_entry_eq]
  generalize (lg_sl ([.ref (q 200), .int t0, .int p0, .int fr, .int to0]) ++ List.replicate (7 - (lg_sl ([.ref (q 200), .int t0, .int p0, .int fr, .int to0])).length) Slot.unset).toArray = ls at hl ⊢
  have hl : lv_has ls 7 [(0, .ref (q 200)), (1, .int t0), (2, .int p0), (3, .int fr), (4, .int to0)] := hl
  have hn60 := hI.n60
  have hc100 := hI.c100
  refine lv_iconst (v := 0) hx hb dX5_wasLet_0 (by decide) ?_
  refine lv_istore (lv' := [(5, .int 0), (0, .ref (q 200)), (1, .int t0), (2, .int p0), (3, .int fr), (4, .int to0)]) hx hb dX5_wasLet_1 hl (by decide) rfl (fun ls hl => ?_)
  refine lv_iconst (v := 0) hx hb dX5_wasLet_3 (by decide) ?_
  refine lv_istore (lv' := [(6, .int 0), (5, .int 0), (0, .ref (q 200)), (1, .int t0), (2, .int p0), (3, .int fr), (4, .int to0)]) hx hb dX5_wasLet_4 hl (by decide) rfl (fun ls hl => ?_)
  refine lpW (fun k ls => lv_has ls 7 [(0, .ref (q 200)), (1, .int t0), (2, .int p0), (3, .int fr), (4, .int to0), (5, .int (bI (anyB (sAny F t0 p0 fr to0) k))), (6, .int (nI k))]) c 0 (Nat.zero_le _) ls (show lv_has ls 7 [(0, .ref (q 200)), (1, .int t0), (2, .int p0), (3, .int fr), (4, .int to0), (5, .int (bI (anyB (sAny F t0 p0 fr to0) 0))), (6, .int (nI 0))] from lv_sub hl [2, 3, 4, 5, 6, 1, 0] rfl) ?_ ?_
  · intro ls hl
    have hl : lv_has ls 7 [(0, .ref (q 200)), (1, .int t0), (2, .int p0), (3, .int fr), (4, .int to0), (5, .int (bI (anyB (sAny F t0 p0 fr to0) c))), (6, .int (nI c))] := hl
    refine lv_iload hx hb dX5_wasLet_6 (lv_at hl 6 rfl) ?_
    refine lv_aload_n hx hb dX5_wasLet_8 rfl (lv_at hl 0 rfl) ?_
    refine va_get (D := D) (ci := 5) (v := .int (nI c)) (C := RX5) (T := TX5) (N := 21) hx hb hts (fun _ h => List.mem_cons_of_mem _ (List.mem_append_right _ h)) hown hK hP 0 rfl rfl 8 (by decide) (hts (.fieldLink RX5 102 "UnderPromiseModel" "claims" "I") (List.mem_of_getElem? (i := 1) rfl)) (fun _ h9 => h9) rfl dX5_wasLet_9 ?_
    refine lv_icmp_ge (tgt := 84) hx hb dX5_wasLet_12 (by decide) (fun c_1 => ?_) (fun c_1 => ?_)
    · have c_2 := i_le c_1
      refine lv_iload hx hb dX5_wasLet_84 (lv_at hl 5 rfl) ?_
      exact W.zret (v := (bI (anyB (sAny F t0 p0 fr to0) c))) hx hb hr (bI_n (anyB (sAny F t0 p0 fr to0) c)) (fun t9 ht9 hW9 => ⟨(bI (anyB (sAny F t0 p0 fr to0) c)), rfl, rfl, ht9⟩) (fun _ h => by cases h) dX5_wasLet_86
    · exact absurd (nI_le (Nat.le_refl _) (by omega)) c_1
  · intro k hk0 hk ih ls hl
    have hl : lv_has ls 7 [(0, .ref (q 200)), (1, .int t0), (2, .int p0), (3, .int fr), (4, .int to0), (5, .int (bI (anyB (sAny F t0 p0 fr to0) k))), (6, .int (nI k))] := hl
    refine lv_iload hx hb dX5_wasLet_6 (lv_at hl 6 rfl) ?_
    refine lv_aload_n hx hb dX5_wasLet_8 rfl (lv_at hl 0 rfl) ?_
    refine va_get (D := D) (ci := 5) (v := .int (nI c)) (C := RX5) (T := TX5) (N := 21) hx hb hts (fun _ h => List.mem_cons_of_mem _ (List.mem_append_right _ h)) hown hK hP 0 rfl rfl 8 (by decide) (hts (.fieldLink RX5 102 "UnderPromiseModel" "claims" "I") (List.mem_of_getElem? (i := 1) rfl)) (fun _ h9 => h9) rfl dX5_wasLet_9 ?_
    refine lv_icmp_ge (tgt := 84) hx hb dX5_wasLet_12 (by decide) (fun c_3 => ?_) (fun c_3 => ?_)
    · exact absurd c_3 (nI_ge hk (by omega))
    · have c_4 := i_nle c_3
      refine lv_iload hx hb dX5_wasLet_15 (lv_at hl 5 rfl) ?_
      refine lv_if_ne (tgt := 71) hx hb dX5_wasLet_17 (by decide) (fun c_5 => ?_) (fun c_5 => ?_)
      · have b_6 : (anyB (sAny F t0 p0 fr to0) k) = true := bI_t c_5
        refine lv_iconst (v := 1) hx hb dX5_wasLet_71 (by decide) ?_
        refine lv_goto (tgt := 76) hx hb dX5_wasLet_72 (by decide) ?_
        refine lv_istore (lv' := [(5, .int 1), (0, .ref (q 200)), (1, .int t0), (2, .int p0), (3, .int fr), (4, .int to0), (6, .int (nI k))]) hx hb dX5_wasLet_76 hl (by decide) rfl (fun ls hl => ?_)
        refine lv_iinc (v := ((nI k) + 1)) (lv' := [(6, .int ((nI k) + 1)), (5, .int 1), (0, .ref (q 200)), (1, .int t0), (2, .int p0), (3, .int fr), (4, .int to0)]) hx hb dX5_wasLet_78 hl (k := 6) rfl rfl (by decide) rfl (fun ls hl => ?_)
        refine lv_goto (tgt := 6) hx hb dX5_wasLet_81 (by decide) ?_
        have h_7 : 1 = (bI (anyB (sAny F t0 p0 fr to0) (k + 1))) := (by first | with_reducible rfl | simp [anyB, sAny, bI, c_3, c_4, b_6])
        have h_8 : ((nI k) + 1) = (nI (k + 1)) := (nI_1 _)
        exact ih _ (lv_cast (lv_sub (l' := [(0, .ref (q 200)), (1, .int t0), (2, .int p0), (3, .int fr), (4, .int to0), (5, .int 1), (6, .int ((nI k) + 1))]) hl [2, 3, 4, 5, 6, 1, 0] rfl) (cg2 (fun z7 z8 => [(0, .ref (q 200)), (1, .int t0), (2, .int p0), (3, .int fr), (4, .int to0), (5, .int z7), (6, .int z8)]) h_7 h_8))
      · have b_9 : (anyB (sAny F t0 p0 fr to0) k) = false := bI_f c_5
        refine lv_aload_n hx hb dX5_wasLet_20 rfl (lv_at hl 0 rfl) ?_
        refine va_get (D := D) (ci := 5) (v := .ref (q 212)) (C := RX5) (T := TX5) (N := 21) hx hb hts (fun _ h => List.mem_cons_of_mem _ (List.mem_append_right _ h)) hown hK hP 0 rfl rfl 14 (by decide) (hts (.fieldLink RX5 47 "UnderPromiseModel" "judged" "[I") (List.mem_of_getElem? (i := 2) rfl)) (fun _ h9 => h9) rfl dX5_wasLet_21 ?_
        refine lv_iload hx hb dX5_wasLet_24 (lv_at hl 6 rfl) ?_
        refine iaK (v := (F 11 k)) hx hb hK hP 12 0 rfl rfl k (vp_in_nI (by omega) (by decide)) (nI_clamp (by omega)) rfl dX5_wasLet_26 ?_
        refine lv_if_ne (tgt := 75) hx hb dX5_wasLet_27 (by decide) (fun c_10 => ?_) (fun c_10 => ?_)
        · refine lv_iconst (v := 0) hx hb dX5_wasLet_75 (by decide) ?_
          refine lv_istore (lv' := [(5, .int 0), (0, .ref (q 200)), (1, .int t0), (2, .int p0), (3, .int fr), (4, .int to0), (6, .int (nI k))]) hx hb dX5_wasLet_76 hl (by decide) rfl (fun ls hl => ?_)
          refine lv_iinc (v := ((nI k) + 1)) (lv' := [(6, .int ((nI k) + 1)), (5, .int 0), (0, .ref (q 200)), (1, .int t0), (2, .int p0), (3, .int fr), (4, .int to0)]) hx hb dX5_wasLet_78 hl (k := 6) rfl rfl (by decide) rfl (fun ls hl => ?_)
          refine lv_goto (tgt := 6) hx hb dX5_wasLet_81 (by decide) ?_
          have h_11 : 0 = (bI (anyB (sAny F t0 p0 fr to0) (k + 1))) := (by first | with_reducible rfl | simp [anyB, sAny, bI, c_3, c_4, b_9, c_10])
          have h_12 : ((nI k) + 1) = (nI (k + 1)) := (nI_1 _)
          exact ih _ (lv_cast (lv_sub (l' := [(0, .ref (q 200)), (1, .int t0), (2, .int p0), (3, .int fr), (4, .int to0), (5, .int 0), (6, .int ((nI k) + 1))]) hl [2, 3, 4, 5, 6, 1, 0] rfl) (cg2 (fun z11 z12 => [(0, .ref (q 200)), (1, .int t0), (2, .int p0), (3, .int fr), (4, .int to0), (5, .int z11), (6, .int z12)]) h_11 h_12))
        · refine lv_aload_n hx hb dX5_wasLet_30 rfl (lv_at hl 0 rfl) ?_
          refine va_get (D := D) (ci := 5) (v := .ref (q 207)) (C := RX5) (T := TX5) (N := 21) hx hb hts (fun _ h => List.mem_cons_of_mem _ (List.mem_append_right _ h)) hown hK hP 0 rfl rfl 9 (by decide) (hts (.fieldLink RX5 32 "UnderPromiseModel" "ofThing" "[I") (List.mem_of_getElem? (i := 3) rfl)) (fun _ h9 => h9) rfl dX5_wasLet_31 ?_
          refine lv_iload hx hb dX5_wasLet_34 (lv_at hl 6 rfl) ?_
          refine iaK (v := (F 6 k)) hx hb hK hP 7 0 rfl rfl k (vp_in_nI (by omega) (by decide)) (nI_clamp (by omega)) rfl dX5_wasLet_36 ?_
          refine lv_iload_n hx hb dX5_wasLet_37 rfl (lv_at hl 1 rfl) ?_
          refine lv_icmp_ne (tgt := 75) hx hb dX5_wasLet_38 (by decide) (fun c_13 => ?_) (fun c_13 => ?_)
          · refine lv_iconst (v := 0) hx hb dX5_wasLet_75 (by decide) ?_
            refine lv_istore (lv' := [(5, .int 0), (0, .ref (q 200)), (1, .int t0), (2, .int p0), (3, .int fr), (4, .int to0), (6, .int (nI k))]) hx hb dX5_wasLet_76 hl (by decide) rfl (fun ls hl => ?_)
            refine lv_iinc (v := ((nI k) + 1)) (lv' := [(6, .int ((nI k) + 1)), (5, .int 0), (0, .ref (q 200)), (1, .int t0), (2, .int p0), (3, .int fr), (4, .int to0)]) hx hb dX5_wasLet_78 hl (k := 6) rfl rfl (by decide) rfl (fun ls hl => ?_)
            refine lv_goto (tgt := 6) hx hb dX5_wasLet_81 (by decide) ?_
            have h_14 : 0 = (bI (anyB (sAny F t0 p0 fr to0) (k + 1))) := (by first | with_reducible rfl | simp [anyB, sAny, bI, c_3, c_4, b_9, c_10, c_13])
            have h_15 : ((nI k) + 1) = (nI (k + 1)) := (nI_1 _)
            exact ih _ (lv_cast (lv_sub (l' := [(0, .ref (q 200)), (1, .int t0), (2, .int p0), (3, .int fr), (4, .int to0), (5, .int 0), (6, .int ((nI k) + 1))]) hl [2, 3, 4, 5, 6, 1, 0] rfl) (cg2 (fun z14 z15 => [(0, .ref (q 200)), (1, .int t0), (2, .int p0), (3, .int fr), (4, .int to0), (5, .int z14), (6, .int z15)]) h_14 h_15))
          · refine lv_aload_n hx hb dX5_wasLet_41 rfl (lv_at hl 0 rfl) ?_
            refine va_get (D := D) (ci := 5) (v := .ref (q 208)) (C := RX5) (T := TX5) (N := 21) hx hb hts (fun _ h => List.mem_cons_of_mem _ (List.mem_append_right _ h)) hown hK hP 0 rfl rfl 10 (by decide) (hts (.fieldLink RX5 35 "UnderPromiseModel" "ofPart" "[I") (List.mem_of_getElem? (i := 4) rfl)) (fun _ h9 => h9) rfl dX5_wasLet_42 ?_
            refine lv_iload hx hb dX5_wasLet_45 (lv_at hl 6 rfl) ?_
            refine iaK (v := (F 7 k)) hx hb hK hP 8 0 rfl rfl k (vp_in_nI (by omega) (by decide)) (nI_clamp (by omega)) rfl dX5_wasLet_47 ?_
            refine lv_iload_n hx hb dX5_wasLet_48 rfl (lv_at hl 2 rfl) ?_
            refine lv_icmp_ne (tgt := 75) hx hb dX5_wasLet_49 (by decide) (fun c_16 => ?_) (fun c_16 => ?_)
            · refine lv_iconst (v := 0) hx hb dX5_wasLet_75 (by decide) ?_
              refine lv_istore (lv' := [(5, .int 0), (0, .ref (q 200)), (1, .int t0), (2, .int p0), (3, .int fr), (4, .int to0), (6, .int (nI k))]) hx hb dX5_wasLet_76 hl (by decide) rfl (fun ls hl => ?_)
              refine lv_iinc (v := ((nI k) + 1)) (lv' := [(6, .int ((nI k) + 1)), (5, .int 0), (0, .ref (q 200)), (1, .int t0), (2, .int p0), (3, .int fr), (4, .int to0)]) hx hb dX5_wasLet_78 hl (k := 6) rfl rfl (by decide) rfl (fun ls hl => ?_)
              refine lv_goto (tgt := 6) hx hb dX5_wasLet_81 (by decide) ?_
              have h_17 : 0 = (bI (anyB (sAny F t0 p0 fr to0) (k + 1))) := (by first | with_reducible rfl | simp [anyB, sAny, bI, c_3, c_4, b_9, c_10, c_13, c_16])
              have h_18 : ((nI k) + 1) = (nI (k + 1)) := (nI_1 _)
              exact ih _ (lv_cast (lv_sub (l' := [(0, .ref (q 200)), (1, .int t0), (2, .int p0), (3, .int fr), (4, .int to0), (5, .int 0), (6, .int ((nI k) + 1))]) hl [2, 3, 4, 5, 6, 1, 0] rfl) (cg2 (fun z17 z18 => [(0, .ref (q 200)), (1, .int t0), (2, .int p0), (3, .int fr), (4, .int to0), (5, .int z17), (6, .int z18)]) h_17 h_18))
            · refine lv_aload_n hx hb dX5_wasLet_52 rfl (lv_at hl 0 rfl) ?_
              refine va_get (D := D) (ci := 5) (v := .ref (q 209)) (C := RX5) (T := TX5) (N := 21) hx hb hts (fun _ h => List.mem_cons_of_mem _ (List.mem_append_right _ h)) hown hK hP 0 rfl rfl 11 (by decide) (hts (.fieldLink RX5 38 "UnderPromiseModel" "failed" "[I") (List.mem_of_getElem? (i := 5) rfl)) (fun _ h9 => h9) rfl dX5_wasLet_53 ?_
              refine lv_iload hx hb dX5_wasLet_56 (lv_at hl 6 rfl) ?_
              refine iaK (v := (F 8 k)) hx hb hK hP 9 0 rfl rfl k (vp_in_nI (by omega) (by decide)) (nI_clamp (by omega)) rfl dX5_wasLet_58 ?_
              refine lv_i2l (v := (Int32.toInt64 (F 8 k))) hx hb dX5_wasLet_59 rfl ?_
              refine lv_iload_n hx hb dX5_wasLet_60 rfl (lv_at hl 3 rfl) ?_
              refine lv_i2l (v := (Int32.toInt64 fr)) hx hb dX5_wasLet_61 rfl ?_
              refine lv_iload hx hb dX5_wasLet_62 (lv_at hl 4 rfl) ?_
              refine lv_i2l (v := (Int32.toInt64 to0)) hx hb dX5_wasLet_64 rfl ?_
              refine roSi (As := [.long (Int32.toInt64 (F 8 k)), .long (Int32.toInt64 fr), .long (Int32.toInt64 to0)]) (rest := []) (v := (bI (rg (F 8 k) fr to0))) ⟨hx, hb, hml, hown, hts⟩ (c_X5_in l (F 8 k) fr to0 (Int32.toInt64 fr) (Int32.toInt64 to0) rfl rfl) (va_cwS 3 hts gX5_wasLet_X5_in rfl rfl rfl (by decide +kernel) ⟨Nat.le_of_ble_eq_true rfl, Nat.le_of_ble_eq_true rfl⟩) rfl hl.1 rfl (Nat.le_of_ble_eq_true rfl) dX5_wasLet_65 ⟨Nat.zero_le _, Nat.zero_le _⟩ ?_
              refine lv_if_eq (tgt := 75) hx hb dX5_wasLet_68 (by decide) (fun c_19 => ?_) (fun c_19 => ?_)
              · have b_20 : (rg (F 8 k) fr to0) = false := bI_f c_19
                refine lv_iconst (v := 0) hx hb dX5_wasLet_75 (by decide) ?_
                refine lv_istore (lv' := [(5, .int 0), (0, .ref (q 200)), (1, .int t0), (2, .int p0), (3, .int fr), (4, .int to0), (6, .int (nI k))]) hx hb dX5_wasLet_76 hl (by decide) rfl (fun ls hl => ?_)
                refine lv_iinc (v := ((nI k) + 1)) (lv' := [(6, .int ((nI k) + 1)), (5, .int 0), (0, .ref (q 200)), (1, .int t0), (2, .int p0), (3, .int fr), (4, .int to0)]) hx hb dX5_wasLet_78 hl (k := 6) rfl rfl (by decide) rfl (fun ls hl => ?_)
                refine lv_goto (tgt := 6) hx hb dX5_wasLet_81 (by decide) ?_
                have h_21 : 0 = (bI (anyB (sAny F t0 p0 fr to0) (k + 1))) := (by first | with_reducible rfl | simp [anyB, sAny, bI, c_3, c_4, b_9, c_10, c_13, c_16, b_20])
                have h_22 : ((nI k) + 1) = (nI (k + 1)) := (nI_1 _)
                exact ih _ (lv_cast (lv_sub (l' := [(0, .ref (q 200)), (1, .int t0), (2, .int p0), (3, .int fr), (4, .int to0), (5, .int 0), (6, .int ((nI k) + 1))]) hl [2, 3, 4, 5, 6, 1, 0] rfl) (cg2 (fun z21 z22 => [(0, .ref (q 200)), (1, .int t0), (2, .int p0), (3, .int fr), (4, .int to0), (5, .int z21), (6, .int z22)]) h_21 h_22))
              · have b_23 : (rg (F 8 k) fr to0) = true := bI_t c_19
                refine lv_iconst (v := 1) hx hb dX5_wasLet_71 (by decide) ?_
                refine lv_goto (tgt := 76) hx hb dX5_wasLet_72 (by decide) ?_
                refine lv_istore (lv' := [(5, .int 1), (0, .ref (q 200)), (1, .int t0), (2, .int p0), (3, .int fr), (4, .int to0), (6, .int (nI k))]) hx hb dX5_wasLet_76 hl (by decide) rfl (fun ls hl => ?_)
                refine lv_iinc (v := ((nI k) + 1)) (lv' := [(6, .int ((nI k) + 1)), (5, .int 1), (0, .ref (q 200)), (1, .int t0), (2, .int p0), (3, .int fr), (4, .int to0)]) hx hb dX5_wasLet_78 hl (k := 6) rfl rfl (by decide) rfl (fun ls hl => ?_)
                refine lv_goto (tgt := 6) hx hb dX5_wasLet_81 (by decide) ?_
                have h_24 : 1 = (bI (anyB (sAny F t0 p0 fr to0) (k + 1))) := (by first | with_reducible rfl | simp [anyB, sAny, bI, c_3, c_4, b_9, c_10, c_13, c_16, b_23])
                have h_25 : ((nI k) + 1) = (nI (k + 1)) := (nI_1 _)
                exact ih _ (lv_cast (lv_sub (l' := [(0, .ref (q 200)), (1, .int t0), (2, .int p0), (3, .int fr), (4, .int to0), (5, .int 1), (6, .int ((nI k) + 1))]) hl [2, 3, 4, 5, 6, 1, 0] rfl) (cg2 (fun z24 z25 => [(0, .ref (q 200)), (1, .int t0), (2, .int p0), (3, .int fr), (4, .int to0), (5, .int z24), (6, .int z25)]) h_24 h_25))
set_option maxHeartbeats 4000000 in
set_option maxRecDepth 100000 in
/-- X5_judge -/
theorem c_X5_judge (l : Launch) (D : va_G) (cs : Nat → ClassId) (q : Nat → Nat) (F : Nat → Nat → Int32) (n c : Nat) (g : Int32) (up lo : Int64) (t : Nat) (p0 : Int32) (mo : Int32) (hI : Inv F n c) (ht : t < n) : Met l yX5_judge wsX5_judge ({ frames := 2, cells := 0, slots := 0, locals := 51 }) (va_Pc [.ref (q 200), .int (nI t), .int p0, .int mo] (pw D cs (mW q cs F n c g up lo))) (vp_Si (fun r => r = (sJudge F c g t p0 mo))) 0 0 (fun _ => False) := by
  refine Met.ofW (cc := cX5_judge) (maxL := 4) (ret := (some .int)) (by decide) rfl ?_
  intro p e s m args below meth c_ s₁ B hml hv
  obtain ⟨rfl, hP, hK, hN⟩ := hv
  have hx := B.exec
  have hb := B.bytes
  have hr := B.returns
  have hts := atoms_spec (ws := wsX5_judge) B.pre
  have hown : s.vm.findClass RX5 = some m.cls := findClass_of_methodNamed B.named
  have hlocks := B.notSynchronized
  have hl := lv_entry ([.ref (q 200), .int (nI t), .int p0, .int mo]) (n := 4) (Nat.le_of_ble_eq_true rfl)
  rw [lg_entry_eq]
  generalize (lg_sl ([.ref (q 200), .int (nI t), .int p0, .int mo]) ++ List.replicate (4 - (lg_sl ([.ref (q 200), .int (nI t), .int p0, .int mo])).length) Slot.unset).toArray = ls at hl ⊢
  have hl : lv_has ls 4 [(0, .ref (q 200)), (1, .int (nI t)), (2, .int p0), (3, .int mo)] := hl
  have hn60 := hI.n60
  have hc100 := hI.c100
  refine lv_iload_n hx hb dX5_judge_0 rfl (lv_at hl 3 rfl) ?_
  refine lv_aload_n hx hb dX5_judge_1 rfl (lv_at hl 0 rfl) ?_
  refine va_get (D := D) (ci := 5) (v := .ref (q 204)) (C := RX5) (T := TX5) (N := 21) hx hb hts (fun _ h => List.mem_cons_of_mem _ (List.mem_append_right _ h)) hown hK hP 0 rfl rfl 4 (by decide) (hts (.fieldLink RX5 19 "UnderPromiseModel" "soldIn" "[I") (List.mem_of_getElem? (i := 1) rfl)) (fun _ h9 => h9) rfl dX5_judge_2 ?_
  refine lv_iload_n hx hb dX5_judge_5 rfl (lv_at hl 1 rfl) ?_
  refine iaK (v := (F 1 t)) hx hb hK hP 4 0 rfl rfl t (vp_in_nI (by omega) (by decide)) (nI_clamp (by omega)) rfl dX5_judge_6 ?_
  refine lv_icmp_ge (tgt := 12) hx hb dX5_judge_7 (by decide) (fun c_1 => ?_) (fun c_1 => ?_)
  · have c_2 := i_le c_1
    refine lv_aload_n hx hb dX5_judge_12 rfl (lv_at hl 0 rfl) ?_
    refine lv_iload_n hx hb dX5_judge_13 rfl (lv_at hl 1 rfl) ?_
    refine lv_iload_n hx hb dX5_judge_14 rfl (lv_at hl 2 rfl) ?_
    refine lv_iload_n hx hb dX5_judge_15 rfl (lv_at hl 3 rfl) ?_
    refine lv_iload_n hx hb dX5_judge_16 rfl (lv_at hl 3 rfl) ?_
    refine roVi (As := [.int (nI t), .int p0, .int mo, .int mo]) (rest := []) (v := (bI (anyB (sAny F (nI t) p0 mo mo) c))) ⟨hx, hb, hml, hown, hts⟩ (c_X5_wasLet l D cs q F n c g up lo (nI t) p0 mo mo hI) (cwV 4 hts gX5_judge_X5_wasLet rfl rfl rfl (by decide +kernel) ⟨Nat.le_of_ble_eq_true rfl, Nat.le_of_ble_eq_true rfl⟩) hP hK hN 0 rfl rfl rfl hl.1 rfl (Nat.le_of_ble_eq_true rfl) dX5_judge_17 ⟨Nat.zero_le _, Nat.zero_le _⟩ ?_
    refine lv_if_eq (tgt := 25) hx hb dX5_judge_20 (by decide) (fun c_3 => ?_) (fun c_3 => ?_)
    · have b_4 : (anyB (sAny F (nI t) p0 mo mo) c) = false := bI_f c_3
      refine lv_aload_n hx hb dX5_judge_25 rfl (lv_at hl 0 rfl) ?_
      refine lv_iload_n hx hb dX5_judge_26 rfl (lv_at hl 1 rfl) ?_
      refine lv_iload_n hx hb dX5_judge_27 rfl (lv_at hl 3 rfl) ?_
      refine roVi (As := [.int (nI t), .int mo]) (rest := []) (v := (bI (sProm F t mo))) ⟨hx, hb, hml, hown, hts⟩ (c_X5_isPromised l D cs q F n c g up lo t mo hI (by omega)) (cwV 2 hts gX5_judge_X5_isPromised rfl rfl rfl (by decide +kernel) ⟨Nat.le_of_ble_eq_true rfl, Nat.le_of_ble_eq_true rfl⟩) hP hK hN 0 rfl rfl rfl hl.1 rfl (Nat.le_of_ble_eq_true rfl) dX5_judge_28 ⟨Nat.zero_le _, Nat.zero_le _⟩ ?_
      refine lv_if_ne (tgt := 36) hx hb dX5_judge_31 (by decide) (fun c_5 => ?_) (fun c_5 => ?_)
      · have b_6 : (sProm F t mo) = true := bI_t c_5
        refine lv_aload_n hx hb dX5_judge_36 rfl (lv_at hl 0 rfl) ?_
        refine lv_iload_n hx hb dX5_judge_37 rfl (lv_at hl 1 rfl) ?_
        refine lv_iload_n hx hb dX5_judge_38 rfl (lv_at hl 2 rfl) ?_
        refine lv_iload_n hx hb dX5_judge_39 rfl (lv_at hl 3 rfl) ?_
        refine lv_aload_n hx hb dX5_judge_40 rfl (lv_at hl 0 rfl) ?_
        refine va_get (D := D) (ci := 5) (v := .int g) (C := RX5) (T := TX5) (N := 21) hx hb hts (fun _ h => List.mem_cons_of_mem _ (List.mem_append_right _ h)) hown hK hP 0 rfl rfl 7 (by decide) (hts (.fieldLink RX5 28 "UnderPromiseModel" "ago" "I") (List.mem_of_getElem? (i := 2) rfl)) (fun _ h9 => h9) rfl dX5_judge_41 ?_
        refine lv_isub hx hb dX5_judge_44 ?_
        refine lv_iload_n hx hb dX5_judge_45 rfl (lv_at hl 3 rfl) ?_
        refine lv_iconst (v := 1) hx hb dX5_judge_46 (by decide) ?_
        refine lv_isub hx hb dX5_judge_47 ?_
        refine roVi (As := [.int (nI t), .int p0, .int (mo - g), .int (mo - 1)]) (rest := []) (v := (bI (anyB (sAny F (nI t) p0 (mo - g) (mo - 1)) c))) ⟨hx, hb, hml, hown, hts⟩ (c_X5_wasLet l D cs q F n c g up lo (nI t) p0 (mo - g) (mo - 1) hI) (cwV 4 hts gX5_judge_X5_wasLet rfl rfl rfl (by decide +kernel) ⟨Nat.le_of_ble_eq_true rfl, Nat.le_of_ble_eq_true rfl⟩) hP hK hN 0 rfl rfl rfl hl.1 rfl (Nat.le_of_ble_eq_true rfl) dX5_judge_48 ⟨Nat.zero_le _, Nat.zero_le _⟩ ?_
        refine lv_if_eq (tgt := 58) hx hb dX5_judge_51 (by decide) (fun c_7 => ?_) (fun c_7 => ?_)
        · have b_8 : (anyB (sAny F (nI t) p0 (mo - g) (mo - 1)) c) = false := bI_f c_7
          refine lv_iconst (v := 0) hx hb dX5_judge_58 (by decide) ?_
          exact W.iret (v := 0) hx hb hr (fun t9 ht9 hW9 => ⟨0, rfl, (by first | with_reducible rfl | simp [sJudge, c_1, c_2, b_4, b_6, b_8]), ht9⟩) (fun _ h => by cases h) dX5_judge_59
        · have b_9 : (anyB (sAny F (nI t) p0 (mo - g) (mo - 1)) c) = true := bI_t c_7
          refine lv_iconst (v := 4) hx hb dX5_judge_54 (by decide) ?_
          refine lv_goto (tgt := 59) hx hb dX5_judge_55 (by decide) ?_
          exact W.iret (v := 4) hx hb hr (fun t9 ht9 hW9 => ⟨4, rfl, (by first | with_reducible rfl | simp [sJudge, c_1, c_2, b_4, b_6, b_9]), ht9⟩) (fun _ h => by cases h) dX5_judge_59
      · have b_10 : (sProm F t mo) = false := bI_f c_5
        refine lv_iconst (v := 3) hx hb dX5_judge_34 (by decide) ?_
        exact W.iret (v := 3) hx hb hr (fun t9 ht9 hW9 => ⟨3, rfl, (by first | with_reducible rfl | simp [sJudge, c_1, c_2, b_4, b_10]), ht9⟩) (fun _ h => by cases h) dX5_judge_35
    · have b_11 : (anyB (sAny F (nI t) p0 mo mo) c) = true := bI_t c_3
      refine lv_iconst (v := 2) hx hb dX5_judge_23 (by decide) ?_
      exact W.iret (v := 2) hx hb hr (fun t9 ht9 hW9 => ⟨2, rfl, (by first | with_reducible rfl | simp [sJudge, c_1, c_2, b_11]), ht9⟩) (fun _ h => by cases h) dX5_judge_24
  · have c_12 := i_nle c_1
    refine lv_iconst (v := 1) hx hb dX5_judge_10 (by decide) ?_
    exact W.iret (v := 1) hx hb hr (fun t9 ht9 hW9 => ⟨1, rfl, (by first | with_reducible rfl | simp [sJudge, c_1, c_12]), ht9⟩) (fun _ h => by cases h) dX5_judge_11
set_option maxHeartbeats 4000000 in
set_option maxRecDepth 100000 in
/-- X5_aboutOf -/
theorem c_X5_aboutOf (l : Launch) (D : va_G) (cs : Nat → ClassId) (q : Nat → Nat) (F : Nat → Nat → Int32) (n c : Nat) (g : Int32) (up lo : Int64) (k : Nat) (w : Int32) (hI : Inv F n c) (hk : k < c) : Met l yX5_aboutOf wsX5_aboutOf ({ frames := 0, cells := 0, slots := 0, locals := 0 }) (va_Pc [.ref (q 200), .int (nI k), .int w] (pw D cs (mW q cs F n c g up lo))) (vp_Si (fun r => r = (sTell F k w))) 0 0 (fun _ => False) := by
  refine Met.ofW (cc := cX5_aboutOf) (maxL := 3) (ret := (some .int)) (by decide) rfl ?_
  intro p e s m args below meth c_ s₁ B hml hv
  obtain ⟨rfl, hP, hK, hN⟩ := hv
  have hx := B.exec
  have hb := B.bytes
  have hr := B.returns
  have hts := atoms_spec (ws := wsX5_aboutOf) B.pre
  have hown : s.vm.findClass RX5 = some m.cls := findClass_of_methodNamed B.named
  have hlocks := B.notSynchronized
  have hl := lv_entry ([.ref (q 200), .int (nI k), .int w]) (n := 3) (Nat.le_of_ble_eq_true rfl)
  rw [lg_entry_eq]
  generalize (lg_sl ([.ref (q 200), .int (nI k), .int w]) ++ List.replicate (3 - (lg_sl ([.ref (q 200), .int (nI k), .int w])).length) Slot.unset).toArray = ls at hl ⊢
  have hl : lv_has ls 3 [(0, .ref (q 200)), (1, .int (nI k)), (2, .int w)] := hl
  have hn60 := hI.n60
  have hc100 := hI.c100
  refine lv_iload_n hx hb dX5_aboutOf_0 rfl (lv_at hl 2 rfl) ?_
  rcases Classical.em (w = 0) with w_1 | w_1
  · subst w_1
    refine lv_tableIn (tgt := 40) hx hb dX5_aboutOf_1 (by decide) (by decide) (off := 39) (by decide) (by decide) ?_
    refine lv_aload_n hx hb dX5_aboutOf_40 rfl (lv_at hl 0 rfl) ?_
    refine va_get (D := D) (ci := 5) (v := .ref (q 207)) (C := RX5) (T := TX5) (N := 21) hx hb hts (fun _ h => List.mem_cons_of_mem _ (List.mem_append_right _ h)) hown hK hP 0 rfl rfl 9 (by decide) (hts (.fieldLink RX5 32 "UnderPromiseModel" "ofThing" "[I") (List.mem_of_getElem? (i := 1) rfl)) (fun _ h9 => h9) rfl dX5_aboutOf_41 ?_
    refine lv_iload_n hx hb dX5_aboutOf_44 rfl (lv_at hl 1 rfl) ?_
    refine iaK (v := (F 6 k)) hx hb hK hP 7 0 rfl rfl k (vp_in_nI (by omega) (by decide)) (nI_clamp (by omega)) rfl dX5_aboutOf_45 ?_
    exact W.iret (v := (F 6 k)) hx hb hr (fun t9 ht9 hW9 => ⟨(F 6 k), rfl, (by first | with_reducible rfl | simp [sTell]), ht9⟩) (fun _ h => by cases h) dX5_aboutOf_46
  rcases Classical.em (w = 1) with w_2 | w_2
  · subst w_2
    refine lv_tableIn (tgt := 47) hx hb dX5_aboutOf_1 (by decide) (by decide) (off := 46) (by decide) (by decide) ?_
    refine lv_aload_n hx hb dX5_aboutOf_47 rfl (lv_at hl 0 rfl) ?_
    refine va_get (D := D) (ci := 5) (v := .ref (q 208)) (C := RX5) (T := TX5) (N := 21) hx hb hts (fun _ h => List.mem_cons_of_mem _ (List.mem_append_right _ h)) hown hK hP 0 rfl rfl 10 (by decide) (hts (.fieldLink RX5 35 "UnderPromiseModel" "ofPart" "[I") (List.mem_of_getElem? (i := 2) rfl)) (fun _ h9 => h9) rfl dX5_aboutOf_48 ?_
    refine lv_iload_n hx hb dX5_aboutOf_51 rfl (lv_at hl 1 rfl) ?_
    refine iaK (v := (F 7 k)) hx hb hK hP 8 0 rfl rfl k (vp_in_nI (by omega) (by decide)) (nI_clamp (by omega)) rfl dX5_aboutOf_52 ?_
    exact W.iret (v := (F 7 k)) hx hb hr (fun t9 ht9 hW9 => ⟨(F 7 k), rfl, (by first | with_reducible rfl | simp [sTell, w_1]), ht9⟩) (fun _ h => by cases h) dX5_aboutOf_53
  rcases Classical.em (w = 2) with w_3 | w_3
  · subst w_3
    refine lv_tableIn (tgt := 54) hx hb dX5_aboutOf_1 (by decide) (by decide) (off := 53) (by decide) (by decide) ?_
    refine lv_aload_n hx hb dX5_aboutOf_54 rfl (lv_at hl 0 rfl) ?_
    refine va_get (D := D) (ci := 5) (v := .ref (q 209)) (C := RX5) (T := TX5) (N := 21) hx hb hts (fun _ h => List.mem_cons_of_mem _ (List.mem_append_right _ h)) hown hK hP 0 rfl rfl 11 (by decide) (hts (.fieldLink RX5 38 "UnderPromiseModel" "failed" "[I") (List.mem_of_getElem? (i := 3) rfl)) (fun _ h9 => h9) rfl dX5_aboutOf_55 ?_
    refine lv_iload_n hx hb dX5_aboutOf_58 rfl (lv_at hl 1 rfl) ?_
    refine iaK (v := (F 8 k)) hx hb hK hP 9 0 rfl rfl k (vp_in_nI (by omega) (by decide)) (nI_clamp (by omega)) rfl dX5_aboutOf_59 ?_
    exact W.iret (v := (F 8 k)) hx hb hr (fun t9 ht9 hW9 => ⟨(F 8 k), rfl, (by first | with_reducible rfl | simp [sTell, w_1, w_2]), ht9⟩) (fun _ h => by cases h) dX5_aboutOf_60
  rcases Classical.em (w = 3) with w_4 | w_4
  · subst w_4
    refine lv_tableIn (tgt := 61) hx hb dX5_aboutOf_1 (by decide) (by decide) (off := 60) (by decide) (by decide) ?_
    refine lv_aload_n hx hb dX5_aboutOf_61 rfl (lv_at hl 0 rfl) ?_
    refine va_get (D := D) (ci := 5) (v := .ref (q 210)) (C := RX5) (T := TX5) (N := 21) hx hb hts (fun _ h => List.mem_cons_of_mem _ (List.mem_append_right _ h)) hown hK hP 0 rfl rfl 12 (by decide) (hts (.fieldLink RX5 41 "UnderPromiseModel" "toldIn" "[I") (List.mem_of_getElem? (i := 4) rfl)) (fun _ h9 => h9) rfl dX5_aboutOf_62 ?_
    refine lv_iload_n hx hb dX5_aboutOf_65 rfl (lv_at hl 1 rfl) ?_
    refine iaK (v := (F 9 k)) hx hb hK hP 10 0 rfl rfl k (vp_in_nI (by omega) (by decide)) (nI_clamp (by omega)) rfl dX5_aboutOf_66 ?_
    exact W.iret (v := (F 9 k)) hx hb hr (fun t9 ht9 hW9 => ⟨(F 9 k), rfl, (by first | with_reducible rfl | simp [sTell, w_1, w_2, w_3]), ht9⟩) (fun _ h => by cases h) dX5_aboutOf_67
  rcases Classical.em (w = 4) with w_5 | w_5
  · subst w_5
    refine lv_tableIn (tgt := 68) hx hb dX5_aboutOf_1 (by decide) (by decide) (off := 67) (by decide) (by decide) ?_
    refine lv_aload_n hx hb dX5_aboutOf_68 rfl (lv_at hl 0 rfl) ?_
    refine va_get (D := D) (ci := 5) (v := .ref (q 211)) (C := RX5) (T := TX5) (N := 21) hx hb hts (fun _ h => List.mem_cons_of_mem _ (List.mem_append_right _ h)) hown hK hP 0 rfl rfl 13 (by decide) (hts (.fieldLink RX5 44 "UnderPromiseModel" "costs" "[I") (List.mem_of_getElem? (i := 5) rfl)) (fun _ h9 => h9) rfl dX5_aboutOf_69 ?_
    refine lv_iload_n hx hb dX5_aboutOf_72 rfl (lv_at hl 1 rfl) ?_
    refine iaK (v := (F 10 k)) hx hb hK hP 11 0 rfl rfl k (vp_in_nI (by omega) (by decide)) (nI_clamp (by omega)) rfl dX5_aboutOf_73 ?_
    exact W.iret (v := (F 10 k)) hx hb hr (fun t9 ht9 hW9 => ⟨(F 10 k), rfl, (by first | with_reducible rfl | simp [sTell, w_1, w_2, w_3, w_4]), ht9⟩) (fun _ h => by cases h) dX5_aboutOf_74
  rcases Classical.em (w = 5) with w_6 | w_6
  · subst w_6
    refine lv_tableIn (tgt := 75) hx hb dX5_aboutOf_1 (by decide) (by decide) (off := 74) (by decide) (by decide) ?_
    refine lv_aload_n hx hb dX5_aboutOf_75 rfl (lv_at hl 0 rfl) ?_
    refine va_get (D := D) (ci := 5) (v := .ref (q 212)) (C := RX5) (T := TX5) (N := 21) hx hb hts (fun _ h => List.mem_cons_of_mem _ (List.mem_append_right _ h)) hown hK hP 0 rfl rfl 14 (by decide) (hts (.fieldLink RX5 47 "UnderPromiseModel" "judged" "[I") (List.mem_of_getElem? (i := 6) rfl)) (fun _ h9 => h9) rfl dX5_aboutOf_76 ?_
    refine lv_iload_n hx hb dX5_aboutOf_79 rfl (lv_at hl 1 rfl) ?_
    refine iaK (v := (F 11 k)) hx hb hK hP 12 0 rfl rfl k (vp_in_nI (by omega) (by decide)) (nI_clamp (by omega)) rfl dX5_aboutOf_80 ?_
    exact W.iret (v := (F 11 k)) hx hb hr (fun t9 ht9 hW9 => ⟨(F 11 k), rfl, (by first | with_reducible rfl | simp [sTell, w_1, w_2, w_3, w_4, w_5]), ht9⟩) (fun _ h => by cases h) dX5_aboutOf_81
  refine lv_tableOut (tgt := 82) hx hb dX5_aboutOf_1 (sw_out (lo := 0) (hi := 5) (by decide) (by decide) (by intro j h1 h2; rcases (by omega : j = 0 ∨ j = 1 ∨ j = 2 ∨ j = 3 ∨ j = 4 ∨ j = 5) with rfl | rfl | rfl | rfl | rfl | rfl <;> assumption)) (by decide) ?_
  refine lv_aload_n hx hb dX5_aboutOf_82 rfl (lv_at hl 0 rfl) ?_
  refine va_get (D := D) (ci := 5) (v := .ref (q 210)) (C := RX5) (T := TX5) (N := 21) hx hb hts (fun _ h => List.mem_cons_of_mem _ (List.mem_append_right _ h)) hown hK hP 0 rfl rfl 12 (by decide) (hts (.fieldLink RX5 41 "UnderPromiseModel" "toldIn" "[I") (List.mem_of_getElem? (i := 4) rfl)) (fun _ h9 => h9) rfl dX5_aboutOf_83 ?_
  refine lv_iload_n hx hb dX5_aboutOf_86 rfl (lv_at hl 1 rfl) ?_
  refine iaK (v := (F 9 k)) hx hb hK hP 10 0 rfl rfl k (vp_in_nI (by omega) (by decide)) (nI_clamp (by omega)) rfl dX5_aboutOf_87 ?_
  refine lv_aload_n hx hb dX5_aboutOf_88 rfl (lv_at hl 0 rfl) ?_
  refine va_get (D := D) (ci := 5) (v := .ref (q 209)) (C := RX5) (T := TX5) (N := 21) hx hb hts (fun _ h => List.mem_cons_of_mem _ (List.mem_append_right _ h)) hown hK hP 0 rfl rfl 11 (by decide) (hts (.fieldLink RX5 38 "UnderPromiseModel" "failed" "[I") (List.mem_of_getElem? (i := 3) rfl)) (fun _ h9 => h9) rfl dX5_aboutOf_89 ?_
  refine lv_iload_n hx hb dX5_aboutOf_92 rfl (lv_at hl 1 rfl) ?_
  refine iaK (v := (F 8 k)) hx hb hK hP 9 0 rfl rfl k (vp_in_nI (by omega) (by decide)) (nI_clamp (by omega)) rfl dX5_aboutOf_93 ?_
  refine lv_isub hx hb dX5_aboutOf_94 ?_
  exact W.iret (v := ((F 9 k) - (F 8 k))) hx hb hr (fun t9 ht9 hW9 => ⟨((F 9 k) - (F 8 k)), rfl, (by first | with_reducible rfl | simp [sTell, w_1, w_2, w_3, w_4, w_5, w_6]), ht9⟩) (fun _ h => by cases h) dX5_aboutOf_95
set_option maxHeartbeats 4000000 in
set_option maxRecDepth 100000 in
/-- X5_about -/
theorem c_X5_about (l : Launch) (D : va_G) (cs : Nat → ClassId) (q : Nat → Nat) (F : Nat → Nat → Int32) (n c : Nat) (g : Int32) (up lo : Int64) (x : Int32) (w : Int32) (hI : Inv F n c) : Met l yX5_about wsX5_about ({ frames := 1, cells := 0, slots := 0, locals := 25 }) (va_Pc [.ref (q 200), .int x, .int w] (pw D cs (mW q cs F n c g up lo))) (vp_Si (fun r => r = (aAbout F c x w))) 0 0 (fun _ => False) := by
  refine Met.ofW (cc := cX5_about) (maxL := 3) (ret := (some .int)) (by decide) rfl ?_
  intro p e s m args below meth c_ s₁ B hml hv
  obtain ⟨rfl, hP, hK, hN⟩ := hv
  have hx := B.exec
  have hb := B.bytes
  have hr := B.returns
  have hts := atoms_spec (ws := wsX5_about) B.pre
  have hown : s.vm.findClass RX5 = some m.cls := findClass_of_methodNamed B.named
  have hlocks := B.notSynchronized
  have hl := lv_entry ([.ref (q 200), .int x, .int w]) (n := 3) (Nat.le_of_ble_eq_true rfl)
  rw [lg_entry_eq]
  generalize (lg_sl ([.ref (q 200), .int x, .int w]) ++ List.replicate (3 - (lg_sl ([.ref (q 200), .int x, .int w])).length) Slot.unset).toArray = ls at hl ⊢
  have hl : lv_has ls 3 [(0, .ref (q 200)), (1, .int x), (2, .int w)] := hl
  have hn60 := hI.n60
  have hc100 := hI.c100
  refine lv_iload_n hx hb dX5_about_0 rfl (lv_at hl 1 rfl) ?_
  refine lv_if_lt (tgt := 16) hx hb dX5_about_1 (by decide) (fun c_1 => ?_) (fun c_1 => ?_)
  · have c_2 := i_lt c_1
    refine lv_bipush (v := (-2)) hx hb dX5_about_16 (by decide) ?_
    refine lv_goto (tgt := 39) hx hb dX5_about_18 (by decide) ?_
    exact W.iret (v := (-2)) hx hb hr (fun t9 ht9 hW9 => ⟨(-2), rfl, (by first | with_reducible rfl | simp [aAbout, c_1, c_2]), ht9⟩) (fun _ h => by cases h) dX5_about_39
  · have c_3 := i_nlt c_1
    refine lv_iload_n hx hb dX5_about_4 rfl (lv_at hl 2 rfl) ?_
    refine lv_i2l (v := (Int32.toInt64 w)) hx hb dX5_about_5 rfl ?_
    refine lv_lconst (v := 0) hx hb dX5_about_6 (by decide) ?_
    refine lv_ldc2 (v := 6) hx hb hown (hts (.constantLong RX5 117 (6)) (List.mem_of_getElem? (i := 1) rfl)) dX5_about_7 ?_
    refine roSi (As := [.long (Int32.toInt64 w), .long 0, .long 6]) (rest := []) (v := (bI (rg w 0 6))) ⟨hx, hb, hml, hown, hts⟩ (c_X5_in l w 0 6 0 6 (by decide) (by decide)) (va_cwS 3 hts gX5_about_X5_in rfl rfl rfl (by decide +kernel) ⟨Nat.le_of_ble_eq_true rfl, Nat.le_of_ble_eq_true rfl⟩) rfl hl.1 rfl (Nat.le_of_ble_eq_true rfl) dX5_about_10 ⟨Nat.zero_le _, Nat.zero_le _⟩ ?_
    refine lv_if_ne (tgt := 21) hx hb dX5_about_13 (by decide) (fun c_4 => ?_) (fun c_4 => ?_)
    · have b_5 : (rg w 0 6) = true := bI_t c_4
      refine lv_iload_n hx hb dX5_about_21 rfl (lv_at hl 1 rfl) ?_
      refine lv_aload_n hx hb dX5_about_22 rfl (lv_at hl 0 rfl) ?_
      refine va_get (D := D) (ci := 5) (v := .int (nI c)) (C := RX5) (T := TX5) (N := 21) hx hb hts (fun _ h => List.mem_cons_of_mem _ (List.mem_append_right _ h)) hown hK hP 0 rfl rfl 8 (by decide) (hts (.fieldLink RX5 102 "UnderPromiseModel" "claims" "I") (List.mem_of_getElem? (i := 2) rfl)) (fun _ h9 => h9) rfl dX5_about_23 ?_
      refine lv_icmp_lt (tgt := 33) hx hb dX5_about_26 (by decide) (fun c_6 => ?_) (fun c_6 => ?_)
      · have c_7 := i_lt c_6
        obtain ⟨k, hk, rfl⟩ := lt_nat (by omega) c_1 c_6
        have x_8 : ix (nI k) = k := nI_clamp (by omega)
        refine lv_aload_n hx hb dX5_about_33 rfl (lv_at hl 0 rfl) ?_
        refine lv_iload_n hx hb dX5_about_34 rfl (lv_at hl 1 rfl) ?_
        refine lv_iload_n hx hb dX5_about_35 rfl (lv_at hl 2 rfl) ?_
        refine roVi (As := [.int (nI k), .int w]) (rest := []) (v := (sTell F k w)) ⟨hx, hb, hml, hown, hts⟩ (c_X5_aboutOf l D cs q F n c g up lo k w hI (by omega)) (cwV 2 hts gX5_about_X5_aboutOf rfl rfl rfl (by decide +kernel) ⟨Nat.le_of_ble_eq_true rfl, Nat.le_of_ble_eq_true rfl⟩) hP hK hN 0 rfl rfl rfl hl.1 rfl (Nat.le_of_ble_eq_true rfl) dX5_about_36 ⟨Nat.zero_le _, Nat.zero_le _⟩ ?_
        exact W.iret (v := (sTell F k w)) hx hb hr (fun t9 ht9 hW9 => ⟨(sTell F k w), rfl, (by first | with_reducible rfl | simp [aAbout, c_1, c_3, b_5, c_6, c_7, x_8]), ht9⟩) (fun _ h => by cases h) dX5_about_39
      · have c_9 := i_nlt c_6
        refine lv_iconst (v := (-1)) hx hb dX5_about_29 (by decide) ?_
        refine lv_goto (tgt := 39) hx hb dX5_about_30 (by decide) ?_
        exact W.iret (v := (-1)) hx hb hr (fun t9 ht9 hW9 => ⟨(-1), rfl, (by first | with_reducible rfl | simp [aAbout, c_1, c_3, b_5, c_6, c_9]), ht9⟩) (fun _ h => by cases h) dX5_about_39
    · have b_10 : (rg w 0 6) = false := bI_f c_4
      refine lv_bipush (v := (-2)) hx hb dX5_about_16 (by decide) ?_
      refine lv_goto (tgt := 39) hx hb dX5_about_18 (by decide) ?_
      exact W.iret (v := (-2)) hx hb hr (fun t9 ht9 hW9 => ⟨(-2), rfl, (by first | with_reducible rfl | simp [aAbout, c_1, c_3, b_10]), ht9⟩) (fun _ h => by cases h) dX5_about_39
set_option maxHeartbeats 4000000 in
set_option maxRecDepth 100000 in
/-- X5_counts -/
theorem c_X5_counts (l : Launch) (D : va_G) (cs : Nat → ClassId) (q : Nat → Nat) (F : Nat → Nat → Int32) (n c : Nat) (g : Int32) (up lo : Int64) (k : Nat) (mo : Int32) (hI : Inv F n c) (hk : k < c) : Met l yX5_counts wsX5_counts ({ frames := 0, cells := 0, slots := 0, locals := 0 }) (va_Pc [.ref (q 200), .int (nI k), .int mo] (pw D cs (mW q cs F n c g up lo))) (vp_Si (fun r => r = (bI (sLetBy F mo k)))) 0 0 (fun _ => False) := by
  refine Met.ofW (cc := cX5_counts) (maxL := 3) (ret := (some .boolean)) (by decide) rfl ?_
  intro p e s m args below meth c_ s₁ B hml hv
  obtain ⟨rfl, hP, hK, hN⟩ := hv
  have hx := B.exec
  have hb := B.bytes
  have hr := B.returns
  have hts := atoms_spec (ws := wsX5_counts) B.pre
  have hown : s.vm.findClass RX5 = some m.cls := findClass_of_methodNamed B.named
  have hlocks := B.notSynchronized
  have hl := lv_entry ([.ref (q 200), .int (nI k), .int mo]) (n := 3) (Nat.le_of_ble_eq_true rfl)
  rw [lg_entry_eq]
  generalize (lg_sl ([.ref (q 200), .int (nI k), .int mo]) ++ List.replicate (3 - (lg_sl ([.ref (q 200), .int (nI k), .int mo])).length) Slot.unset).toArray = ls at hl ⊢
  have hl : lv_has ls 3 [(0, .ref (q 200)), (1, .int (nI k)), (2, .int mo)] := hl
  have hn60 := hI.n60
  have hc100 := hI.c100
  refine lv_aload_n hx hb dX5_counts_0 rfl (lv_at hl 0 rfl) ?_
  refine va_get (D := D) (ci := 5) (v := .ref (q 212)) (C := RX5) (T := TX5) (N := 21) hx hb hts (fun _ h => List.mem_cons_of_mem _ (List.mem_append_right _ h)) hown hK hP 0 rfl rfl 14 (by decide) (hts (.fieldLink RX5 47 "UnderPromiseModel" "judged" "[I") (List.mem_of_getElem? (i := 1) rfl)) (fun _ h9 => h9) rfl dX5_counts_1 ?_
  refine lv_iload_n hx hb dX5_counts_4 rfl (lv_at hl 1 rfl) ?_
  refine iaK (v := (F 11 k)) hx hb hK hP 12 0 rfl rfl k (vp_in_nI (by omega) (by decide)) (nI_clamp (by omega)) rfl dX5_counts_5 ?_
  refine lv_if_ne (tgt := 23) hx hb dX5_counts_6 (by decide) (fun c_1 => ?_) (fun c_1 => ?_)
  · refine lv_iconst (v := 0) hx hb dX5_counts_23 (by decide) ?_
    exact W.zret (v := 0) hx hb hr rfl (fun t9 ht9 hW9 => ⟨0, rfl, (by first | with_reducible rfl | simp [rg, bI, sLetBy, c_1]), ht9⟩) (fun _ h => by cases h) dX5_counts_24
  · refine lv_aload_n hx hb dX5_counts_9 rfl (lv_at hl 0 rfl) ?_
    refine va_get (D := D) (ci := 5) (v := .ref (q 210)) (C := RX5) (T := TX5) (N := 21) hx hb hts (fun _ h => List.mem_cons_of_mem _ (List.mem_append_right _ h)) hown hK hP 0 rfl rfl 12 (by decide) (hts (.fieldLink RX5 41 "UnderPromiseModel" "toldIn" "[I") (List.mem_of_getElem? (i := 2) rfl)) (fun _ h9 => h9) rfl dX5_counts_10 ?_
    refine lv_iload_n hx hb dX5_counts_13 rfl (lv_at hl 1 rfl) ?_
    refine iaK (v := (F 9 k)) hx hb hK hP 10 0 rfl rfl k (vp_in_nI (by omega) (by decide)) (nI_clamp (by omega)) rfl dX5_counts_14 ?_
    refine lv_iload_n hx hb dX5_counts_15 rfl (lv_at hl 2 rfl) ?_
    refine lv_icmp_gt (tgt := 23) hx hb dX5_counts_16 (by decide) (fun c_2 => ?_) (fun c_2 => ?_)
    · have c_3 := i_lt c_2
      refine lv_iconst (v := 0) hx hb dX5_counts_23 (by decide) ?_
      exact W.zret (v := 0) hx hb hr rfl (fun t9 ht9 hW9 => ⟨0, rfl, (by first | with_reducible rfl | simp [rg, bI, sLetBy, c_1, c_2, c_3]), ht9⟩) (fun _ h => by cases h) dX5_counts_24
    · have c_4 := i_nlt c_2
      refine lv_iconst (v := 1) hx hb dX5_counts_19 (by decide) ?_
      refine lv_goto (tgt := 24) hx hb dX5_counts_20 (by decide) ?_
      exact W.zret (v := 1) hx hb hr rfl (fun t9 ht9 hW9 => ⟨1, rfl, (by first | with_reducible rfl | simp [rg, bI, sLetBy, c_1, c_2, c_4]), ht9⟩) (fun _ h => by cases h) dX5_counts_24
set_option maxHeartbeats 4000000 in
set_option maxRecDepth 100000 in
/-- X5_table -/
theorem c_X5_table (l : Launch) (D : va_G) (cs : Nat → ClassId) (q : Nat → Nat) (F : Nat → Nat → Int32) (n c : Nat) (g : Int32) (up lo : Int64) (s0 : Int32) (a : Int32) (mo : Int32) (hI : Inv F n c) : Met l yX5_table wsX5_table ({ frames := 2, cells := 0, slots := 0, locals := 45 }) (va_Pc [.ref (q 200), .int s0, .int a, .int mo] (pw D cs (mW q cs F n c g up lo))) (vp_Si (fun r => r = (r3 (rg s0 0 119) (rg a 0 300) (rg mo 0 300) (ctI (sTabM F s0 a mo) c)))) 0 0 (fun _ => False) := by
  refine Met.ofW (cc := cX5_table) (maxL := 6) (ret := (some .int)) (by decide) rfl ?_
  intro p e s m args below meth c_ s₁ B hml hv
  obtain ⟨rfl, hP, hK, hN⟩ := hv
  have hx := B.exec
  have hb := B.bytes
  have hr := B.returns
  have hts := atoms_spec (ws := wsX5_table) B.pre
  have hown : s.vm.findClass RX5 = some m.cls := findClass_of_methodNamed B.named
  have hlocks := B.notSynchronized
  have hl := lv_entry ([.ref (q 200), .int s0, .int a, .int mo]) (n := 6) (Nat.le_of_ble_eq_true rfl)
  rw [lg_entry_eq]
  generalize (lg_sl ([.ref (q 200), .int s0, .int a, .int mo]) ++ List.replicate (6 - (lg_sl ([.ref (q 200), .int s0, .int a, .int mo])).length) Slot.unset).toArray = ls at hl ⊢
  have hl : lv_has ls 6 [(0, .ref (q 200)), (1, .int s0), (2, .int a), (3, .int mo)] := hl
  have hn60 := hI.n60
  have hc100 := hI.c100
  refine lv_iload_n hx hb dX5_table_0 rfl (lv_at hl 1 rfl) ?_
  refine lv_i2l (v := (Int32.toInt64 s0)) hx hb dX5_table_1 rfl ?_
  refine lv_lconst (v := 0) hx hb dX5_table_2 (by decide) ?_
  refine lv_ldc2 (v := 119) hx hb hown (hts (.constantLong RX5 75 (119)) (List.mem_of_getElem? (i := 1) rfl)) dX5_table_3 ?_
  refine roSi (As := [.long (Int32.toInt64 s0), .long 0, .long 119]) (rest := []) (v := (bI (rg s0 0 119))) ⟨hx, hb, hml, hown, hts⟩ (c_X5_in l s0 0 119 0 119 (by decide) (by decide)) (va_cwS 3 hts gX5_table_X5_in rfl rfl rfl (by decide +kernel) ⟨Nat.le_of_ble_eq_true rfl, Nat.le_of_ble_eq_true rfl⟩) rfl hl.1 rfl (Nat.le_of_ble_eq_true rfl) dX5_table_6 ⟨Nat.zero_le _, Nat.zero_le _⟩ ?_
  refine lv_if_eq (tgt := 26) hx hb dX5_table_9 (by decide) (fun c_1 => ?_) (fun c_1 => ?_)
  · have b_2 : (rg s0 0 119) = false := bI_f c_1
    refine lv_bipush (v := (-2)) hx hb dX5_table_26 (by decide) ?_
    exact W.iret (v := (-2)) hx hb hr (fun t9 ht9 hW9 => ⟨(-2), rfl, (by first | with_reducible rfl | simp [sTabM, r3, b_2]), ht9⟩) (fun _ h => by cases h) dX5_table_28
  · have b_3 : (rg s0 0 119) = true := bI_t c_1
    refine lv_iload_n hx hb dX5_table_12 rfl (lv_at hl 2 rfl) ?_
    refine roSi (As := [.int a]) (rest := []) (v := (bI (rg a 0 300))) ⟨hx, hb, hml, hown, hts⟩ (c_X5_isMonth l a) (va_cwS 1 hts gX5_table_X5_isMonth rfl rfl rfl (by decide +kernel) ⟨Nat.le_of_ble_eq_true rfl, Nat.le_of_ble_eq_true rfl⟩) rfl hl.1 rfl (Nat.le_of_ble_eq_true rfl) dX5_table_13 ⟨Nat.zero_le _, Nat.zero_le _⟩ ?_
    refine lv_if_eq (tgt := 26) hx hb dX5_table_16 (by decide) (fun c_4 => ?_) (fun c_4 => ?_)
    · have b_5 : (rg a 0 300) = false := bI_f c_4
      refine lv_bipush (v := (-2)) hx hb dX5_table_26 (by decide) ?_
      exact W.iret (v := (-2)) hx hb hr (fun t9 ht9 hW9 => ⟨(-2), rfl, (by first | with_reducible rfl | simp [sTabM, r3, b_3, b_5]), ht9⟩) (fun _ h => by cases h) dX5_table_28
    · have b_6 : (rg a 0 300) = true := bI_t c_4
      refine lv_iload_n hx hb dX5_table_19 rfl (lv_at hl 3 rfl) ?_
      refine roSi (As := [.int mo]) (rest := []) (v := (bI (rg mo 0 300))) ⟨hx, hb, hml, hown, hts⟩ (c_X5_isMonth l mo) (va_cwS 1 hts gX5_table_X5_isMonth rfl rfl rfl (by decide +kernel) ⟨Nat.le_of_ble_eq_true rfl, Nat.le_of_ble_eq_true rfl⟩) rfl hl.1 rfl (Nat.le_of_ble_eq_true rfl) dX5_table_20 ⟨Nat.zero_le _, Nat.zero_le _⟩ ?_
      refine lv_if_ne (tgt := 29) hx hb dX5_table_23 (by decide) (fun c_7 => ?_) (fun c_7 => ?_)
      · have b_8 : (rg mo 0 300) = true := bI_t c_7
        refine lv_iconst (v := 0) hx hb dX5_table_29 (by decide) ?_
        refine lv_istore (lv' := [(4, .int 0), (0, .ref (q 200)), (1, .int s0), (2, .int a), (3, .int mo)]) hx hb dX5_table_30 hl (by decide) rfl (fun ls hl => ?_)
        refine lv_iconst (v := 0) hx hb dX5_table_32 (by decide) ?_
        refine lv_istore (lv' := [(5, .int 0), (4, .int 0), (0, .ref (q 200)), (1, .int s0), (2, .int a), (3, .int mo)]) hx hb dX5_table_33 hl (by decide) rfl (fun ls hl => ?_)
        refine lpW (fun k ls => lv_has ls 6 [(0, .ref (q 200)), (1, .int s0), (2, .int a), (3, .int mo), (4, .int (ctI (sTabM F s0 a mo) k)), (5, .int (nI k))]) c 0 (Nat.zero_le _) ls (show lv_has ls 6 [(0, .ref (q 200)), (1, .int s0), (2, .int a), (3, .int mo), (4, .int (ctI (sTabM F s0 a mo) 0)), (5, .int (nI 0))] from lv_sub hl [2, 3, 4, 5, 1, 0] rfl) ?_ ?_
        · intro ls hl
          have hl : lv_has ls 6 [(0, .ref (q 200)), (1, .int s0), (2, .int a), (3, .int mo), (4, .int (ctI (sTabM F s0 a mo) c)), (5, .int (nI c))] := hl
          refine lv_iload hx hb dX5_table_35 (lv_at hl 5 rfl) ?_
          refine lv_aload_n hx hb dX5_table_37 rfl (lv_at hl 0 rfl) ?_
          refine va_get (D := D) (ci := 5) (v := .int (nI c)) (C := RX5) (T := TX5) (N := 21) hx hb hts (fun _ h => List.mem_cons_of_mem _ (List.mem_append_right _ h)) hown hK hP 0 rfl rfl 8 (by decide) (hts (.fieldLink RX5 102 "UnderPromiseModel" "claims" "I") (List.mem_of_getElem? (i := 2) rfl)) (fun _ h9 => h9) rfl dX5_table_38 ?_
          refine lv_icmp_ge (tgt := 99) hx hb dX5_table_41 (by decide) (fun c_9 => ?_) (fun c_9 => ?_)
          · have c_10 := i_le c_9
            refine lv_iload hx hb dX5_table_99 (lv_at hl 4 rfl) ?_
            exact W.iret (v := (ctI (sTabM F s0 a mo) c)) hx hb hr (fun t9 ht9 hW9 => ⟨(ctI (sTabM F s0 a mo) c), rfl, (by first | with_reducible rfl | simp [sTabM, r3, b_3, b_6, b_8, c_9, c_10]), ht9⟩) (fun _ h => by cases h) dX5_table_101
          · exact absurd (nI_le (Nat.le_refl _) (by omega)) c_9
        · intro k hk0 hk ih ls hl
          have hl : lv_has ls 6 [(0, .ref (q 200)), (1, .int s0), (2, .int a), (3, .int mo), (4, .int (ctI (sTabM F s0 a mo) k)), (5, .int (nI k))] := hl
          refine lv_iload hx hb dX5_table_35 (lv_at hl 5 rfl) ?_
          refine lv_aload_n hx hb dX5_table_37 rfl (lv_at hl 0 rfl) ?_
          refine va_get (D := D) (ci := 5) (v := .int (nI c)) (C := RX5) (T := TX5) (N := 21) hx hb hts (fun _ h => List.mem_cons_of_mem _ (List.mem_append_right _ h)) hown hK hP 0 rfl rfl 8 (by decide) (hts (.fieldLink RX5 102 "UnderPromiseModel" "claims" "I") (List.mem_of_getElem? (i := 2) rfl)) (fun _ h9 => h9) rfl dX5_table_38 ?_
          refine lv_icmp_ge (tgt := 99) hx hb dX5_table_41 (by decide) (fun c_11 => ?_) (fun c_11 => ?_)
          · exact absurd c_11 (nI_ge hk (by omega))
          · have c_12 := i_nle c_11
            refine lv_iload hx hb dX5_table_44 (lv_at hl 4 rfl) ?_
            refine lv_aload_n hx hb dX5_table_46 rfl (lv_at hl 0 rfl) ?_
            refine lv_iload hx hb dX5_table_47 (lv_at hl 5 rfl) ?_
            refine lv_iload_n hx hb dX5_table_49 rfl (lv_at hl 3 rfl) ?_
            refine roVi (As := [.int (nI k), .int mo]) (rest := [.int (ctI (sTabM F s0 a mo) k)]) (v := (bI (sLetBy F mo k))) ⟨hx, hb, hml, hown, hts⟩ (c_X5_counts l D cs q F n c g up lo k mo hI (by omega)) (cwV 2 hts gX5_table_X5_counts rfl rfl rfl (by decide +kernel) ⟨Nat.le_of_ble_eq_true rfl, Nat.le_of_ble_eq_true rfl⟩) hP hK hN 0 rfl rfl rfl hl.1 rfl (Nat.le_of_ble_eq_true rfl) dX5_table_50 ⟨Nat.zero_le _, Nat.zero_le _⟩ ?_
            refine lv_if_eq (tgt := 89) hx hb dX5_table_53 (by decide) (fun c_13 => ?_) (fun c_13 => ?_)
            · have b_14 : (sLetBy F mo k) = false := bI_f c_13
              refine lv_iconst (v := 0) hx hb dX5_table_89 (by decide) ?_
              refine lv_iadd hx hb dX5_table_90 ?_
              refine lv_istore (lv' := [(4, .int ((ctI (sTabM F s0 a mo) k) + 0)), (0, .ref (q 200)), (1, .int s0), (2, .int a), (3, .int mo), (5, .int (nI k))]) hx hb dX5_table_91 hl (by decide) rfl (fun ls hl => ?_)
              refine lv_iinc (v := ((nI k) + 1)) (lv' := [(5, .int ((nI k) + 1)), (4, .int ((ctI (sTabM F s0 a mo) k) + 0)), (0, .ref (q 200)), (1, .int s0), (2, .int a), (3, .int mo)]) hx hb dX5_table_93 hl (k := 5) rfl rfl (by decide) rfl (fun ls hl => ?_)
              refine lv_goto (tgt := 35) hx hb dX5_table_96 (by decide) ?_
              have h_15 : ((ctI (sTabM F s0 a mo) k) + 0) = (ctI (sTabM F s0 a mo) (k + 1)) := (by first | with_reducible rfl | simp [ctI, sTabM, r3, b_3, b_6, b_8, c_11, c_12, b_14])
              have h_16 : ((nI k) + 1) = (nI (k + 1)) := (nI_1 _)
              exact ih _ (lv_cast (lv_sub (l' := [(0, .ref (q 200)), (1, .int s0), (2, .int a), (3, .int mo), (4, .int ((ctI (sTabM F s0 a mo) k) + 0)), (5, .int ((nI k) + 1))]) hl [2, 3, 4, 5, 1, 0] rfl) (cg2 (fun z15 z16 => [(0, .ref (q 200)), (1, .int s0), (2, .int a), (3, .int mo), (4, .int z15), (5, .int z16)]) h_15 h_16))
            · have b_17 : (sLetBy F mo k) = true := bI_t c_13
              refine lv_aload_n hx hb dX5_table_56 rfl (lv_at hl 0 rfl) ?_
              refine va_get (D := D) (ci := 5) (v := .ref (q 204)) (C := RX5) (T := TX5) (N := 21) hx hb hts (fun _ h => List.mem_cons_of_mem _ (List.mem_append_right _ h)) hown hK hP 0 rfl rfl 4 (by decide) (hts (.fieldLink RX5 19 "UnderPromiseModel" "soldIn" "[I") (List.mem_of_getElem? (i := 3) rfl)) (fun _ h9 => h9) rfl dX5_table_57 ?_
              refine lv_aload_n hx hb dX5_table_60 rfl (lv_at hl 0 rfl) ?_
              refine va_get (D := D) (ci := 5) (v := .ref (q 207)) (C := RX5) (T := TX5) (N := 21) hx hb hts (fun _ h => List.mem_cons_of_mem _ (List.mem_append_right _ h)) hown hK hP 0 rfl rfl 9 (by decide) (hts (.fieldLink RX5 32 "UnderPromiseModel" "ofThing" "[I") (List.mem_of_getElem? (i := 4) rfl)) (fun _ h9 => h9) rfl dX5_table_61 ?_
              refine lv_iload hx hb dX5_table_64 (lv_at hl 5 rfl) ?_
              refine iaK (v := (F 6 k)) hx hb hK hP 7 0 rfl rfl k (vp_in_nI (by omega) (by decide)) (nI_clamp (by omega)) rfl dX5_table_66 ?_
              refine iaK (v := (F 1 (ix (F 6 k)))) hx hb hK hP 4 0 rfl rfl (ix (F 6 k)) (hI.ctV (by omega)) rfl rfl dX5_table_67 ?_
              refine lv_iload_n hx hb dX5_table_68 rfl (lv_at hl 1 rfl) ?_
              refine lv_icmp_ne (tgt := 89) hx hb dX5_table_69 (by decide) (fun c_18 => ?_) (fun c_18 => ?_)
              · refine lv_iconst (v := 0) hx hb dX5_table_89 (by decide) ?_
                refine lv_iadd hx hb dX5_table_90 ?_
                refine lv_istore (lv' := [(4, .int ((ctI (sTabM F s0 a mo) k) + 0)), (0, .ref (q 200)), (1, .int s0), (2, .int a), (3, .int mo), (5, .int (nI k))]) hx hb dX5_table_91 hl (by decide) rfl (fun ls hl => ?_)
                refine lv_iinc (v := ((nI k) + 1)) (lv' := [(5, .int ((nI k) + 1)), (4, .int ((ctI (sTabM F s0 a mo) k) + 0)), (0, .ref (q 200)), (1, .int s0), (2, .int a), (3, .int mo)]) hx hb dX5_table_93 hl (k := 5) rfl rfl (by decide) rfl (fun ls hl => ?_)
                refine lv_goto (tgt := 35) hx hb dX5_table_96 (by decide) ?_
                have h_19 : ((ctI (sTabM F s0 a mo) k) + 0) = (ctI (sTabM F s0 a mo) (k + 1)) := (by first | with_reducible rfl | simp [ctI, sTabM, r3, b_3, b_6, b_8, c_11, c_12, b_17, c_18])
                have h_20 : ((nI k) + 1) = (nI (k + 1)) := (nI_1 _)
                exact ih _ (lv_cast (lv_sub (l' := [(0, .ref (q 200)), (1, .int s0), (2, .int a), (3, .int mo), (4, .int ((ctI (sTabM F s0 a mo) k) + 0)), (5, .int ((nI k) + 1))]) hl [2, 3, 4, 5, 1, 0] rfl) (cg2 (fun z19 z20 => [(0, .ref (q 200)), (1, .int s0), (2, .int a), (3, .int mo), (4, .int z19), (5, .int z20)]) h_19 h_20))
              · refine lv_aload_n hx hb dX5_table_72 rfl (lv_at hl 0 rfl) ?_
                refine va_get (D := D) (ci := 5) (v := .ref (q 209)) (C := RX5) (T := TX5) (N := 21) hx hb hts (fun _ h => List.mem_cons_of_mem _ (List.mem_append_right _ h)) hown hK hP 0 rfl rfl 11 (by decide) (hts (.fieldLink RX5 38 "UnderPromiseModel" "failed" "[I") (List.mem_of_getElem? (i := 5) rfl)) (fun _ h9 => h9) rfl dX5_table_73 ?_
                refine lv_iload hx hb dX5_table_76 (lv_at hl 5 rfl) ?_
                refine iaK (v := (F 8 k)) hx hb hK hP 9 0 rfl rfl k (vp_in_nI (by omega) (by decide)) (nI_clamp (by omega)) rfl dX5_table_78 ?_
                refine lv_iload_n hx hb dX5_table_79 rfl (lv_at hl 1 rfl) ?_
                refine lv_iload_n hx hb dX5_table_80 rfl (lv_at hl 2 rfl) ?_
                refine lv_iadd hx hb dX5_table_81 ?_
                refine lv_icmp_ne (tgt := 89) hx hb dX5_table_82 (by decide) (fun c_21 => ?_) (fun c_21 => ?_)
                · refine lv_iconst (v := 0) hx hb dX5_table_89 (by decide) ?_
                  refine lv_iadd hx hb dX5_table_90 ?_
                  refine lv_istore (lv' := [(4, .int ((ctI (sTabM F s0 a mo) k) + 0)), (0, .ref (q 200)), (1, .int s0), (2, .int a), (3, .int mo), (5, .int (nI k))]) hx hb dX5_table_91 hl (by decide) rfl (fun ls hl => ?_)
                  refine lv_iinc (v := ((nI k) + 1)) (lv' := [(5, .int ((nI k) + 1)), (4, .int ((ctI (sTabM F s0 a mo) k) + 0)), (0, .ref (q 200)), (1, .int s0), (2, .int a), (3, .int mo)]) hx hb dX5_table_93 hl (k := 5) rfl rfl (by decide) rfl (fun ls hl => ?_)
                  refine lv_goto (tgt := 35) hx hb dX5_table_96 (by decide) ?_
                  have h_22 : ((ctI (sTabM F s0 a mo) k) + 0) = (ctI (sTabM F s0 a mo) (k + 1)) := (by first | with_reducible rfl | simp [ctI, sTabM, r3, b_3, b_6, b_8, c_11, c_12, b_17, c_18, c_21])
                  have h_23 : ((nI k) + 1) = (nI (k + 1)) := (nI_1 _)
                  exact ih _ (lv_cast (lv_sub (l' := [(0, .ref (q 200)), (1, .int s0), (2, .int a), (3, .int mo), (4, .int ((ctI (sTabM F s0 a mo) k) + 0)), (5, .int ((nI k) + 1))]) hl [2, 3, 4, 5, 1, 0] rfl) (cg2 (fun z22 z23 => [(0, .ref (q 200)), (1, .int s0), (2, .int a), (3, .int mo), (4, .int z22), (5, .int z23)]) h_22 h_23))
                · refine lv_iconst (v := 1) hx hb dX5_table_85 (by decide) ?_
                  refine lv_goto (tgt := 90) hx hb dX5_table_86 (by decide) ?_
                  refine lv_iadd hx hb dX5_table_90 ?_
                  refine lv_istore (lv' := [(4, .int ((ctI (sTabM F s0 a mo) k) + 1)), (0, .ref (q 200)), (1, .int s0), (2, .int a), (3, .int mo), (5, .int (nI k))]) hx hb dX5_table_91 hl (by decide) rfl (fun ls hl => ?_)
                  refine lv_iinc (v := ((nI k) + 1)) (lv' := [(5, .int ((nI k) + 1)), (4, .int ((ctI (sTabM F s0 a mo) k) + 1)), (0, .ref (q 200)), (1, .int s0), (2, .int a), (3, .int mo)]) hx hb dX5_table_93 hl (k := 5) rfl rfl (by decide) rfl (fun ls hl => ?_)
                  refine lv_goto (tgt := 35) hx hb dX5_table_96 (by decide) ?_
                  have h_24 : ((ctI (sTabM F s0 a mo) k) + 1) = (ctI (sTabM F s0 a mo) (k + 1)) := (by first | with_reducible rfl | simp [ctI, sTabM, r3, b_3, b_6, b_8, c_11, c_12, b_17, c_18, c_21])
                  have h_25 : ((nI k) + 1) = (nI (k + 1)) := (nI_1 _)
                  exact ih _ (lv_cast (lv_sub (l' := [(0, .ref (q 200)), (1, .int s0), (2, .int a), (3, .int mo), (4, .int ((ctI (sTabM F s0 a mo) k) + 1)), (5, .int ((nI k) + 1))]) hl [2, 3, 4, 5, 1, 0] rfl) (cg2 (fun z24 z25 => [(0, .ref (q 200)), (1, .int s0), (2, .int a), (3, .int mo), (4, .int z24), (5, .int z25)]) h_24 h_25))
      · have b_26 : (rg mo 0 300) = false := bI_f c_7
        refine lv_bipush (v := (-2)) hx hb dX5_table_26 (by decide) ?_
        exact W.iret (v := (-2)) hx hb hr (fun t9 ht9 hW9 => ⟨(-2), rfl, (by first | with_reducible rfl | simp [sTabM, r3, b_3, b_6, b_26]), ht9⟩) (fun _ h => by cases h) dX5_table_28
set_option maxHeartbeats 4000000 in
set_option maxRecDepth 100000 in
/-- X5_exposedAt -/
theorem c_X5_exposedAt (l : Launch) (D : va_G) (cs : Nat → ClassId) (q : Nat → Nat) (F : Nat → Nat → Int32) (n c : Nat) (g : Int32) (up lo : Int64) (a : Int32) (mo : Int32) (hI : Inv F n c) : Met l yX5_exposedAt wsX5_exposedAt ({ frames := 1, cells := 0, slots := 0, locals := 23 }) (va_Pc [.ref (q 200), .int a, .int mo] (pw D cs (mW q cs F n c g up lo))) (vp_Si (fun r => r = (ctI (sExp F a mo) n))) 0 0 (fun _ => False) := by
  refine Met.ofW (cc := cX5_exposedAt) (maxL := 5) (ret := (some .int)) (by decide) rfl ?_
  intro p e s m args below meth c_ s₁ B hml hv
  obtain ⟨rfl, hP, hK, hN⟩ := hv
  have hx := B.exec
  have hb := B.bytes
  have hr := B.returns
  have hts := atoms_spec (ws := wsX5_exposedAt) B.pre
  have hown : s.vm.findClass RX5 = some m.cls := findClass_of_methodNamed B.named
  have hlocks := B.notSynchronized
  have hl := lv_entry ([.ref (q 200), .int a, .int mo]) (n := 5) (Nat.le_of_ble_eq_true rfl)
  rw [lg_entry_eq]
  generalize (lg_sl ([.ref (q 200), .int a, .int mo]) ++ List.replicate (5 - (lg_sl ([.ref (q 200), .int a, .int mo])).length) Slot.unset).toArray = ls at hl ⊢
  have hl : lv_has ls 5 [(0, .ref (q 200)), (1, .int a), (2, .int mo)] := hl
  have hn60 := hI.n60
  have hc100 := hI.c100
  refine lv_iconst (v := 0) hx hb dX5_exposedAt_0 (by decide) ?_
  refine lv_istore_n (lv' := [(3, .int 0), (0, .ref (q 200)), (1, .int a), (2, .int mo)]) hx hb dX5_exposedAt_1 rfl hl (by decide) rfl (fun ls hl => ?_)
  refine lv_iconst (v := 0) hx hb dX5_exposedAt_2 (by decide) ?_
  refine lv_istore (lv' := [(4, .int 0), (3, .int 0), (0, .ref (q 200)), (1, .int a), (2, .int mo)]) hx hb dX5_exposedAt_3 hl (by decide) rfl (fun ls hl => ?_)
  refine lpW (fun k ls => lv_has ls 5 [(0, .ref (q 200)), (1, .int a), (2, .int mo), (3, .int (ctI (sExp F a mo) k)), (4, .int (nI k))]) n 0 (Nat.zero_le _) ls (show lv_has ls 5 [(0, .ref (q 200)), (1, .int a), (2, .int mo), (3, .int (ctI (sExp F a mo) 0)), (4, .int (nI 0))] from lv_sub hl [2, 3, 4, 1, 0] rfl) ?_ ?_
  · intro ls hl
    have hl : lv_has ls 5 [(0, .ref (q 200)), (1, .int a), (2, .int mo), (3, .int (ctI (sExp F a mo) n)), (4, .int (nI n))] := hl
    refine lv_iload hx hb dX5_exposedAt_5 (lv_at hl 4 rfl) ?_
    refine lv_aload_n hx hb dX5_exposedAt_7 rfl (lv_at hl 0 rfl) ?_
    refine va_get (D := D) (ci := 5) (v := .int (nI n)) (C := RX5) (T := TX5) (N := 21) hx hb hts (fun _ h => List.mem_cons_of_mem _ (List.mem_append_right _ h)) hown hK hP 0 rfl rfl 2 (by decide) (hts (.fieldLink RX5 70 "UnderPromiseModel" "things" "I") (List.mem_of_getElem? (i := 1) rfl)) (fun _ h9 => h9) rfl dX5_exposedAt_8 ?_
    refine lv_icmp_ge (tgt := 59) hx hb dX5_exposedAt_11 (by decide) (fun c_1 => ?_) (fun c_1 => ?_)
    · have c_2 := i_le c_1
      refine lv_iload_n hx hb dX5_exposedAt_59 rfl (lv_at hl 3 rfl) ?_
      exact W.iret (v := (ctI (sExp F a mo) n)) hx hb hr (fun t9 ht9 hW9 => ⟨(ctI (sExp F a mo) n), rfl, rfl, ht9⟩) (fun _ h => by cases h) dX5_exposedAt_60
    · exact absurd (nI_le (Nat.le_refl _) (by omega)) c_1
  · intro k hk0 hk ih ls hl
    have hl : lv_has ls 5 [(0, .ref (q 200)), (1, .int a), (2, .int mo), (3, .int (ctI (sExp F a mo) k)), (4, .int (nI k))] := hl
    refine lv_iload hx hb dX5_exposedAt_5 (lv_at hl 4 rfl) ?_
    refine lv_aload_n hx hb dX5_exposedAt_7 rfl (lv_at hl 0 rfl) ?_
    refine va_get (D := D) (ci := 5) (v := .int (nI n)) (C := RX5) (T := TX5) (N := 21) hx hb hts (fun _ h => List.mem_cons_of_mem _ (List.mem_append_right _ h)) hown hK hP 0 rfl rfl 2 (by decide) (hts (.fieldLink RX5 70 "UnderPromiseModel" "things" "I") (List.mem_of_getElem? (i := 1) rfl)) (fun _ h9 => h9) rfl dX5_exposedAt_8 ?_
    refine lv_icmp_ge (tgt := 59) hx hb dX5_exposedAt_11 (by decide) (fun c_3 => ?_) (fun c_3 => ?_)
    · exact absurd c_3 (nI_ge hk (by omega))
    · have c_4 := i_nle c_3
      refine lv_iload_n hx hb dX5_exposedAt_14 rfl (lv_at hl 3 rfl) ?_
      refine lv_aload_n hx hb dX5_exposedAt_15 rfl (lv_at hl 0 rfl) ?_
      refine va_get (D := D) (ci := 5) (v := .ref (q 204)) (C := RX5) (T := TX5) (N := 21) hx hb hts (fun _ h => List.mem_cons_of_mem _ (List.mem_append_right _ h)) hown hK hP 0 rfl rfl 4 (by decide) (hts (.fieldLink RX5 19 "UnderPromiseModel" "soldIn" "[I") (List.mem_of_getElem? (i := 2) rfl)) (fun _ h9 => h9) rfl dX5_exposedAt_16 ?_
      refine lv_iload hx hb dX5_exposedAt_19 (lv_at hl 4 rfl) ?_
      refine iaK (v := (F 1 k)) hx hb hK hP 4 0 rfl rfl k (vp_in_nI (by omega) (by decide)) (nI_clamp (by omega)) rfl dX5_exposedAt_21 ?_
      refine lv_iload_n hx hb dX5_exposedAt_22 rfl (lv_at hl 1 rfl) ?_
      refine lv_iadd hx hb dX5_exposedAt_23 ?_
      refine lv_iload_n hx hb dX5_exposedAt_24 rfl (lv_at hl 2 rfl) ?_
      refine lv_icmp_gt (tgt := 50) hx hb dX5_exposedAt_25 (by decide) (fun c_5 => ?_) (fun c_5 => ?_)
      · have c_6 := i_lt c_5
        refine lv_iconst (v := 0) hx hb dX5_exposedAt_50 (by decide) ?_
        refine lv_iadd hx hb dX5_exposedAt_51 ?_
        refine lv_istore_n (lv' := [(3, .int ((ctI (sExp F a mo) k) + 0)), (0, .ref (q 200)), (1, .int a), (2, .int mo), (4, .int (nI k))]) hx hb dX5_exposedAt_52 rfl hl (by decide) rfl (fun ls hl => ?_)
        refine lv_iinc (v := ((nI k) + 1)) (lv' := [(4, .int ((nI k) + 1)), (3, .int ((ctI (sExp F a mo) k) + 0)), (0, .ref (q 200)), (1, .int a), (2, .int mo)]) hx hb dX5_exposedAt_53 hl (k := 4) rfl rfl (by decide) rfl (fun ls hl => ?_)
        refine lv_goto (tgt := 5) hx hb dX5_exposedAt_56 (by decide) ?_
        have h_7 : ((ctI (sExp F a mo) k) + 0) = (ctI (sExp F a mo) (k + 1)) := (by first | with_reducible rfl | simp [ctI, sExp, c_3, c_4, c_5, c_6])
        have h_8 : ((nI k) + 1) = (nI (k + 1)) := (nI_1 _)
        exact ih _ (lv_cast (lv_sub (l' := [(0, .ref (q 200)), (1, .int a), (2, .int mo), (3, .int ((ctI (sExp F a mo) k) + 0)), (4, .int ((nI k) + 1))]) hl [2, 3, 4, 1, 0] rfl) (cg2 (fun z7 z8 => [(0, .ref (q 200)), (1, .int a), (2, .int mo), (3, .int z7), (4, .int z8)]) h_7 h_8))
      · have c_9 := i_nlt c_5
        refine lv_aload_n hx hb dX5_exposedAt_28 rfl (lv_at hl 0 rfl) ?_
        refine lv_iload hx hb dX5_exposedAt_29 (lv_at hl 4 rfl) ?_
        refine lv_aload_n hx hb dX5_exposedAt_31 rfl (lv_at hl 0 rfl) ?_
        refine va_get (D := D) (ci := 5) (v := .ref (q 204)) (C := RX5) (T := TX5) (N := 21) hx hb hts (fun _ h => List.mem_cons_of_mem _ (List.mem_append_right _ h)) hown hK hP 0 rfl rfl 4 (by decide) (hts (.fieldLink RX5 19 "UnderPromiseModel" "soldIn" "[I") (List.mem_of_getElem? (i := 2) rfl)) (fun _ h9 => h9) rfl dX5_exposedAt_32 ?_
        refine lv_iload hx hb dX5_exposedAt_35 (lv_at hl 4 rfl) ?_
        refine iaK (v := (F 1 k)) hx hb hK hP 4 0 rfl rfl k (vp_in_nI (by omega) (by decide)) (nI_clamp (by omega)) rfl dX5_exposedAt_37 ?_
        refine lv_iload_n hx hb dX5_exposedAt_38 rfl (lv_at hl 1 rfl) ?_
        refine lv_iadd hx hb dX5_exposedAt_39 ?_
        refine roVi (As := [.int (nI k), .int ((F 1 k) + a)]) (rest := [.int (ctI (sExp F a mo) k)]) (v := (bI (sProm F k ((F 1 k) + a)))) ⟨hx, hb, hml, hown, hts⟩ (c_X5_isPromised l D cs q F n c g up lo k ((F 1 k) + a) hI (by omega)) (cwV 2 hts gX5_exposedAt_X5_isPromised rfl rfl rfl (by decide +kernel) ⟨Nat.le_of_ble_eq_true rfl, Nat.le_of_ble_eq_true rfl⟩) hP hK hN 0 rfl rfl rfl hl.1 rfl (Nat.le_of_ble_eq_true rfl) dX5_exposedAt_40 ⟨Nat.zero_le _, Nat.zero_le _⟩ ?_
        refine lv_if_eq (tgt := 50) hx hb dX5_exposedAt_43 (by decide) (fun c_10 => ?_) (fun c_10 => ?_)
        · have b_11 : (sProm F k ((F 1 k) + a)) = false := bI_f c_10
          refine lv_iconst (v := 0) hx hb dX5_exposedAt_50 (by decide) ?_
          refine lv_iadd hx hb dX5_exposedAt_51 ?_
          refine lv_istore_n (lv' := [(3, .int ((ctI (sExp F a mo) k) + 0)), (0, .ref (q 200)), (1, .int a), (2, .int mo), (4, .int (nI k))]) hx hb dX5_exposedAt_52 rfl hl (by decide) rfl (fun ls hl => ?_)
          refine lv_iinc (v := ((nI k) + 1)) (lv' := [(4, .int ((nI k) + 1)), (3, .int ((ctI (sExp F a mo) k) + 0)), (0, .ref (q 200)), (1, .int a), (2, .int mo)]) hx hb dX5_exposedAt_53 hl (k := 4) rfl rfl (by decide) rfl (fun ls hl => ?_)
          refine lv_goto (tgt := 5) hx hb dX5_exposedAt_56 (by decide) ?_
          have h_12 : ((ctI (sExp F a mo) k) + 0) = (ctI (sExp F a mo) (k + 1)) := (by first | with_reducible rfl | simp [ctI, sExp, c_3, c_4, c_5, c_9, b_11])
          have h_13 : ((nI k) + 1) = (nI (k + 1)) := (nI_1 _)
          exact ih _ (lv_cast (lv_sub (l' := [(0, .ref (q 200)), (1, .int a), (2, .int mo), (3, .int ((ctI (sExp F a mo) k) + 0)), (4, .int ((nI k) + 1))]) hl [2, 3, 4, 1, 0] rfl) (cg2 (fun z12 z13 => [(0, .ref (q 200)), (1, .int a), (2, .int mo), (3, .int z12), (4, .int z13)]) h_12 h_13))
        · have b_14 : (sProm F k ((F 1 k) + a)) = true := bI_t c_10
          refine lv_iconst (v := 1) hx hb dX5_exposedAt_46 (by decide) ?_
          refine lv_goto (tgt := 51) hx hb dX5_exposedAt_47 (by decide) ?_
          refine lv_iadd hx hb dX5_exposedAt_51 ?_
          refine lv_istore_n (lv' := [(3, .int ((ctI (sExp F a mo) k) + 1)), (0, .ref (q 200)), (1, .int a), (2, .int mo), (4, .int (nI k))]) hx hb dX5_exposedAt_52 rfl hl (by decide) rfl (fun ls hl => ?_)
          refine lv_iinc (v := ((nI k) + 1)) (lv' := [(4, .int ((nI k) + 1)), (3, .int ((ctI (sExp F a mo) k) + 1)), (0, .ref (q 200)), (1, .int a), (2, .int mo)]) hx hb dX5_exposedAt_53 hl (k := 4) rfl rfl (by decide) rfl (fun ls hl => ?_)
          refine lv_goto (tgt := 5) hx hb dX5_exposedAt_56 (by decide) ?_
          have h_15 : ((ctI (sExp F a mo) k) + 1) = (ctI (sExp F a mo) (k + 1)) := (by first | with_reducible rfl | simp [ctI, sExp, c_3, c_4, c_5, c_9, b_14])
          have h_16 : ((nI k) + 1) = (nI (k + 1)) := (nI_1 _)
          exact ih _ (lv_cast (lv_sub (l' := [(0, .ref (q 200)), (1, .int a), (2, .int mo), (3, .int ((ctI (sExp F a mo) k) + 1)), (4, .int ((nI k) + 1))]) hl [2, 3, 4, 1, 0] rfl) (cg2 (fun z15 z16 => [(0, .ref (q 200)), (1, .int a), (2, .int mo), (3, .int z15), (4, .int z16)]) h_15 h_16))
set_option maxHeartbeats 4000000 in
set_option maxRecDepth 100000 in
/-- X5_exposed -/
theorem c_X5_exposed (l : Launch) (D : va_G) (cs : Nat → ClassId) (q : Nat → Nat) (F : Nat → Nat → Int32) (n c : Nat) (g : Int32) (up lo : Int64) (a : Int32) (mo : Int32) (hI : Inv F n c) : Met l yX5_exposed wsX5_exposed ({ frames := 2, cells := 0, slots := 0, locals := 47 }) (va_Pc [.ref (q 200), .int a, .int mo] (pw D cs (mW q cs F n c g up lo))) (vp_Si (fun r => r = (r2 (rg a 0 300) (rg mo 0 300) (ctI (sExp F a mo) n)))) 0 0 (fun _ => False) := by
  refine Met.ofW (cc := cX5_exposed) (maxL := 3) (ret := (some .int)) (by decide) rfl ?_
  intro p e s m args below meth c_ s₁ B hml hv
  obtain ⟨rfl, hP, hK, hN⟩ := hv
  have hx := B.exec
  have hb := B.bytes
  have hr := B.returns
  have hts := atoms_spec (ws := wsX5_exposed) B.pre
  have hown : s.vm.findClass RX5 = some m.cls := findClass_of_methodNamed B.named
  have hlocks := B.notSynchronized
  have hl := lv_entry ([.ref (q 200), .int a, .int mo]) (n := 3) (Nat.le_of_ble_eq_true rfl)
  rw [lg_entry_eq]
  generalize (lg_sl ([.ref (q 200), .int a, .int mo]) ++ List.replicate (3 - (lg_sl ([.ref (q 200), .int a, .int mo])).length) Slot.unset).toArray = ls at hl ⊢
  have hl : lv_has ls 3 [(0, .ref (q 200)), (1, .int a), (2, .int mo)] := hl
  have hn60 := hI.n60
  have hc100 := hI.c100
  refine lv_iload_n hx hb dX5_exposed_0 rfl (lv_at hl 1 rfl) ?_
  refine roSi (As := [.int a]) (rest := []) (v := (bI (rg a 0 300))) ⟨hx, hb, hml, hown, hts⟩ (c_X5_isMonth l a) (va_cwS 1 hts gX5_exposed_X5_isMonth rfl rfl rfl (by decide +kernel) ⟨Nat.le_of_ble_eq_true rfl, Nat.le_of_ble_eq_true rfl⟩) rfl hl.1 rfl (Nat.le_of_ble_eq_true rfl) dX5_exposed_1 ⟨Nat.zero_le _, Nat.zero_le _⟩ ?_
  refine lv_if_eq (tgt := 14) hx hb dX5_exposed_4 (by decide) (fun c_1 => ?_) (fun c_1 => ?_)
  · have b_2 : (rg a 0 300) = false := bI_f c_1
    refine lv_bipush (v := (-2)) hx hb dX5_exposed_14 (by decide) ?_
    refine lv_goto (tgt := 25) hx hb dX5_exposed_16 (by decide) ?_
    exact W.iret (v := (-2)) hx hb hr (fun t9 ht9 hW9 => ⟨(-2), rfl, (by first | with_reducible rfl | simp [r2, b_2]), ht9⟩) (fun _ h => by cases h) dX5_exposed_25
  · have b_3 : (rg a 0 300) = true := bI_t c_1
    refine lv_iload_n hx hb dX5_exposed_7 rfl (lv_at hl 2 rfl) ?_
    refine roSi (As := [.int mo]) (rest := []) (v := (bI (rg mo 0 300))) ⟨hx, hb, hml, hown, hts⟩ (c_X5_isMonth l mo) (va_cwS 1 hts gX5_exposed_X5_isMonth rfl rfl rfl (by decide +kernel) ⟨Nat.le_of_ble_eq_true rfl, Nat.le_of_ble_eq_true rfl⟩) rfl hl.1 rfl (Nat.le_of_ble_eq_true rfl) dX5_exposed_8 ⟨Nat.zero_le _, Nat.zero_le _⟩ ?_
    refine lv_if_ne (tgt := 19) hx hb dX5_exposed_11 (by decide) (fun c_4 => ?_) (fun c_4 => ?_)
    · have b_5 : (rg mo 0 300) = true := bI_t c_4
      refine lv_aload_n hx hb dX5_exposed_19 rfl (lv_at hl 0 rfl) ?_
      refine lv_iload_n hx hb dX5_exposed_20 rfl (lv_at hl 1 rfl) ?_
      refine lv_iload_n hx hb dX5_exposed_21 rfl (lv_at hl 2 rfl) ?_
      refine roVi (As := [.int a, .int mo]) (rest := []) (v := (ctI (sExp F a mo) n)) ⟨hx, hb, hml, hown, hts⟩ (c_X5_exposedAt l D cs q F n c g up lo a mo hI) (cwV 2 hts gX5_exposed_X5_exposedAt rfl rfl rfl (by decide +kernel) ⟨Nat.le_of_ble_eq_true rfl, Nat.le_of_ble_eq_true rfl⟩) hP hK hN 0 rfl rfl rfl hl.1 rfl (Nat.le_of_ble_eq_true rfl) dX5_exposed_22 ⟨Nat.zero_le _, Nat.zero_le _⟩ ?_
      exact W.iret (v := (ctI (sExp F a mo) n)) hx hb hr (fun t9 ht9 hW9 => ⟨(ctI (sExp F a mo) n), rfl, (by first | with_reducible rfl | simp [r2, b_3, b_5]), ht9⟩) (fun _ h => by cases h) dX5_exposed_25
    · have b_6 : (rg mo 0 300) = false := bI_f c_4
      refine lv_bipush (v := (-2)) hx hb dX5_exposed_14 (by decide) ?_
      refine lv_goto (tgt := 25) hx hb dX5_exposed_16 (by decide) ?_
      exact W.iret (v := (-2)) hx hb hr (fun t9 ht9 hW9 => ⟨(-2), rfl, (by first | with_reducible rfl | simp [r2, b_3, b_6]), ht9⟩) (fun _ h => by cases h) dX5_exposed_25
set_option maxHeartbeats 4000000 in
set_option maxRecDepth 100000 in
/-- X5_delaysOf -/
theorem c_X5_delaysOf (l : Launch) (D : va_G) (cs : Nat → ClassId) (q : Nat → Nat) (F : Nat → Nat → Int32) (n c : Nat) (g : Int32) (up lo : Int64) (mo : Int32) (dl : Int32) (hI : Inv F n c) : Met l yX5_delaysOf wsX5_delaysOf ({ frames := 1, cells := 0, slots := 0, locals := 22 }) (va_Pc [.ref (q 200), .int mo, .int dl] (pw D cs (mW q cs F n c g up lo))) (vp_Si (fun r => r = (ctI (sDelM F dl mo) c))) 0 0 (fun _ => False) := by
  refine Met.ofW (cc := cX5_delaysOf) (maxL := 5) (ret := (some .int)) (by decide) rfl ?_
  intro p e s m args below meth c_ s₁ B hml hv
  obtain ⟨rfl, hP, hK, hN⟩ := hv
  have hx := B.exec
  have hb := B.bytes
  have hr := B.returns
  have hts := atoms_spec (ws := wsX5_delaysOf) B.pre
  have hown : s.vm.findClass RX5 = some m.cls := findClass_of_methodNamed B.named
  have hlocks := B.notSynchronized
  have hl := lv_entry ([.ref (q 200), .int mo, .int dl]) (n := 5) (Nat.le_of_ble_eq_true rfl)
  rw [lg_entry_eq]
  generalize (lg_sl ([.ref (q 200), .int mo, .int dl]) ++ List.replicate (5 - (lg_sl ([.ref (q 200), .int mo, .int dl])).length) Slot.unset).toArray = ls at hl ⊢
  have hl : lv_has ls 5 [(0, .ref (q 200)), (1, .int mo), (2, .int dl)] := hl
  have hn60 := hI.n60
  have hc100 := hI.c100
  refine lv_iconst (v := 0) hx hb dX5_delaysOf_0 (by decide) ?_
  refine lv_istore_n (lv' := [(3, .int 0), (0, .ref (q 200)), (1, .int mo), (2, .int dl)]) hx hb dX5_delaysOf_1 rfl hl (by decide) rfl (fun ls hl => ?_)
  refine lv_iconst (v := 0) hx hb dX5_delaysOf_2 (by decide) ?_
  refine lv_istore (lv' := [(4, .int 0), (3, .int 0), (0, .ref (q 200)), (1, .int mo), (2, .int dl)]) hx hb dX5_delaysOf_3 hl (by decide) rfl (fun ls hl => ?_)
  refine lpW (fun k ls => lv_has ls 5 [(0, .ref (q 200)), (1, .int mo), (2, .int dl), (3, .int (ctI (sDelM F dl mo) k)), (4, .int (nI k))]) c 0 (Nat.zero_le _) ls (show lv_has ls 5 [(0, .ref (q 200)), (1, .int mo), (2, .int dl), (3, .int (ctI (sDelM F dl mo) 0)), (4, .int (nI 0))] from lv_sub hl [2, 3, 4, 1, 0] rfl) ?_ ?_
  · intro ls hl
    have hl : lv_has ls 5 [(0, .ref (q 200)), (1, .int mo), (2, .int dl), (3, .int (ctI (sDelM F dl mo) c)), (4, .int (nI c))] := hl
    refine lv_iload hx hb dX5_delaysOf_5 (lv_at hl 4 rfl) ?_
    refine lv_aload_n hx hb dX5_delaysOf_7 rfl (lv_at hl 0 rfl) ?_
    refine va_get (D := D) (ci := 5) (v := .int (nI c)) (C := RX5) (T := TX5) (N := 21) hx hb hts (fun _ h => List.mem_cons_of_mem _ (List.mem_append_right _ h)) hown hK hP 0 rfl rfl 8 (by decide) (hts (.fieldLink RX5 102 "UnderPromiseModel" "claims" "I") (List.mem_of_getElem? (i := 1) rfl)) (fun _ h9 => h9) rfl dX5_delaysOf_8 ?_
    refine lv_icmp_ge (tgt := 71) hx hb dX5_delaysOf_11 (by decide) (fun c_1 => ?_) (fun c_1 => ?_)
    · have c_2 := i_le c_1
      refine lv_iload_n hx hb dX5_delaysOf_71 rfl (lv_at hl 3 rfl) ?_
      exact W.iret (v := (ctI (sDelM F dl mo) c)) hx hb hr (fun t9 ht9 hW9 => ⟨(ctI (sDelM F dl mo) c), rfl, rfl, ht9⟩) (fun _ h => by cases h) dX5_delaysOf_72
    · exact absurd (nI_le (Nat.le_refl _) (by omega)) c_1
  · intro k hk0 hk ih ls hl
    have hl : lv_has ls 5 [(0, .ref (q 200)), (1, .int mo), (2, .int dl), (3, .int (ctI (sDelM F dl mo) k)), (4, .int (nI k))] := hl
    refine lv_iload hx hb dX5_delaysOf_5 (lv_at hl 4 rfl) ?_
    refine lv_aload_n hx hb dX5_delaysOf_7 rfl (lv_at hl 0 rfl) ?_
    refine va_get (D := D) (ci := 5) (v := .int (nI c)) (C := RX5) (T := TX5) (N := 21) hx hb hts (fun _ h => List.mem_cons_of_mem _ (List.mem_append_right _ h)) hown hK hP 0 rfl rfl 8 (by decide) (hts (.fieldLink RX5 102 "UnderPromiseModel" "claims" "I") (List.mem_of_getElem? (i := 1) rfl)) (fun _ h9 => h9) rfl dX5_delaysOf_8 ?_
    refine lv_icmp_ge (tgt := 71) hx hb dX5_delaysOf_11 (by decide) (fun c_3 => ?_) (fun c_3 => ?_)
    · exact absurd c_3 (nI_ge hk (by omega))
    · have c_4 := i_nle c_3
      refine lv_iload_n hx hb dX5_delaysOf_14 rfl (lv_at hl 3 rfl) ?_
      refine lv_aload_n hx hb dX5_delaysOf_15 rfl (lv_at hl 0 rfl) ?_
      refine lv_iload hx hb dX5_delaysOf_16 (lv_at hl 4 rfl) ?_
      refine lv_iload_n hx hb dX5_delaysOf_18 rfl (lv_at hl 1 rfl) ?_
      refine roVi (As := [.int (nI k), .int mo]) (rest := [.int (ctI (sDelM F dl mo) k)]) (v := (bI (sLetBy F mo k))) ⟨hx, hb, hml, hown, hts⟩ (c_X5_counts l D cs q F n c g up lo k mo hI (by omega)) (cwV 2 hts gX5_delaysOf_X5_counts rfl rfl rfl (by decide +kernel) ⟨Nat.le_of_ble_eq_true rfl, Nat.le_of_ble_eq_true rfl⟩) hP hK hN 0 rfl rfl rfl hl.1 rfl (Nat.le_of_ble_eq_true rfl) dX5_delaysOf_19 ⟨Nat.zero_le _, Nat.zero_le _⟩ ?_
      refine lv_if_eq (tgt := 62) hx hb dX5_delaysOf_22 (by decide) (fun c_5 => ?_) (fun c_5 => ?_)
      · have b_6 : (sLetBy F mo k) = false := bI_f c_5
        refine lv_iconst (v := 0) hx hb dX5_delaysOf_62 (by decide) ?_
        refine lv_iadd hx hb dX5_delaysOf_63 ?_
        refine lv_istore_n (lv' := [(3, .int ((ctI (sDelM F dl mo) k) + 0)), (0, .ref (q 200)), (1, .int mo), (2, .int dl), (4, .int (nI k))]) hx hb dX5_delaysOf_64 rfl hl (by decide) rfl (fun ls hl => ?_)
        refine lv_iinc (v := ((nI k) + 1)) (lv' := [(4, .int ((nI k) + 1)), (3, .int ((ctI (sDelM F dl mo) k) + 0)), (0, .ref (q 200)), (1, .int mo), (2, .int dl)]) hx hb dX5_delaysOf_65 hl (k := 4) rfl rfl (by decide) rfl (fun ls hl => ?_)
        refine lv_goto (tgt := 5) hx hb dX5_delaysOf_68 (by decide) ?_
        have h_7 : ((ctI (sDelM F dl mo) k) + 0) = (ctI (sDelM F dl mo) (k + 1)) := (by first | with_reducible rfl | simp [ctI, sDelM, c_3, c_4, b_6])
        have h_8 : ((nI k) + 1) = (nI (k + 1)) := (nI_1 _)
        exact ih _ (lv_cast (lv_sub (l' := [(0, .ref (q 200)), (1, .int mo), (2, .int dl), (3, .int ((ctI (sDelM F dl mo) k) + 0)), (4, .int ((nI k) + 1))]) hl [2, 3, 4, 1, 0] rfl) (cg2 (fun z7 z8 => [(0, .ref (q 200)), (1, .int mo), (2, .int dl), (3, .int z7), (4, .int z8)]) h_7 h_8))
      · have b_9 : (sLetBy F mo k) = true := bI_t c_5
        refine lv_aload_n hx hb dX5_delaysOf_25 rfl (lv_at hl 0 rfl) ?_
        refine va_get (D := D) (ci := 5) (v := .ref (q 210)) (C := RX5) (T := TX5) (N := 21) hx hb hts (fun _ h => List.mem_cons_of_mem _ (List.mem_append_right _ h)) hown hK hP 0 rfl rfl 12 (by decide) (hts (.fieldLink RX5 41 "UnderPromiseModel" "toldIn" "[I") (List.mem_of_getElem? (i := 2) rfl)) (fun _ h9 => h9) rfl dX5_delaysOf_26 ?_
        refine lv_iload hx hb dX5_delaysOf_29 (lv_at hl 4 rfl) ?_
        refine iaK (v := (F 9 k)) hx hb hK hP 10 0 rfl rfl k (vp_in_nI (by omega) (by decide)) (nI_clamp (by omega)) rfl dX5_delaysOf_31 ?_
        refine lv_aload_n hx hb dX5_delaysOf_32 rfl (lv_at hl 0 rfl) ?_
        refine va_get (D := D) (ci := 5) (v := .ref (q 209)) (C := RX5) (T := TX5) (N := 21) hx hb hts (fun _ h => List.mem_cons_of_mem _ (List.mem_append_right _ h)) hown hK hP 0 rfl rfl 11 (by decide) (hts (.fieldLink RX5 38 "UnderPromiseModel" "failed" "[I") (List.mem_of_getElem? (i := 3) rfl)) (fun _ h9 => h9) rfl dX5_delaysOf_33 ?_
        refine lv_iload hx hb dX5_delaysOf_36 (lv_at hl 4 rfl) ?_
        refine iaK (v := (F 8 k)) hx hb hK hP 9 0 rfl rfl k (vp_in_nI (by omega) (by decide)) (nI_clamp (by omega)) rfl dX5_delaysOf_38 ?_
        refine lv_isub hx hb dX5_delaysOf_39 ?_
        refine lv_iload_n hx hb dX5_delaysOf_40 rfl (lv_at hl 2 rfl) ?_
        refine lv_icmp_ne (tgt := 62) hx hb dX5_delaysOf_41 (by decide) (fun c_10 => ?_) (fun c_10 => ?_)
        · refine lv_iconst (v := 0) hx hb dX5_delaysOf_62 (by decide) ?_
          refine lv_iadd hx hb dX5_delaysOf_63 ?_
          refine lv_istore_n (lv' := [(3, .int ((ctI (sDelM F dl mo) k) + 0)), (0, .ref (q 200)), (1, .int mo), (2, .int dl), (4, .int (nI k))]) hx hb dX5_delaysOf_64 rfl hl (by decide) rfl (fun ls hl => ?_)
          refine lv_iinc (v := ((nI k) + 1)) (lv' := [(4, .int ((nI k) + 1)), (3, .int ((ctI (sDelM F dl mo) k) + 0)), (0, .ref (q 200)), (1, .int mo), (2, .int dl)]) hx hb dX5_delaysOf_65 hl (k := 4) rfl rfl (by decide) rfl (fun ls hl => ?_)
          refine lv_goto (tgt := 5) hx hb dX5_delaysOf_68 (by decide) ?_
          have h_11 : ((ctI (sDelM F dl mo) k) + 0) = (ctI (sDelM F dl mo) (k + 1)) := (by first | with_reducible rfl | simp [ctI, sDelM, c_3, c_4, b_9, c_10])
          have h_12 : ((nI k) + 1) = (nI (k + 1)) := (nI_1 _)
          exact ih _ (lv_cast (lv_sub (l' := [(0, .ref (q 200)), (1, .int mo), (2, .int dl), (3, .int ((ctI (sDelM F dl mo) k) + 0)), (4, .int ((nI k) + 1))]) hl [2, 3, 4, 1, 0] rfl) (cg2 (fun z11 z12 => [(0, .ref (q 200)), (1, .int mo), (2, .int dl), (3, .int z11), (4, .int z12)]) h_11 h_12))
        · refine lv_aload_n hx hb dX5_delaysOf_44 rfl (lv_at hl 0 rfl) ?_
          refine va_get (D := D) (ci := 5) (v := .ref (q 209)) (C := RX5) (T := TX5) (N := 21) hx hb hts (fun _ h => List.mem_cons_of_mem _ (List.mem_append_right _ h)) hown hK hP 0 rfl rfl 11 (by decide) (hts (.fieldLink RX5 38 "UnderPromiseModel" "failed" "[I") (List.mem_of_getElem? (i := 3) rfl)) (fun _ h9 => h9) rfl dX5_delaysOf_45 ?_
          refine lv_iload hx hb dX5_delaysOf_48 (lv_at hl 4 rfl) ?_
          refine iaK (v := (F 8 k)) hx hb hK hP 9 0 rfl rfl k (vp_in_nI (by omega) (by decide)) (nI_clamp (by omega)) rfl dX5_delaysOf_50 ?_
          refine lv_iload_n hx hb dX5_delaysOf_51 rfl (lv_at hl 1 rfl) ?_
          refine lv_bipush (v := 11) hx hb dX5_delaysOf_52 (by decide) ?_
          refine lv_isub hx hb dX5_delaysOf_54 ?_
          refine lv_icmp_gt (tgt := 62) hx hb dX5_delaysOf_55 (by decide) (fun c_13 => ?_) (fun c_13 => ?_)
          · have c_14 := i_lt c_13
            refine lv_iconst (v := 0) hx hb dX5_delaysOf_62 (by decide) ?_
            refine lv_iadd hx hb dX5_delaysOf_63 ?_
            refine lv_istore_n (lv' := [(3, .int ((ctI (sDelM F dl mo) k) + 0)), (0, .ref (q 200)), (1, .int mo), (2, .int dl), (4, .int (nI k))]) hx hb dX5_delaysOf_64 rfl hl (by decide) rfl (fun ls hl => ?_)
            refine lv_iinc (v := ((nI k) + 1)) (lv' := [(4, .int ((nI k) + 1)), (3, .int ((ctI (sDelM F dl mo) k) + 0)), (0, .ref (q 200)), (1, .int mo), (2, .int dl)]) hx hb dX5_delaysOf_65 hl (k := 4) rfl rfl (by decide) rfl (fun ls hl => ?_)
            refine lv_goto (tgt := 5) hx hb dX5_delaysOf_68 (by decide) ?_
            have h_15 : ((ctI (sDelM F dl mo) k) + 0) = (ctI (sDelM F dl mo) (k + 1)) := (by first | with_reducible rfl | simp [ctI, sDelM, c_3, c_4, b_9, c_10, c_13, c_14])
            have h_16 : ((nI k) + 1) = (nI (k + 1)) := (nI_1 _)
            exact ih _ (lv_cast (lv_sub (l' := [(0, .ref (q 200)), (1, .int mo), (2, .int dl), (3, .int ((ctI (sDelM F dl mo) k) + 0)), (4, .int ((nI k) + 1))]) hl [2, 3, 4, 1, 0] rfl) (cg2 (fun z15 z16 => [(0, .ref (q 200)), (1, .int mo), (2, .int dl), (3, .int z15), (4, .int z16)]) h_15 h_16))
          · have c_17 := i_nlt c_13
            refine lv_iconst (v := 1) hx hb dX5_delaysOf_58 (by decide) ?_
            refine lv_goto (tgt := 63) hx hb dX5_delaysOf_59 (by decide) ?_
            refine lv_iadd hx hb dX5_delaysOf_63 ?_
            refine lv_istore_n (lv' := [(3, .int ((ctI (sDelM F dl mo) k) + 1)), (0, .ref (q 200)), (1, .int mo), (2, .int dl), (4, .int (nI k))]) hx hb dX5_delaysOf_64 rfl hl (by decide) rfl (fun ls hl => ?_)
            refine lv_iinc (v := ((nI k) + 1)) (lv' := [(4, .int ((nI k) + 1)), (3, .int ((ctI (sDelM F dl mo) k) + 1)), (0, .ref (q 200)), (1, .int mo), (2, .int dl)]) hx hb dX5_delaysOf_65 hl (k := 4) rfl rfl (by decide) rfl (fun ls hl => ?_)
            refine lv_goto (tgt := 5) hx hb dX5_delaysOf_68 (by decide) ?_
            have h_18 : ((ctI (sDelM F dl mo) k) + 1) = (ctI (sDelM F dl mo) (k + 1)) := (by first | with_reducible rfl | simp [ctI, sDelM, c_3, c_4, b_9, c_10, c_13, c_17])
            have h_19 : ((nI k) + 1) = (nI (k + 1)) := (nI_1 _)
            exact ih _ (lv_cast (lv_sub (l' := [(0, .ref (q 200)), (1, .int mo), (2, .int dl), (3, .int ((ctI (sDelM F dl mo) k) + 1)), (4, .int ((nI k) + 1))]) hl [2, 3, 4, 1, 0] rfl) (cg2 (fun z18 z19 => [(0, .ref (q 200)), (1, .int mo), (2, .int dl), (3, .int z18), (4, .int z19)]) h_18 h_19))
set_option maxHeartbeats 4000000 in
set_option maxRecDepth 100000 in
/-- X5_delays -/
theorem c_X5_delays (l : Launch) (D : va_G) (cs : Nat → ClassId) (q : Nat → Nat) (F : Nat → Nat → Int32) (n c : Nat) (g : Int32) (up lo : Int64) (mo : Int32) (dl : Int32) (hI : Inv F n c) : Met l yX5_delays wsX5_delays ({ frames := 2, cells := 0, slots := 0, locals := 46 }) (va_Pc [.ref (q 200), .int mo, .int dl] (pw D cs (mW q cs F n c g up lo))) (vp_Si (fun r => r = (r2 (rg mo 0 300) (rg dl 0 11) (ctI (sDelM F dl mo) c)))) 0 0 (fun _ => False) := by
  refine Met.ofW (cc := cX5_delays) (maxL := 3) (ret := (some .int)) (by decide) rfl ?_
  intro p e s m args below meth c_ s₁ B hml hv
  obtain ⟨rfl, hP, hK, hN⟩ := hv
  have hx := B.exec
  have hb := B.bytes
  have hr := B.returns
  have hts := atoms_spec (ws := wsX5_delays) B.pre
  have hown : s.vm.findClass RX5 = some m.cls := findClass_of_methodNamed B.named
  have hlocks := B.notSynchronized
  have hl := lv_entry ([.ref (q 200), .int mo, .int dl]) (n := 3) (Nat.le_of_ble_eq_true rfl)
  rw [lg_entry_eq]
  generalize (lg_sl ([.ref (q 200), .int mo, .int dl]) ++ List.replicate (3 - (lg_sl ([.ref (q 200), .int mo, .int dl])).length) Slot.unset).toArray = ls at hl ⊢
  have hl : lv_has ls 3 [(0, .ref (q 200)), (1, .int mo), (2, .int dl)] := hl
  have hn60 := hI.n60
  have hc100 := hI.c100
  refine lv_iload_n hx hb dX5_delays_0 rfl (lv_at hl 1 rfl) ?_
  refine roSi (As := [.int mo]) (rest := []) (v := (bI (rg mo 0 300))) ⟨hx, hb, hml, hown, hts⟩ (c_X5_isMonth l mo) (va_cwS 1 hts gX5_delays_X5_isMonth rfl rfl rfl (by decide +kernel) ⟨Nat.le_of_ble_eq_true rfl, Nat.le_of_ble_eq_true rfl⟩) rfl hl.1 rfl (Nat.le_of_ble_eq_true rfl) dX5_delays_1 ⟨Nat.zero_le _, Nat.zero_le _⟩ ?_
  refine lv_if_eq (tgt := 19) hx hb dX5_delays_4 (by decide) (fun c_1 => ?_) (fun c_1 => ?_)
  · have b_2 : (rg mo 0 300) = false := bI_f c_1
    refine lv_bipush (v := (-2)) hx hb dX5_delays_19 (by decide) ?_
    refine lv_goto (tgt := 30) hx hb dX5_delays_21 (by decide) ?_
    exact W.iret (v := (-2)) hx hb hr (fun t9 ht9 hW9 => ⟨(-2), rfl, (by first | with_reducible rfl | simp [r2, b_2]), ht9⟩) (fun _ h => by cases h) dX5_delays_30
  · have b_3 : (rg mo 0 300) = true := bI_t c_1
    refine lv_iload_n hx hb dX5_delays_7 rfl (lv_at hl 2 rfl) ?_
    refine lv_i2l (v := (Int32.toInt64 dl)) hx hb dX5_delays_8 rfl ?_
    refine lv_lconst (v := 0) hx hb dX5_delays_9 (by decide) ?_
    refine lv_ldc2 (v := 11) hx hb hown (hts (.constantLong RX5 133 (11)) (List.mem_of_getElem? (i := 1) rfl)) dX5_delays_10 ?_
    refine roSi (As := [.long (Int32.toInt64 dl), .long 0, .long 11]) (rest := []) (v := (bI (rg dl 0 11))) ⟨hx, hb, hml, hown, hts⟩ (c_X5_in l dl 0 11 0 11 (by decide) (by decide)) (va_cwS 3 hts gX5_delays_X5_in rfl rfl rfl (by decide +kernel) ⟨Nat.le_of_ble_eq_true rfl, Nat.le_of_ble_eq_true rfl⟩) rfl hl.1 rfl (Nat.le_of_ble_eq_true rfl) dX5_delays_13 ⟨Nat.zero_le _, Nat.zero_le _⟩ ?_
    refine lv_if_ne (tgt := 24) hx hb dX5_delays_16 (by decide) (fun c_4 => ?_) (fun c_4 => ?_)
    · have b_5 : (rg dl 0 11) = true := bI_t c_4
      refine lv_aload_n hx hb dX5_delays_24 rfl (lv_at hl 0 rfl) ?_
      refine lv_iload_n hx hb dX5_delays_25 rfl (lv_at hl 1 rfl) ?_
      refine lv_iload_n hx hb dX5_delays_26 rfl (lv_at hl 2 rfl) ?_
      refine roVi (As := [.int mo, .int dl]) (rest := []) (v := (ctI (sDelM F dl mo) c)) ⟨hx, hb, hml, hown, hts⟩ (c_X5_delaysOf l D cs q F n c g up lo mo dl hI) (cwV 2 hts gX5_delays_X5_delaysOf rfl rfl rfl (by decide +kernel) ⟨Nat.le_of_ble_eq_true rfl, Nat.le_of_ble_eq_true rfl⟩) hP hK hN 0 rfl rfl rfl hl.1 rfl (Nat.le_of_ble_eq_true rfl) dX5_delays_27 ⟨Nat.zero_le _, Nat.zero_le _⟩ ?_
      exact W.iret (v := (ctI (sDelM F dl mo) c)) hx hb hr (fun t9 ht9 hW9 => ⟨(ctI (sDelM F dl mo) c), rfl, (by first | with_reducible rfl | simp [r2, b_3, b_5]), ht9⟩) (fun _ h => by cases h) dX5_delays_30
    · have b_6 : (rg dl 0 11) = false := bI_f c_4
      refine lv_bipush (v := (-2)) hx hb dX5_delays_19 (by decide) ?_
      refine lv_goto (tgt := 30) hx hb dX5_delays_21 (by decide) ?_
      exact W.iret (v := (-2)) hx hb hr (fun t9 ht9 hW9 => ⟨(-2), rfl, (by first | with_reducible rfl | simp [r2, b_3, b_6]), ht9⟩) (fun _ h => by cases h) dX5_delays_30
set_option maxHeartbeats 4000000 in
set_option maxRecDepth 100000 in
/-- X5_undone -/
theorem c_X5_undone (l : Launch) (D : va_G) (cs : Nat → ClassId) (q : Nat → Nat) (F : Nat → Nat → Int32) (n c : Nat) (g : Int32) (up lo : Int64) (f0 : Int32) (mo : Int32) (hI : Inv F n c) : Met l yX5_undone wsX5_undone ({ frames := 2, cells := 0, slots := 0, locals := 46 }) (va_Pc [.ref (q 200), .int f0, .int mo] (pw D cs (mW q cs F n c g up lo))) (vp_Si (fun r => r = (aUndM F c f0 mo))) 0 0 (fun _ => False) := by
  refine Met.ofW (cc := cX5_undone) (maxL := 7) (ret := (some .int)) (by decide) rfl ?_
  intro p e s m args below meth c_ s₁ B hml hv
  obtain ⟨rfl, hP, hK, hN⟩ := hv
  have hx := B.exec
  have hb := B.bytes
  have hr := B.returns
  have hts := atoms_spec (ws := wsX5_undone) B.pre
  have hown : s.vm.findClass RX5 = some m.cls := findClass_of_methodNamed B.named
  have hlocks := B.notSynchronized
  have hl := lv_entry ([.ref (q 200), .int f0, .int mo]) (n := 7) (Nat.le_of_ble_eq_true rfl)
  rw [lg_entry_eq]
  generalize (lg_sl ([.ref (q 200), .int f0, .int mo]) ++ List.replicate (7 - (lg_sl ([.ref (q 200), .int f0, .int mo])).length) Slot.unset).toArray = ls at hl ⊢
  have hl : lv_has ls 7 [(0, .ref (q 200)), (1, .int f0), (2, .int mo)] := hl
  have hn60 := hI.n60
  have hc100 := hI.c100
  refine lv_iload_n hx hb dX5_undone_0 rfl (lv_at hl 1 rfl) ?_
  refine roSi (As := [.int f0]) (rest := []) (v := (bI (rg f0 0 300))) ⟨hx, hb, hml, hown, hts⟩ (c_X5_isMonth l f0) (va_cwS 1 hts gX5_undone_X5_isMonth rfl rfl rfl (by decide +kernel) ⟨Nat.le_of_ble_eq_true rfl, Nat.le_of_ble_eq_true rfl⟩) rfl hl.1 rfl (Nat.le_of_ble_eq_true rfl) dX5_undone_1 ⟨Nat.zero_le _, Nat.zero_le _⟩ ?_
  refine lv_if_eq (tgt := 19) hx hb dX5_undone_4 (by decide) (fun c_1 => ?_) (fun c_1 => ?_)
  · have b_2 : (rg f0 0 300) = false := bI_f c_1
    refine lv_bipush (v := (-2)) hx hb dX5_undone_19 (by decide) ?_
    exact W.iret (v := (-2)) hx hb hr (fun t9 ht9 hW9 => ⟨(-2), rfl, (by first | with_reducible rfl | simp [aUndM, b_2]), ht9⟩) (fun _ h => by cases h) dX5_undone_21
  · have b_3 : (rg f0 0 300) = true := bI_t c_1
    refine lv_iload_n hx hb dX5_undone_7 rfl (lv_at hl 2 rfl) ?_
    refine roSi (As := [.int mo]) (rest := []) (v := (bI (rg mo 0 300))) ⟨hx, hb, hml, hown, hts⟩ (c_X5_isMonth l mo) (va_cwS 1 hts gX5_undone_X5_isMonth rfl rfl rfl (by decide +kernel) ⟨Nat.le_of_ble_eq_true rfl, Nat.le_of_ble_eq_true rfl⟩) rfl hl.1 rfl (Nat.le_of_ble_eq_true rfl) dX5_undone_8 ⟨Nat.zero_le _, Nat.zero_le _⟩ ?_
    refine lv_if_eq (tgt := 19) hx hb dX5_undone_11 (by decide) (fun c_4 => ?_) (fun c_4 => ?_)
    · have b_5 : (rg mo 0 300) = false := bI_f c_4
      refine lv_bipush (v := (-2)) hx hb dX5_undone_19 (by decide) ?_
      exact W.iret (v := (-2)) hx hb hr (fun t9 ht9 hW9 => ⟨(-2), rfl, (by first | with_reducible rfl | simp [aUndM, b_3, b_5]), ht9⟩) (fun _ h => by cases h) dX5_undone_21
    · have b_6 : (rg mo 0 300) = true := bI_t c_4
      refine lv_iload_n hx hb dX5_undone_14 rfl (lv_at hl 1 rfl) ?_
      refine lv_iload_n hx hb dX5_undone_15 rfl (lv_at hl 2 rfl) ?_
      refine lv_icmp_le (tgt := 22) hx hb dX5_undone_16 (by decide) (fun c_7 => ?_) (fun c_7 => ?_)
      · have c_8 := i_le c_7
        refine lv_iconst (v := 0) hx hb dX5_undone_22 (by decide) ?_
        refine lv_istore_n (lv' := [(3, .int 0), (0, .ref (q 200)), (1, .int f0), (2, .int mo)]) hx hb dX5_undone_23 rfl hl (by decide) rfl (fun ls hl => ?_)
        refine lv_iconst (v := 0) hx hb dX5_undone_24 (by decide) ?_
        refine lv_istore (lv' := [(4, .int 0), (3, .int 0), (0, .ref (q 200)), (1, .int f0), (2, .int mo)]) hx hb dX5_undone_25 hl (by decide) rfl (fun ls hl => ?_)
        refine lpW (fun k ls => lv_has ls 7 [(0, .ref (q 200)), (1, .int f0), (2, .int mo), (3, .int (ctI (sFail F f0 mo) k)), (4, .int (nI k))]) c 0 (Nat.zero_le _) ls (show lv_has ls 7 [(0, .ref (q 200)), (1, .int f0), (2, .int mo), (3, .int (ctI (sFail F f0 mo) 0)), (4, .int (nI 0))] from lv_sub hl [2, 3, 4, 1, 0] rfl) ?_ ?_
        · intro ls hl
          have hl : lv_has ls 7 [(0, .ref (q 200)), (1, .int f0), (2, .int mo), (3, .int (ctI (sFail F f0 mo) c)), (4, .int (nI c))] := hl
          refine lv_iload hx hb dX5_undone_27 (lv_at hl 4 rfl) ?_
          refine lv_aload_n hx hb dX5_undone_29 rfl (lv_at hl 0 rfl) ?_
          refine va_get (D := D) (ci := 5) (v := .int (nI c)) (C := RX5) (T := TX5) (N := 21) hx hb hts (fun _ h => List.mem_cons_of_mem _ (List.mem_append_right _ h)) hown hK hP 0 rfl rfl 8 (by decide) (hts (.fieldLink RX5 102 "UnderPromiseModel" "claims" "I") (List.mem_of_getElem? (i := 1) rfl)) (fun _ h9 => h9) rfl dX5_undone_30 ?_
          refine lv_icmp_ge (tgt := 71) hx hb dX5_undone_33 (by decide) (fun c_9 => ?_) (fun c_9 => ?_)
          · have c_10 := i_le c_9
            refine lv_iload_n hx hb dX5_undone_71 rfl (lv_at hl 2 rfl) ?_
            refine lv_iload_n hx hb dX5_undone_72 rfl (lv_at hl 1 rfl) ?_
            refine lv_isub hx hb dX5_undone_73 ?_
            refine lv_bipush (v := 11) hx hb dX5_undone_74 (by decide) ?_
            refine lv_icmp_lt (tgt := 81) hx hb dX5_undone_76 (by decide) (fun c_11 => ?_) (fun c_11 => ?_)
            · have c_12 := i_lt c_11
              refine lv_iconst (v := 0) hx hb dX5_undone_81 (by decide) ?_
              refine lv_istore (lv' := [(4, .int 0), (0, .ref (q 200)), (1, .int f0), (2, .int mo), (3, .int (ctI (sFail F f0 mo) c))]) hx hb dX5_undone_82 hl (by decide) rfl (fun ls hl => ?_)
              refine lv_iconst (v := 0) hx hb dX5_undone_84 (by decide) ?_
              refine lv_istore (lv' := [(5, .int 0), (4, .int 0), (0, .ref (q 200)), (1, .int f0), (2, .int mo), (3, .int (ctI (sFail F f0 mo) c))]) hx hb dX5_undone_85 hl (by decide) rfl (fun ls hl => ?_)
              refine lv_iconst (v := 0) hx hb dX5_undone_87 (by decide) ?_
              refine lv_istore (lv' := [(6, .int 0), (5, .int 0), (4, .int 0), (0, .ref (q 200)), (1, .int f0), (2, .int mo), (3, .int (ctI (sFail F f0 mo) c))]) hx hb dX5_undone_88 hl (by decide) rfl (fun ls hl => ?_)
              refine lpW (fun d ls => lv_has ls 7 [(0, .ref (q 200)), (1, .int f0), (2, .int mo), (3, .int (ctI (sFail F f0 mo) c)), (4, .int (smI (sLD F c mo) d)), (5, .int (smI (sLE F c f0 mo) d)), (6, .int (nI d))]) 12 0 (Nat.zero_le _) ls (show lv_has ls 7 [(0, .ref (q 200)), (1, .int f0), (2, .int mo), (3, .int (ctI (sFail F f0 mo) c)), (4, .int (smI (sLD F c mo) 0)), (5, .int (smI (sLE F c f0 mo) 0)), (6, .int (nI 0))] from lv_sub hl [3, 4, 5, 6, 2, 1, 0] rfl) ?_ ?_
              · intro ls hl
                have hl : lv_has ls 7 [(0, .ref (q 200)), (1, .int f0), (2, .int mo), (3, .int (ctI (sFail F f0 mo) c)), (4, .int (smI (sLD F c mo) 12)), (5, .int (smI (sLE F c f0 mo) 12)), (6, .int (nI 12))] := hl
                refine lv_iload hx hb dX5_undone_90 (lv_at hl 6 rfl) ?_
                refine lv_bipush (v := 12) hx hb dX5_undone_92 (by decide) ?_
                refine lv_icmp_ge (tgt := 139) hx hb dX5_undone_94 (by decide) (fun c_13 => ?_) (fun c_13 => ?_)
                · have c_14 := i_le c_13
                  refine lv_iload hx hb dX5_undone_139 (lv_at hl 5 rfl) ?_
                  refine lv_if_ne (tgt := 148) hx hb dX5_undone_141 (by decide) (fun c_15 => ?_) (fun c_15 => ?_)
                  · refine lv_iload_n hx hb dX5_undone_148 rfl (lv_at hl 3 rfl) ?_
                    refine lv_iload hx hb dX5_undone_149 (lv_at hl 4 rfl) ?_
                    refine lv_imul hx hb dX5_undone_151 ?_
                    refine lv_iload hx hb dX5_undone_152 (lv_at hl 5 rfl) ?_
                    refine lv_idiv hx hb dX5_undone_154 c_15 ?_
                    exact W.iret (v := (((ctI (sFail F f0 mo) c) * (smI (sLD F c mo) 12)) / (smI (sLE F c f0 mo) 12))) hx hb hr (fun t9 ht9 hW9 => ⟨(((ctI (sFail F f0 mo) c) * (smI (sLD F c mo) 12)) / (smI (sLE F c f0 mo) 12)), rfl, (by first | with_reducible rfl | simp [aUndM, b_3, b_6, c_7, c_8, c_9, c_10, c_11, c_12, c_13, c_14, c_15]), ht9⟩) (fun _ h => by cases h) dX5_undone_155
                  · refine lv_iconst (v := (-1)) hx hb dX5_undone_144 (by decide) ?_
                    refine lv_goto (tgt := 155) hx hb dX5_undone_145 (by decide) ?_
                    exact W.iret (v := (-1)) hx hb hr (fun t9 ht9 hW9 => ⟨(-1), rfl, (by first | with_reducible rfl | simp [aUndM, b_3, b_6, c_7, c_8, c_9, c_10, c_11, c_12, c_13, c_14, c_15]), ht9⟩) (fun _ h => by cases h) dX5_undone_155
                · exact absurd (nI_le (b := 12) (Nat.le_refl 12) (by decide)) c_13
              · intro d hd0 hd ih2 ls hl
                have hl : lv_has ls 7 [(0, .ref (q 200)), (1, .int f0), (2, .int mo), (3, .int (ctI (sFail F f0 mo) c)), (4, .int (smI (sLD F c mo) d)), (5, .int (smI (sLE F c f0 mo) d)), (6, .int (nI d))] := hl
                refine lv_iload hx hb dX5_undone_90 (lv_at hl 6 rfl) ?_
                refine lv_bipush (v := 12) hx hb dX5_undone_92 (by decide) ?_
                refine lv_icmp_ge (tgt := 139) hx hb dX5_undone_94 (by decide) (fun c_16 => ?_) (fun c_16 => ?_)
                · exact absurd c_16 (nI_ge (b := 12) hd (by decide))
                · have c_17 := i_nle c_16
                  refine lv_iload hx hb dX5_undone_97 (lv_at hl 4 rfl) ?_
                  refine lv_aload_n hx hb dX5_undone_99 rfl (lv_at hl 0 rfl) ?_
                  refine lv_iload_n hx hb dX5_undone_100 rfl (lv_at hl 2 rfl) ?_
                  refine lv_iload hx hb dX5_undone_101 (lv_at hl 6 rfl) ?_
                  refine roVi (As := [.int mo, .int (nI d)]) (rest := [.int (smI (sLD F c mo) d)]) (v := (ctI (sDelM F (nI d) mo) c)) ⟨hx, hb, hml, hown, hts⟩ (c_X5_delaysOf l D cs q F n c g up lo mo (nI d) hI) (cwV 2 hts gX5_undone_X5_delaysOf rfl rfl rfl (by decide +kernel) ⟨Nat.le_of_ble_eq_true rfl, Nat.le_of_ble_eq_true rfl⟩) hP hK hN 0 rfl rfl rfl hl.1 rfl (Nat.le_of_ble_eq_true rfl) dX5_undone_103 ⟨Nat.zero_le _, Nat.zero_le _⟩ ?_
                  refine lv_iadd hx hb dX5_undone_106 ?_
                  refine lv_istore (lv' := [(4, .int ((smI (sLD F c mo) d) + (ctI (sDelM F (nI d) mo) c))), (0, .ref (q 200)), (1, .int f0), (2, .int mo), (3, .int (ctI (sFail F f0 mo) c)), (5, .int (smI (sLE F c f0 mo) d)), (6, .int (nI d))]) hx hb dX5_undone_107 hl (by decide) rfl (fun ls hl => ?_)
                  refine lv_iload hx hb dX5_undone_109 (lv_at hl 5 rfl) ?_
                  refine lv_iload hx hb dX5_undone_111 (lv_at hl 6 rfl) ?_
                  refine lv_iload_n hx hb dX5_undone_113 rfl (lv_at hl 3 rfl) ?_
                  refine lv_iload_n hx hb dX5_undone_114 rfl (lv_at hl 2 rfl) ?_
                  refine lv_isub hx hb dX5_undone_115 ?_
                  refine lv_icmp_gt (tgt := 129) hx hb dX5_undone_116 (by decide) (fun c_18 => ?_) (fun c_18 => ?_)
                  · have c_19 := i_lt c_18
                    refine lv_iconst (v := 0) hx hb dX5_undone_129 (by decide) ?_
                    refine lv_iadd hx hb dX5_undone_130 ?_
                    refine lv_istore (lv' := [(5, .int ((smI (sLE F c f0 mo) d) + 0)), (4, .int ((smI (sLD F c mo) d) + (ctI (sDelM F (nI d) mo) c))), (0, .ref (q 200)), (1, .int f0), (2, .int mo), (3, .int (ctI (sFail F f0 mo) c)), (6, .int (nI d))]) hx hb dX5_undone_131 hl (by decide) rfl (fun ls hl => ?_)
                    refine lv_iinc (v := ((nI d) + 1)) (lv' := [(6, .int ((nI d) + 1)), (5, .int ((smI (sLE F c f0 mo) d) + 0)), (4, .int ((smI (sLD F c mo) d) + (ctI (sDelM F (nI d) mo) c))), (0, .ref (q 200)), (1, .int f0), (2, .int mo), (3, .int (ctI (sFail F f0 mo) c))]) hx hb dX5_undone_133 hl (k := 6) rfl rfl (by decide) rfl (fun ls hl => ?_)
                    refine lv_goto (tgt := 90) hx hb dX5_undone_136 (by decide) ?_
                    have h_20 : ((smI (sLD F c mo) d) + (ctI (sDelM F (nI d) mo) c)) = (smI (sLD F c mo) (d + 1)) := rfl
                    have h_21 : ((smI (sLE F c f0 mo) d) + 0) = (smI (sLE F c f0 mo) (d + 1)) := (by simp [smI, sLE, sLD, b_3, b_6, c_7, c_8, c_9, c_10, c_11, c_12, c_16, c_17, c_18, c_19])
                    have h_22 : ((nI d) + 1) = (nI (d + 1)) := (nI_1 _)
                    exact ih2 _ (lv_cast (lv_sub (l' := [(0, .ref (q 200)), (1, .int f0), (2, .int mo), (3, .int (ctI (sFail F f0 mo) c)), (4, .int ((smI (sLD F c mo) d) + (ctI (sDelM F (nI d) mo) c))), (5, .int ((smI (sLE F c f0 mo) d) + 0)), (6, .int ((nI d) + 1))]) hl [3, 4, 5, 6, 2, 1, 0] rfl) (cg3 (fun z20 z21 z22 => [(0, .ref (q 200)), (1, .int f0), (2, .int mo), (3, .int (ctI (sFail F f0 mo) c)), (4, .int z20), (5, .int z21), (6, .int z22)]) h_20 h_21 h_22))
                  · have c_23 := i_nlt c_18
                    refine lv_aload_n hx hb dX5_undone_119 rfl (lv_at hl 1 rfl) ?_
                    refine lv_iload_n hx hb dX5_undone_120 rfl (lv_at hl 3 rfl) ?_
                    refine lv_iload hx hb dX5_undone_121 (lv_at hl 6 rfl) ?_
                    refine roVi (As := [.int mo, .int (nI d)]) (rest := [.int (smI (sLE F c f0 mo) d)]) (v := (ctI (sDelM F (nI d) mo) c)) ⟨hx, hb, hml, hown, hts⟩ (c_X5_delaysOf l D cs q F n c g up lo mo (nI d) hI) (cwV 2 hts gX5_undone_X5_delaysOf rfl rfl rfl (by decide +kernel) ⟨Nat.le_of_ble_eq_true rfl, Nat.le_of_ble_eq_true rfl⟩) hP hK hN 0 rfl rfl rfl hl.1 rfl (Nat.le_of_ble_eq_true rfl) dX5_undone_123 ⟨Nat.zero_le _, Nat.zero_le _⟩ ?_
                    refine lv_goto (tgt := 130) hx hb dX5_undone_126 (by decide) ?_
                    refine lv_iadd hx hb dX5_undone_130 ?_
                    refine lv_istore (lv' := [(5, .int ((smI (sLE F c f0 mo) d) + (ctI (sDelM F (nI d) mo) c))), (4, .int ((smI (sLD F c mo) d) + (ctI (sDelM F (nI d) mo) c))), (0, .ref (q 200)), (1, .int f0), (2, .int mo), (3, .int (ctI (sFail F f0 mo) c)), (6, .int (nI d))]) hx hb dX5_undone_131 hl (by decide) rfl (fun ls hl => ?_)
                    refine lv_iinc (v := ((nI d) + 1)) (lv' := [(6, .int ((nI d) + 1)), (5, .int ((smI (sLE F c f0 mo) d) + (ctI (sDelM F (nI d) mo) c))), (4, .int ((smI (sLD F c mo) d) + (ctI (sDelM F (nI d) mo) c))), (0, .ref (q 200)), (1, .int f0), (2, .int mo), (3, .int (ctI (sFail F f0 mo) c))]) hx hb dX5_undone_133 hl (k := 6) rfl rfl (by decide) rfl (fun ls hl => ?_)
                    refine lv_goto (tgt := 90) hx hb dX5_undone_136 (by decide) ?_
                    have h_24 : ((smI (sLD F c mo) d) + (ctI (sDelM F (nI d) mo) c)) = (smI (sLD F c mo) (d + 1)) := rfl
                    have h_25 : ((smI (sLE F c f0 mo) d) + (ctI (sDelM F (nI d) mo) c)) = (smI (sLE F c f0 mo) (d + 1)) := (by simp [smI, sLE, sLD, b_3, b_6, c_7, c_8, c_9, c_10, c_11, c_12, c_16, c_17, c_18, c_23])
                    have h_26 : ((nI d) + 1) = (nI (d + 1)) := (nI_1 _)
                    exact ih2 _ (lv_cast (lv_sub (l' := [(0, .ref (q 200)), (1, .int f0), (2, .int mo), (3, .int (ctI (sFail F f0 mo) c)), (4, .int ((smI (sLD F c mo) d) + (ctI (sDelM F (nI d) mo) c))), (5, .int ((smI (sLE F c f0 mo) d) + (ctI (sDelM F (nI d) mo) c))), (6, .int ((nI d) + 1))]) hl [3, 4, 5, 6, 2, 1, 0] rfl) (cg3 (fun z24 z25 z26 => [(0, .ref (q 200)), (1, .int f0), (2, .int mo), (3, .int (ctI (sFail F f0 mo) c)), (4, .int z24), (5, .int z25), (6, .int z26)]) h_24 h_25 h_26))
            · have c_27 := i_nlt c_11
              refine lv_iload_n hx hb dX5_undone_79 rfl (lv_at hl 3 rfl) ?_
              exact W.iret (v := (ctI (sFail F f0 mo) c)) hx hb hr (fun t9 ht9 hW9 => ⟨(ctI (sFail F f0 mo) c), rfl, (by first | with_reducible rfl | simp [aUndM, b_3, b_6, c_7, c_8, c_9, c_10, c_11, c_27]), ht9⟩) (fun _ h => by cases h) dX5_undone_80
          · exact absurd (nI_le (Nat.le_refl _) (by omega)) c_9
        · intro k hk0 hk ih ls hl
          have hl : lv_has ls 7 [(0, .ref (q 200)), (1, .int f0), (2, .int mo), (3, .int (ctI (sFail F f0 mo) k)), (4, .int (nI k))] := hl
          refine lv_iload hx hb dX5_undone_27 (lv_at hl 4 rfl) ?_
          refine lv_aload_n hx hb dX5_undone_29 rfl (lv_at hl 0 rfl) ?_
          refine va_get (D := D) (ci := 5) (v := .int (nI c)) (C := RX5) (T := TX5) (N := 21) hx hb hts (fun _ h => List.mem_cons_of_mem _ (List.mem_append_right _ h)) hown hK hP 0 rfl rfl 8 (by decide) (hts (.fieldLink RX5 102 "UnderPromiseModel" "claims" "I") (List.mem_of_getElem? (i := 1) rfl)) (fun _ h9 => h9) rfl dX5_undone_30 ?_
          refine lv_icmp_ge (tgt := 71) hx hb dX5_undone_33 (by decide) (fun c_28 => ?_) (fun c_28 => ?_)
          · exact absurd c_28 (nI_ge hk (by omega))
          · have c_29 := i_nle c_28
            refine lv_iload_n hx hb dX5_undone_36 rfl (lv_at hl 3 rfl) ?_
            refine lv_aload_n hx hb dX5_undone_37 rfl (lv_at hl 0 rfl) ?_
            refine lv_iload hx hb dX5_undone_38 (lv_at hl 4 rfl) ?_
            refine lv_iload_n hx hb dX5_undone_40 rfl (lv_at hl 2 rfl) ?_
            refine roVi (As := [.int (nI k), .int mo]) (rest := [.int (ctI (sFail F f0 mo) k)]) (v := (bI (sLetBy F mo k))) ⟨hx, hb, hml, hown, hts⟩ (c_X5_counts l D cs q F n c g up lo k mo hI (by omega)) (cwV 2 hts gX5_undone_X5_counts rfl rfl rfl (by decide +kernel) ⟨Nat.le_of_ble_eq_true rfl, Nat.le_of_ble_eq_true rfl⟩) hP hK hN 0 rfl rfl rfl hl.1 rfl (Nat.le_of_ble_eq_true rfl) dX5_undone_41 ⟨Nat.zero_le _, Nat.zero_le _⟩ ?_
            refine lv_if_eq (tgt := 62) hx hb dX5_undone_44 (by decide) (fun c_30 => ?_) (fun c_30 => ?_)
            · have b_31 : (sLetBy F mo k) = false := bI_f c_30
              refine lv_iconst (v := 0) hx hb dX5_undone_62 (by decide) ?_
              refine lv_iadd hx hb dX5_undone_63 ?_
              refine lv_istore_n (lv' := [(3, .int ((ctI (sFail F f0 mo) k) + 0)), (0, .ref (q 200)), (1, .int f0), (2, .int mo), (4, .int (nI k))]) hx hb dX5_undone_64 rfl hl (by decide) rfl (fun ls hl => ?_)
              refine lv_iinc (v := ((nI k) + 1)) (lv' := [(4, .int ((nI k) + 1)), (3, .int ((ctI (sFail F f0 mo) k) + 0)), (0, .ref (q 200)), (1, .int f0), (2, .int mo)]) hx hb dX5_undone_65 hl (k := 4) rfl rfl (by decide) rfl (fun ls hl => ?_)
              refine lv_goto (tgt := 27) hx hb dX5_undone_68 (by decide) ?_
              have h_32 : ((ctI (sFail F f0 mo) k) + 0) = (ctI (sFail F f0 mo) (k + 1)) := (by first | with_reducible rfl | simp [ctI, sFail, aUndM, b_3, b_6, c_7, c_8, c_28, c_29, b_31])
              have h_33 : ((nI k) + 1) = (nI (k + 1)) := (nI_1 _)
              exact ih _ (lv_cast (lv_sub (l' := [(0, .ref (q 200)), (1, .int f0), (2, .int mo), (3, .int ((ctI (sFail F f0 mo) k) + 0)), (4, .int ((nI k) + 1))]) hl [2, 3, 4, 1, 0] rfl) (cg2 (fun z32 z33 => [(0, .ref (q 200)), (1, .int f0), (2, .int mo), (3, .int z32), (4, .int z33)]) h_32 h_33))
            · have b_34 : (sLetBy F mo k) = true := bI_t c_30
              refine lv_aload_n hx hb dX5_undone_47 rfl (lv_at hl 0 rfl) ?_
              refine va_get (D := D) (ci := 5) (v := .ref (q 209)) (C := RX5) (T := TX5) (N := 21) hx hb hts (fun _ h => List.mem_cons_of_mem _ (List.mem_append_right _ h)) hown hK hP 0 rfl rfl 11 (by decide) (hts (.fieldLink RX5 38 "UnderPromiseModel" "failed" "[I") (List.mem_of_getElem? (i := 2) rfl)) (fun _ h9 => h9) rfl dX5_undone_48 ?_
              refine lv_iload hx hb dX5_undone_51 (lv_at hl 4 rfl) ?_
              refine iaK (v := (F 8 k)) hx hb hK hP 9 0 rfl rfl k (vp_in_nI (by omega) (by decide)) (nI_clamp (by omega)) rfl dX5_undone_53 ?_
              refine lv_iload_n hx hb dX5_undone_54 rfl (lv_at hl 1 rfl) ?_
              refine lv_icmp_ne (tgt := 62) hx hb dX5_undone_55 (by decide) (fun c_35 => ?_) (fun c_35 => ?_)
              · refine lv_iconst (v := 0) hx hb dX5_undone_62 (by decide) ?_
                refine lv_iadd hx hb dX5_undone_63 ?_
                refine lv_istore_n (lv' := [(3, .int ((ctI (sFail F f0 mo) k) + 0)), (0, .ref (q 200)), (1, .int f0), (2, .int mo), (4, .int (nI k))]) hx hb dX5_undone_64 rfl hl (by decide) rfl (fun ls hl => ?_)
                refine lv_iinc (v := ((nI k) + 1)) (lv' := [(4, .int ((nI k) + 1)), (3, .int ((ctI (sFail F f0 mo) k) + 0)), (0, .ref (q 200)), (1, .int f0), (2, .int mo)]) hx hb dX5_undone_65 hl (k := 4) rfl rfl (by decide) rfl (fun ls hl => ?_)
                refine lv_goto (tgt := 27) hx hb dX5_undone_68 (by decide) ?_
                have h_36 : ((ctI (sFail F f0 mo) k) + 0) = (ctI (sFail F f0 mo) (k + 1)) := (by first | with_reducible rfl | simp [ctI, sFail, aUndM, b_3, b_6, c_7, c_8, c_28, c_29, b_34, c_35])
                have h_37 : ((nI k) + 1) = (nI (k + 1)) := (nI_1 _)
                exact ih _ (lv_cast (lv_sub (l' := [(0, .ref (q 200)), (1, .int f0), (2, .int mo), (3, .int ((ctI (sFail F f0 mo) k) + 0)), (4, .int ((nI k) + 1))]) hl [2, 3, 4, 1, 0] rfl) (cg2 (fun z36 z37 => [(0, .ref (q 200)), (1, .int f0), (2, .int mo), (3, .int z36), (4, .int z37)]) h_36 h_37))
              · refine lv_iconst (v := 1) hx hb dX5_undone_58 (by decide) ?_
                refine lv_goto (tgt := 63) hx hb dX5_undone_59 (by decide) ?_
                refine lv_iadd hx hb dX5_undone_63 ?_
                refine lv_istore_n (lv' := [(3, .int ((ctI (sFail F f0 mo) k) + 1)), (0, .ref (q 200)), (1, .int f0), (2, .int mo), (4, .int (nI k))]) hx hb dX5_undone_64 rfl hl (by decide) rfl (fun ls hl => ?_)
                refine lv_iinc (v := ((nI k) + 1)) (lv' := [(4, .int ((nI k) + 1)), (3, .int ((ctI (sFail F f0 mo) k) + 1)), (0, .ref (q 200)), (1, .int f0), (2, .int mo)]) hx hb dX5_undone_65 hl (k := 4) rfl rfl (by decide) rfl (fun ls hl => ?_)
                refine lv_goto (tgt := 27) hx hb dX5_undone_68 (by decide) ?_
                have h_38 : ((ctI (sFail F f0 mo) k) + 1) = (ctI (sFail F f0 mo) (k + 1)) := (by first | with_reducible rfl | simp [ctI, sFail, aUndM, b_3, b_6, c_7, c_8, c_28, c_29, b_34, c_35])
                have h_39 : ((nI k) + 1) = (nI (k + 1)) := (nI_1 _)
                exact ih _ (lv_cast (lv_sub (l' := [(0, .ref (q 200)), (1, .int f0), (2, .int mo), (3, .int ((ctI (sFail F f0 mo) k) + 1)), (4, .int ((nI k) + 1))]) hl [2, 3, 4, 1, 0] rfl) (cg2 (fun z38 z39 => [(0, .ref (q 200)), (1, .int f0), (2, .int mo), (3, .int z38), (4, .int z39)]) h_38 h_39))
      · have c_40 := i_nle c_7
        refine lv_bipush (v := (-2)) hx hb dX5_undone_19 (by decide) ?_
        exact W.iret (v := (-2)) hx hb hr (fun t9 ht9 hW9 => ⟨(-2), rfl, (by first | with_reducible rfl | simp [aUndM, b_3, b_6, c_7, c_40]), ht9⟩) (fun _ h => by cases h) dX5_undone_21
set_option maxHeartbeats 4000000 in
set_option maxRecDepth 100000 in
/-- X5_hasClaim -/
theorem c_X5_hasClaim (l : Launch) (D : va_G) (cs : Nat → ClassId) (q : Nat → Nat) (F : Nat → Nat → Int32) (n c : Nat) (g : Int32) (up lo : Int64) (t : Nat) (p0 : Int32) (mo : Int32) (hI : Inv F n c) (ht : t < n) : Met l yX5_hasClaim wsX5_hasClaim ({ frames := 1, cells := 0, slots := 0, locals := 22 }) (va_Pc [.ref (q 200), .int (nI t), .int p0, .int mo] (pw D cs (mW q cs F n c g up lo))) (vp_Si (fun r => r = (bI (anyB (sHasC F t p0 mo) c)))) 0 0 (fun _ => False) := by
  refine Met.ofW (cc := cX5_hasClaim) (maxL := 6) (ret := (some .boolean)) (by decide) rfl ?_
  intro p e s m args below meth c_ s₁ B hml hv
  obtain ⟨rfl, hP, hK, hN⟩ := hv
  have hx := B.exec
  have hb := B.bytes
  have hr := B.returns
  have hts := atoms_spec (ws := wsX5_hasClaim) B.pre
  have hown : s.vm.findClass RX5 = some m.cls := findClass_of_methodNamed B.named
  have hlocks := B.notSynchronized
  have hl := lv_entry ([.ref (q 200), .int (nI t), .int p0, .int mo]) (n := 6) (Nat.le_of_ble_eq_true rfl)
  rw [lg_entry_eq]
  generalize (lg_sl ([.ref (q 200), .int (nI t), .int p0, .int mo]) ++ List.replicate (6 - (lg_sl ([.ref (q 200), .int (nI t), .int p0, .int mo])).length) Slot.unset).toArray = ls at hl ⊢
  have hl : lv_has ls 6 [(0, .ref (q 200)), (1, .int (nI t)), (2, .int p0), (3, .int mo)] := hl
  have hn60 := hI.n60
  have hc100 := hI.c100
  refine lv_iconst (v := 0) hx hb dX5_hasClaim_0 (by decide) ?_
  refine lv_istore (lv' := [(4, .int 0), (0, .ref (q 200)), (1, .int (nI t)), (2, .int p0), (3, .int mo)]) hx hb dX5_hasClaim_1 hl (by decide) rfl (fun ls hl => ?_)
  refine lv_iconst (v := 0) hx hb dX5_hasClaim_3 (by decide) ?_
  refine lv_istore (lv' := [(5, .int 0), (4, .int 0), (0, .ref (q 200)), (1, .int (nI t)), (2, .int p0), (3, .int mo)]) hx hb dX5_hasClaim_4 hl (by decide) rfl (fun ls hl => ?_)
  refine lpW (fun k ls => lv_has ls 6 [(0, .ref (q 200)), (1, .int (nI t)), (2, .int p0), (3, .int mo), (4, .int (bI (anyB (sHasC F t p0 mo) k))), (5, .int (nI k))]) c 0 (Nat.zero_le _) ls (show lv_has ls 6 [(0, .ref (q 200)), (1, .int (nI t)), (2, .int p0), (3, .int mo), (4, .int (bI (anyB (sHasC F t p0 mo) 0))), (5, .int (nI 0))] from lv_sub hl [2, 3, 4, 5, 1, 0] rfl) ?_ ?_
  · intro ls hl
    have hl : lv_has ls 6 [(0, .ref (q 200)), (1, .int (nI t)), (2, .int p0), (3, .int mo), (4, .int (bI (anyB (sHasC F t p0 mo) c))), (5, .int (nI c))] := hl
    refine lv_iload hx hb dX5_hasClaim_6 (lv_at hl 5 rfl) ?_
    refine lv_aload_n hx hb dX5_hasClaim_8 rfl (lv_at hl 0 rfl) ?_
    refine va_get (D := D) (ci := 5) (v := .int (nI c)) (C := RX5) (T := TX5) (N := 21) hx hb hts (fun _ h => List.mem_cons_of_mem _ (List.mem_append_right _ h)) hown hK hP 0 rfl rfl 8 (by decide) (hts (.fieldLink RX5 102 "UnderPromiseModel" "claims" "I") (List.mem_of_getElem? (i := 1) rfl)) (fun _ h9 => h9) rfl dX5_hasClaim_9 ?_
    refine lv_icmp_ge (tgt := 65) hx hb dX5_hasClaim_12 (by decide) (fun c_1 => ?_) (fun c_1 => ?_)
    · have c_2 := i_le c_1
      refine lv_iload hx hb dX5_hasClaim_65 (lv_at hl 4 rfl) ?_
      exact W.zret (v := (bI (anyB (sHasC F t p0 mo) c))) hx hb hr (bI_n (anyB (sHasC F t p0 mo) c)) (fun t9 ht9 hW9 => ⟨(bI (anyB (sHasC F t p0 mo) c)), rfl, rfl, ht9⟩) (fun _ h => by cases h) dX5_hasClaim_67
    · exact absurd (nI_le (Nat.le_refl _) (by omega)) c_1
  · intro k hk0 hk ih ls hl
    have hl : lv_has ls 6 [(0, .ref (q 200)), (1, .int (nI t)), (2, .int p0), (3, .int mo), (4, .int (bI (anyB (sHasC F t p0 mo) k))), (5, .int (nI k))] := hl
    refine lv_iload hx hb dX5_hasClaim_6 (lv_at hl 5 rfl) ?_
    refine lv_aload_n hx hb dX5_hasClaim_8 rfl (lv_at hl 0 rfl) ?_
    refine va_get (D := D) (ci := 5) (v := .int (nI c)) (C := RX5) (T := TX5) (N := 21) hx hb hts (fun _ h => List.mem_cons_of_mem _ (List.mem_append_right _ h)) hown hK hP 0 rfl rfl 8 (by decide) (hts (.fieldLink RX5 102 "UnderPromiseModel" "claims" "I") (List.mem_of_getElem? (i := 1) rfl)) (fun _ h9 => h9) rfl dX5_hasClaim_9 ?_
    refine lv_icmp_ge (tgt := 65) hx hb dX5_hasClaim_12 (by decide) (fun c_3 => ?_) (fun c_3 => ?_)
    · exact absurd c_3 (nI_ge hk (by omega))
    · have c_4 := i_nle c_3
      refine lv_iload hx hb dX5_hasClaim_15 (lv_at hl 4 rfl) ?_
      refine lv_if_ne (tgt := 52) hx hb dX5_hasClaim_17 (by decide) (fun c_5 => ?_) (fun c_5 => ?_)
      · have b_6 : (anyB (sHasC F t p0 mo) k) = true := bI_t c_5
        refine lv_iconst (v := 1) hx hb dX5_hasClaim_52 (by decide) ?_
        refine lv_goto (tgt := 57) hx hb dX5_hasClaim_53 (by decide) ?_
        refine lv_istore (lv' := [(4, .int 1), (0, .ref (q 200)), (1, .int (nI t)), (2, .int p0), (3, .int mo), (5, .int (nI k))]) hx hb dX5_hasClaim_57 hl (by decide) rfl (fun ls hl => ?_)
        refine lv_iinc (v := ((nI k) + 1)) (lv' := [(5, .int ((nI k) + 1)), (4, .int 1), (0, .ref (q 200)), (1, .int (nI t)), (2, .int p0), (3, .int mo)]) hx hb dX5_hasClaim_59 hl (k := 5) rfl rfl (by decide) rfl (fun ls hl => ?_)
        refine lv_goto (tgt := 6) hx hb dX5_hasClaim_62 (by decide) ?_
        have h_7 : 1 = (bI (anyB (sHasC F t p0 mo) (k + 1))) := (by first | with_reducible rfl | simp [anyB, sHasC, bI, c_3, c_4, b_6])
        have h_8 : ((nI k) + 1) = (nI (k + 1)) := (nI_1 _)
        exact ih _ (lv_cast (lv_sub (l' := [(0, .ref (q 200)), (1, .int (nI t)), (2, .int p0), (3, .int mo), (4, .int 1), (5, .int ((nI k) + 1))]) hl [2, 3, 4, 5, 1, 0] rfl) (cg2 (fun z7 z8 => [(0, .ref (q 200)), (1, .int (nI t)), (2, .int p0), (3, .int mo), (4, .int z7), (5, .int z8)]) h_7 h_8))
      · have b_9 : (anyB (sHasC F t p0 mo) k) = false := bI_f c_5
        refine lv_aload_n hx hb dX5_hasClaim_20 rfl (lv_at hl 0 rfl) ?_
        refine lv_iload hx hb dX5_hasClaim_21 (lv_at hl 5 rfl) ?_
        refine lv_iload_n hx hb dX5_hasClaim_23 rfl (lv_at hl 3 rfl) ?_
        refine roVi (As := [.int (nI k), .int mo]) (rest := []) (v := (bI (sLetBy F mo k))) ⟨hx, hb, hml, hown, hts⟩ (c_X5_counts l D cs q F n c g up lo k mo hI (by omega)) (cwV 2 hts gX5_hasClaim_X5_counts rfl rfl rfl (by decide +kernel) ⟨Nat.le_of_ble_eq_true rfl, Nat.le_of_ble_eq_true rfl⟩) hP hK hN 0 rfl rfl rfl hl.1 rfl (Nat.le_of_ble_eq_true rfl) dX5_hasClaim_24 ⟨Nat.zero_le _, Nat.zero_le _⟩ ?_
        refine lv_if_eq (tgt := 56) hx hb dX5_hasClaim_27 (by decide) (fun c_10 => ?_) (fun c_10 => ?_)
        · have b_11 : (sLetBy F mo k) = false := bI_f c_10
          refine lv_iconst (v := 0) hx hb dX5_hasClaim_56 (by decide) ?_
          refine lv_istore (lv' := [(4, .int 0), (0, .ref (q 200)), (1, .int (nI t)), (2, .int p0), (3, .int mo), (5, .int (nI k))]) hx hb dX5_hasClaim_57 hl (by decide) rfl (fun ls hl => ?_)
          refine lv_iinc (v := ((nI k) + 1)) (lv' := [(5, .int ((nI k) + 1)), (4, .int 0), (0, .ref (q 200)), (1, .int (nI t)), (2, .int p0), (3, .int mo)]) hx hb dX5_hasClaim_59 hl (k := 5) rfl rfl (by decide) rfl (fun ls hl => ?_)
          refine lv_goto (tgt := 6) hx hb dX5_hasClaim_62 (by decide) ?_
          have h_12 : 0 = (bI (anyB (sHasC F t p0 mo) (k + 1))) := (by first | with_reducible rfl | simp [anyB, sHasC, bI, c_3, c_4, b_9, b_11])
          have h_13 : ((nI k) + 1) = (nI (k + 1)) := (nI_1 _)
          exact ih _ (lv_cast (lv_sub (l' := [(0, .ref (q 200)), (1, .int (nI t)), (2, .int p0), (3, .int mo), (4, .int 0), (5, .int ((nI k) + 1))]) hl [2, 3, 4, 5, 1, 0] rfl) (cg2 (fun z12 z13 => [(0, .ref (q 200)), (1, .int (nI t)), (2, .int p0), (3, .int mo), (4, .int z12), (5, .int z13)]) h_12 h_13))
        · have b_14 : (sLetBy F mo k) = true := bI_t c_10
          refine lv_aload_n hx hb dX5_hasClaim_30 rfl (lv_at hl 0 rfl) ?_
          refine va_get (D := D) (ci := 5) (v := .ref (q 207)) (C := RX5) (T := TX5) (N := 21) hx hb hts (fun _ h => List.mem_cons_of_mem _ (List.mem_append_right _ h)) hown hK hP 0 rfl rfl 9 (by decide) (hts (.fieldLink RX5 32 "UnderPromiseModel" "ofThing" "[I") (List.mem_of_getElem? (i := 2) rfl)) (fun _ h9 => h9) rfl dX5_hasClaim_31 ?_
          refine lv_iload hx hb dX5_hasClaim_34 (lv_at hl 5 rfl) ?_
          refine iaK (v := (F 6 k)) hx hb hK hP 7 0 rfl rfl k (vp_in_nI (by omega) (by decide)) (nI_clamp (by omega)) rfl dX5_hasClaim_36 ?_
          refine lv_iload_n hx hb dX5_hasClaim_37 rfl (lv_at hl 1 rfl) ?_
          refine lv_icmp_ne (tgt := 56) hx hb dX5_hasClaim_38 (by decide) (fun c_15 => ?_) (fun c_15 => ?_)
          · refine lv_iconst (v := 0) hx hb dX5_hasClaim_56 (by decide) ?_
            refine lv_istore (lv' := [(4, .int 0), (0, .ref (q 200)), (1, .int (nI t)), (2, .int p0), (3, .int mo), (5, .int (nI k))]) hx hb dX5_hasClaim_57 hl (by decide) rfl (fun ls hl => ?_)
            refine lv_iinc (v := ((nI k) + 1)) (lv' := [(5, .int ((nI k) + 1)), (4, .int 0), (0, .ref (q 200)), (1, .int (nI t)), (2, .int p0), (3, .int mo)]) hx hb dX5_hasClaim_59 hl (k := 5) rfl rfl (by decide) rfl (fun ls hl => ?_)
            refine lv_goto (tgt := 6) hx hb dX5_hasClaim_62 (by decide) ?_
            have h_16 : 0 = (bI (anyB (sHasC F t p0 mo) (k + 1))) := (by first | with_reducible rfl | simp [anyB, sHasC, bI, c_3, c_4, b_9, b_14, c_15])
            have h_17 : ((nI k) + 1) = (nI (k + 1)) := (nI_1 _)
            exact ih _ (lv_cast (lv_sub (l' := [(0, .ref (q 200)), (1, .int (nI t)), (2, .int p0), (3, .int mo), (4, .int 0), (5, .int ((nI k) + 1))]) hl [2, 3, 4, 5, 1, 0] rfl) (cg2 (fun z16 z17 => [(0, .ref (q 200)), (1, .int (nI t)), (2, .int p0), (3, .int mo), (4, .int z16), (5, .int z17)]) h_16 h_17))
          · refine lv_aload_n hx hb dX5_hasClaim_41 rfl (lv_at hl 0 rfl) ?_
            refine va_get (D := D) (ci := 5) (v := .ref (q 208)) (C := RX5) (T := TX5) (N := 21) hx hb hts (fun _ h => List.mem_cons_of_mem _ (List.mem_append_right _ h)) hown hK hP 0 rfl rfl 10 (by decide) (hts (.fieldLink RX5 35 "UnderPromiseModel" "ofPart" "[I") (List.mem_of_getElem? (i := 3) rfl)) (fun _ h9 => h9) rfl dX5_hasClaim_42 ?_
            refine lv_iload hx hb dX5_hasClaim_45 (lv_at hl 5 rfl) ?_
            refine iaK (v := (F 7 k)) hx hb hK hP 8 0 rfl rfl k (vp_in_nI (by omega) (by decide)) (nI_clamp (by omega)) rfl dX5_hasClaim_47 ?_
            refine lv_iload_n hx hb dX5_hasClaim_48 rfl (lv_at hl 2 rfl) ?_
            refine lv_icmp_ne (tgt := 56) hx hb dX5_hasClaim_49 (by decide) (fun c_18 => ?_) (fun c_18 => ?_)
            · refine lv_iconst (v := 0) hx hb dX5_hasClaim_56 (by decide) ?_
              refine lv_istore (lv' := [(4, .int 0), (0, .ref (q 200)), (1, .int (nI t)), (2, .int p0), (3, .int mo), (5, .int (nI k))]) hx hb dX5_hasClaim_57 hl (by decide) rfl (fun ls hl => ?_)
              refine lv_iinc (v := ((nI k) + 1)) (lv' := [(5, .int ((nI k) + 1)), (4, .int 0), (0, .ref (q 200)), (1, .int (nI t)), (2, .int p0), (3, .int mo)]) hx hb dX5_hasClaim_59 hl (k := 5) rfl rfl (by decide) rfl (fun ls hl => ?_)
              refine lv_goto (tgt := 6) hx hb dX5_hasClaim_62 (by decide) ?_
              have h_19 : 0 = (bI (anyB (sHasC F t p0 mo) (k + 1))) := (by first | with_reducible rfl | simp [anyB, sHasC, bI, c_3, c_4, b_9, b_14, c_15, c_18])
              have h_20 : ((nI k) + 1) = (nI (k + 1)) := (nI_1 _)
              exact ih _ (lv_cast (lv_sub (l' := [(0, .ref (q 200)), (1, .int (nI t)), (2, .int p0), (3, .int mo), (4, .int 0), (5, .int ((nI k) + 1))]) hl [2, 3, 4, 5, 1, 0] rfl) (cg2 (fun z19 z20 => [(0, .ref (q 200)), (1, .int (nI t)), (2, .int p0), (3, .int mo), (4, .int z19), (5, .int z20)]) h_19 h_20))
            · refine lv_iconst (v := 1) hx hb dX5_hasClaim_52 (by decide) ?_
              refine lv_goto (tgt := 57) hx hb dX5_hasClaim_53 (by decide) ?_
              refine lv_istore (lv' := [(4, .int 1), (0, .ref (q 200)), (1, .int (nI t)), (2, .int p0), (3, .int mo), (5, .int (nI k))]) hx hb dX5_hasClaim_57 hl (by decide) rfl (fun ls hl => ?_)
              refine lv_iinc (v := ((nI k) + 1)) (lv' := [(5, .int ((nI k) + 1)), (4, .int 1), (0, .ref (q 200)), (1, .int (nI t)), (2, .int p0), (3, .int mo)]) hx hb dX5_hasClaim_59 hl (k := 5) rfl rfl (by decide) rfl (fun ls hl => ?_)
              refine lv_goto (tgt := 6) hx hb dX5_hasClaim_62 (by decide) ?_
              have h_21 : 1 = (bI (anyB (sHasC F t p0 mo) (k + 1))) := (by first | with_reducible rfl | simp [anyB, sHasC, bI, c_3, c_4, b_9, b_14, c_15, c_18])
              have h_22 : ((nI k) + 1) = (nI (k + 1)) := (nI_1 _)
              exact ih _ (lv_cast (lv_sub (l' := [(0, .ref (q 200)), (1, .int (nI t)), (2, .int p0), (3, .int mo), (4, .int 1), (5, .int ((nI k) + 1))]) hl [2, 3, 4, 5, 1, 0] rfl) (cg2 (fun z21 z22 => [(0, .ref (q 200)), (1, .int (nI t)), (2, .int p0), (3, .int mo), (4, .int z21), (5, .int z22)]) h_21 h_22))
