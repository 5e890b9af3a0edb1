set_option maxHeartbeats 4000000 in
set_option maxRecDepth 100000 in
/-- X0_delay -/
theorem c_X0_delay (l : Launch) (D : va_G) (cs : Nat → ClassId) (q : Nat → Nat) (F : Nat → Nat → Int32) (n c : Nat) (k : Nat) (hI : Inv F n c) (hk : k < c) : Met l yX0_delay wsX0_delay ({ frames := 0, cells := 0, slots := 0, locals := 0 }) (va_Pc [.ref (q 2), .int (nI k)] (pw D cs (cW q cs F c))) (vp_Si (fun r => r = (F 9 k - F 8 k))) 0 0 (fun _ => False) := by
  refine Met.ofW (cc := cX0_delay) (maxL := 2) (ret := (some .int)) (by decide) rfl ?_
  intro p e s m args below meth c_ s₁ B hml hv
  obtain ⟨rfl, hP, hK, hN⟩ := hv
  have hx := B.exec
  have hb := B.bytes
  have hr := B.returns
  have hts := atoms_spec (ws := wsX0_delay) B.pre
  have hown : s.vm.findClass RX0 = some m.cls := findClass_of_methodNamed B.named
  have hlocks := B.notSynchronized
  have hl := lv_entry ([.ref (q 2), .int (nI k)]) (n := 2) (Nat.le_of_ble_eq_true rfl)
  rw [lg_entry_eq]
  generalize (lg_sl ([.ref (q 2), .int (nI k)]) ++ List.replicate (2 - (lg_sl ([.ref (q 2), .int (nI k)])).length) Slot.unset).toArray = ls at hl ⊢
  have hl : lv_has ls 2 [(0, .ref (q 2)), (1, .int (nI k))] := hl
  have hn60 := hI.n60
  have hc100 := hI.c100
  refine lv_aload_n hx hb dX0_delay_0 rfl (lv_at hl 0 rfl) ?_
  refine va_get (D := D) (ci := 0) (v := .ref (q 23)) (C := RX0) (T := TX0) (N := 8) hx hb hts (fun _ h => List.mem_cons_of_mem _ (List.mem_append_right _ h)) hown hK hP 0 rfl rfl 3 (by decide) (hts (.fieldLink RX0 21 "UnderPromise$Claims" "told" "[I") (List.mem_of_getElem? (i := 1) rfl)) (fun _ h9 => h9) rfl dX0_delay_1 ?_
  refine lv_iload_n hx hb dX0_delay_4 rfl (lv_at hl 1 rfl) ?_
  refine iaK (v := (F 9 k)) hx hb hK hP 4 0 rfl rfl k (vp_in_nI (by omega) (by decide)) (nI_clamp (by omega)) rfl dX0_delay_5 ?_
  refine lv_aload_n hx hb dX0_delay_6 rfl (lv_at hl 0 rfl) ?_
  refine va_get (D := D) (ci := 0) (v := .ref (q 22)) (C := RX0) (T := TX0) (N := 8) hx hb hts (fun _ h => List.mem_cons_of_mem _ (List.mem_append_right _ h)) hown hK hP 0 rfl rfl 2 (by decide) (hts (.fieldLink RX0 18 "UnderPromise$Claims" "failed" "[I") (List.mem_of_getElem? (i := 2) rfl)) (fun _ h9 => h9) rfl dX0_delay_7 ?_
  refine lv_iload_n hx hb dX0_delay_10 rfl (lv_at hl 1 rfl) ?_
  refine iaK (v := (F 8 k)) hx hb hK hP 3 0 rfl rfl k (vp_in_nI (by omega) (by decide)) (nI_clamp (by omega)) rfl dX0_delay_11 ?_
  refine lv_isub hx hb dX0_delay_12 ?_
  exact W.iret (v := ((F 9 k) - (F 8 k))) hx hb hr (fun t9 ht9 hW9 => ⟨((F 9 k) - (F 8 k)), rfl, (by first | with_reducible rfl | simp []), ht9⟩) (fun _ h => by cases h) dX0_delay_13
set_option maxHeartbeats 4000000 in
set_option maxRecDepth 100000 in
/-- X0_tell -/
theorem c_X0_tell (l : Launch) (D : va_G) (cs : Nat → ClassId) (q : Nat → Nat) (F : Nat → Nat → Int32) (n c : Nat) (k : Nat) (w : Int32) (hI : Inv F n c) (hk : k < c) : Met l yX0_tell wsX0_tell ({ frames := 1, cells := 0, slots := 0, locals := 21 }) (va_Pc [.ref (q 2), .int (nI k), .int w] (pw D cs (cW q cs F c))) (vp_Si (fun r => r = (sTell F k w))) 0 0 (fun _ => False) := by
  refine Met.ofW (cc := cX0_tell) (maxL := 3) (ret := (some .int)) (by decide) rfl ?_
  intro p e s m args below meth c_ s₁ B hml hv
  obtain ⟨rfl, hP, hK, hN⟩ := hv
  have hx := B.exec
  have hb := B.bytes
  have hr := B.returns
  have hts := atoms_spec (ws := wsX0_tell) B.pre
  have hown : s.vm.findClass RX0 = some m.cls := findClass_of_methodNamed B.named
  have hlocks := B.notSynchronized
  have hl := lv_entry ([.ref (q 2), .int (nI k), .int w]) (n := 3) (Nat.le_of_ble_eq_true rfl)
  rw [lg_entry_eq]
  generalize (lg_sl ([.ref (q 2), .int (nI k), .int w]) ++ List.replicate (3 - (lg_sl ([.ref (q 2), .int (nI k), .int w])).length) Slot.unset).toArray = ls at hl ⊢
  have hl : lv_has ls 3 [(0, .ref (q 2)), (1, .int (nI k)), (2, .int w)] := hl
  have hn60 := hI.n60
  have hc100 := hI.c100
  refine lv_iload_n hx hb dX0_tell_0 rfl (lv_at hl 2 rfl) ?_
  rcases Classical.em (w = 0) with w_1 | w_1
  · subst w_1
    refine lv_tableIn (tgt := 40) hx hb dX0_tell_1 (by decide) (by decide) (off := 39) (by decide) (by decide) ?_
    refine lv_aload_n hx hb dX0_tell_40 rfl (lv_at hl 0 rfl) ?_
    refine va_get (D := D) (ci := 0) (v := .ref (q 20)) (C := RX0) (T := TX0) (N := 8) hx hb hts (fun _ h => List.mem_cons_of_mem _ (List.mem_append_right _ h)) hown hK hP 0 rfl rfl 0 (by decide) (hts (.fieldLink RX0 9 "UnderPromise$Claims" "thing" "[I") (List.mem_of_getElem? (i := 1) rfl)) (fun _ h9 => h9) rfl dX0_tell_41 ?_
    refine lv_iload_n hx hb dX0_tell_44 rfl (lv_at hl 1 rfl) ?_
    refine iaK (v := (F 6 k)) hx hb hK hP 1 0 rfl rfl k (vp_in_nI (by omega) (by decide)) (nI_clamp (by omega)) rfl dX0_tell_45 ?_
    exact W.iret (v := (F 6 k)) hx hb hr (fun t9 ht9 hW9 => ⟨(F 6 k), rfl, (by first | with_reducible rfl | simp [sTell]), ht9⟩) (fun _ h => by cases h) dX0_tell_46
  rcases Classical.em (w = 1) with w_2 | w_2
  · subst w_2
    refine lv_tableIn (tgt := 47) hx hb dX0_tell_1 (by decide) (by decide) (off := 46) (by decide) (by decide) ?_
    refine lv_aload_n hx hb dX0_tell_47 rfl (lv_at hl 0 rfl) ?_
    refine va_get (D := D) (ci := 0) (v := .ref (q 21)) (C := RX0) (T := TX0) (N := 8) hx hb hts (fun _ h => List.mem_cons_of_mem _ (List.mem_append_right _ h)) hown hK hP 0 rfl rfl 1 (by decide) (hts (.fieldLink RX0 15 "UnderPromise$Claims" "part" "[I") (List.mem_of_getElem? (i := 2) rfl)) (fun _ h9 => h9) rfl dX0_tell_48 ?_
    refine lv_iload_n hx hb dX0_tell_51 rfl (lv_at hl 1 rfl) ?_
    refine iaK (v := (F 7 k)) hx hb hK hP 2 0 rfl rfl k (vp_in_nI (by omega) (by decide)) (nI_clamp (by omega)) rfl dX0_tell_52 ?_
    exact W.iret (v := (F 7 k)) hx hb hr (fun t9 ht9 hW9 => ⟨(F 7 k), rfl, (by first | with_reducible rfl | simp [sTell, w_1]), ht9⟩) (fun _ h => by cases h) dX0_tell_53
  rcases Classical.em (w = 2) with w_3 | w_3
  · subst w_3
    refine lv_tableIn (tgt := 54) hx hb dX0_tell_1 (by decide) (by decide) (off := 53) (by decide) (by decide) ?_
    refine lv_aload_n hx hb dX0_tell_54 rfl (lv_at hl 0 rfl) ?_
    refine va_get (D := D) (ci := 0) (v := .ref (q 22)) (C := RX0) (T := TX0) (N := 8) hx hb hts (fun _ h => List.mem_cons_of_mem _ (List.mem_append_right _ h)) hown hK hP 0 rfl rfl 2 (by decide) (hts (.fieldLink RX0 18 "UnderPromise$Claims" "failed" "[I") (List.mem_of_getElem? (i := 3) rfl)) (fun _ h9 => h9) rfl dX0_tell_55 ?_
    refine lv_iload_n hx hb dX0_tell_58 rfl (lv_at hl 1 rfl) ?_
    refine iaK (v := (F 8 k)) hx hb hK hP 3 0 rfl rfl k (vp_in_nI (by omega) (by decide)) (nI_clamp (by omega)) rfl dX0_tell_59 ?_
    exact W.iret (v := (F 8 k)) hx hb hr (fun t9 ht9 hW9 => ⟨(F 8 k), rfl, (by first | with_reducible rfl | simp [sTell, w_1, w_2]), ht9⟩) (fun _ h => by cases h) dX0_tell_60
  rcases Classical.em (w = 3) with w_4 | w_4
  · subst w_4
    refine lv_tableIn (tgt := 61) hx hb dX0_tell_1 (by decide) (by decide) (off := 60) (by decide) (by decide) ?_
    refine lv_aload_n hx hb dX0_tell_61 rfl (lv_at hl 0 rfl) ?_
    refine va_get (D := D) (ci := 0) (v := .ref (q 23)) (C := RX0) (T := TX0) (N := 8) hx hb hts (fun _ h => List.mem_cons_of_mem _ (List.mem_append_right _ h)) hown hK hP 0 rfl rfl 3 (by decide) (hts (.fieldLink RX0 21 "UnderPromise$Claims" "told" "[I") (List.mem_of_getElem? (i := 4) rfl)) (fun _ h9 => h9) rfl dX0_tell_62 ?_
    refine lv_iload_n hx hb dX0_tell_65 rfl (lv_at hl 1 rfl) ?_
    refine iaK (v := (F 9 k)) hx hb hK hP 4 0 rfl rfl k (vp_in_nI (by omega) (by decide)) (nI_clamp (by omega)) rfl dX0_tell_66 ?_
    exact W.iret (v := (F 9 k)) hx hb hr (fun t9 ht9 hW9 => ⟨(F 9 k), rfl, (by first | with_reducible rfl | simp [sTell, w_1, w_2, w_3]), ht9⟩) (fun _ h => by cases h) dX0_tell_67
  rcases Classical.em (w = 4) with w_5 | w_5
  · subst w_5
    refine lv_tableIn (tgt := 68) hx hb dX0_tell_1 (by decide) (by decide) (off := 67) (by decide) (by decide) ?_
    refine lv_aload_n hx hb dX0_tell_68 rfl (lv_at hl 0 rfl) ?_
    refine va_get (D := D) (ci := 0) (v := .ref (q 24)) (C := RX0) (T := TX0) (N := 8) hx hb hts (fun _ h => List.mem_cons_of_mem _ (List.mem_append_right _ h)) hown hK hP 0 rfl rfl 4 (by decide) (hts (.fieldLink RX0 24 "UnderPromise$Claims" "cost" "[I") (List.mem_of_getElem? (i := 5) rfl)) (fun _ h9 => h9) rfl dX0_tell_69 ?_
    refine lv_iload_n hx hb dX0_tell_72 rfl (lv_at hl 1 rfl) ?_
    refine iaK (v := (F 10 k)) hx hb hK hP 5 0 rfl rfl k (vp_in_nI (by omega) (by decide)) (nI_clamp (by omega)) rfl dX0_tell_73 ?_
    exact W.iret (v := (F 10 k)) hx hb hr (fun t9 ht9 hW9 => ⟨(F 10 k), rfl, (by first | with_reducible rfl | simp [sTell, w_1, w_2, w_3, w_4]), ht9⟩) (fun _ h => by cases h) dX0_tell_74
  rcases Classical.em (w = 5) with w_6 | w_6
  · subst w_6
    refine lv_tableIn (tgt := 75) hx hb dX0_tell_1 (by decide) (by decide) (off := 74) (by decide) (by decide) ?_
    refine lv_aload_n hx hb dX0_tell_75 rfl (lv_at hl 0 rfl) ?_
    refine va_get (D := D) (ci := 0) (v := .ref (q 26)) (C := RX0) (T := TX0) (N := 8) hx hb hts (fun _ h => List.mem_cons_of_mem _ (List.mem_append_right _ h)) hown hK hP 0 rfl rfl 6 (by decide) (hts (.fieldLink RX0 30 "UnderPromise$Claims" "judged" "[I") (List.mem_of_getElem? (i := 6) rfl)) (fun _ h9 => h9) rfl dX0_tell_76 ?_
    refine lv_iload_n hx hb dX0_tell_79 rfl (lv_at hl 1 rfl) ?_
    refine iaK (v := (F 11 k)) hx hb hK hP 7 0 rfl rfl k (vp_in_nI (by omega) (by decide)) (nI_clamp (by omega)) rfl dX0_tell_80 ?_
    exact W.iret (v := (F 11 k)) hx hb hr (fun t9 ht9 hW9 => ⟨(F 11 k), rfl, (by first | with_reducible rfl | simp [sTell, w_1, w_2, w_3, w_4, w_5]), ht9⟩) (fun _ h => by cases h) dX0_tell_81
  refine lv_tableOut (tgt := 82) hx hb dX0_tell_1 (sw_out (lo := 0) (hi := 5) (by decide) (by decide) (by intro j h1 h2; rcases (by omega : j = 0 ∨ j = 1 ∨ j = 2 ∨ j = 3 ∨ j = 4 ∨ j = 5) with rfl | rfl | rfl | rfl | rfl | rfl <;> assumption)) (by decide) ?_
  refine lv_aload_n hx hb dX0_tell_82 rfl (lv_at hl 0 rfl) ?_
  refine lv_iload_n hx hb dX0_tell_83 rfl (lv_at hl 1 rfl) ?_
  refine roVi (As := [.int (nI k)]) (rest := []) (v := (F 9 k - F 8 k)) ⟨hx, hb, hml, hown, hts⟩ (c_X0_delay l D cs q F n c k hI (by omega)) (cwV 1 hts gX0_tell_X0_delay rfl rfl rfl (by decide +kernel) ⟨Nat.le_of_ble_eq_true rfl, Nat.le_of_ble_eq_true rfl⟩) hP hK hN 0 rfl rfl rfl hl.1 rfl (Nat.le_of_ble_eq_true rfl) dX0_tell_84 ⟨Nat.zero_le _, Nat.zero_le _⟩ ?_
  exact W.iret (v := (F 9 k - F 8 k)) hx hb hr (fun t9 ht9 hW9 => ⟨(F 9 k - F 8 k), rfl, (by first | with_reducible rfl | simp [sTell, w_1, w_2, w_3, w_4, w_5, w_6]), ht9⟩) (fun _ h => by cases h) dX0_tell_87
set_option maxHeartbeats 4000000 in
set_option maxRecDepth 100000 in
/-- X0_isLetBy -/
theorem c_X0_isLetBy (l : Launch) (D : va_G) (cs : Nat → ClassId) (q : Nat → Nat) (F : Nat → Nat → Int32) (n c : Nat) (k : Nat) (mo : Int32) (hI : Inv F n c) (hk : k < c) : Met l yX0_isLetBy wsX0_isLetBy ({ frames := 0, cells := 0, slots := 0, locals := 0 }) (va_Pc [.ref (q 2), .int (nI k), .int mo] (pw D cs (cW q cs F c))) (vp_Si (fun r => r = (bI (sLetBy F mo k)))) 0 0 (fun _ => False) := by
  refine Met.ofW (cc := cX0_isLetBy) (maxL := 3) (ret := (some .boolean)) (by decide) rfl ?_
  intro p e s m args below meth c_ s₁ B hml hv
  obtain ⟨rfl, hP, hK, hN⟩ := hv
  have hx := B.exec
  have hb := B.bytes
  have hr := B.returns
  have hts := atoms_spec (ws := wsX0_isLetBy) B.pre
  have hown : s.vm.findClass RX0 = some m.cls := findClass_of_methodNamed B.named
  have hlocks := B.notSynchronized
  have hl := lv_entry ([.ref (q 2), .int (nI k), .int mo]) (n := 3) (Nat.le_of_ble_eq_true rfl)
  rw [lg_entry_eq]
  generalize (lg_sl ([.ref (q 2), .int (nI k), .int mo]) ++ List.replicate (3 - (lg_sl ([.ref (q 2), .int (nI k), .int mo])).length) Slot.unset).toArray = ls at hl ⊢
  have hl : lv_has ls 3 [(0, .ref (q 2)), (1, .int (nI k)), (2, .int mo)] := hl
  have hn60 := hI.n60
  have hc100 := hI.c100
  refine lv_aload_n hx hb dX0_isLetBy_0 rfl (lv_at hl 0 rfl) ?_
  refine va_get (D := D) (ci := 0) (v := .ref (q 26)) (C := RX0) (T := TX0) (N := 8) hx hb hts (fun _ h => List.mem_cons_of_mem _ (List.mem_append_right _ h)) hown hK hP 0 rfl rfl 6 (by decide) (hts (.fieldLink RX0 30 "UnderPromise$Claims" "judged" "[I") (List.mem_of_getElem? (i := 1) rfl)) (fun _ h9 => h9) rfl dX0_isLetBy_1 ?_
  refine lv_iload_n hx hb dX0_isLetBy_4 rfl (lv_at hl 1 rfl) ?_
  refine iaK (v := (F 11 k)) hx hb hK hP 7 0 rfl rfl k (vp_in_nI (by omega) (by decide)) (nI_clamp (by omega)) rfl dX0_isLetBy_5 ?_
  refine lv_if_ne (tgt := 23) hx hb dX0_isLetBy_6 (by decide) (fun c_1 => ?_) (fun c_1 => ?_)
  · refine lv_iconst (v := 0) hx hb dX0_isLetBy_23 (by decide) ?_
    exact W.zret (v := 0) hx hb hr rfl (fun t9 ht9 hW9 => ⟨0, rfl, (by first | with_reducible rfl | simp [rg, bI, sLetBy, c_1]), ht9⟩) (fun _ h => by cases h) dX0_isLetBy_24
  · refine lv_aload_n hx hb dX0_isLetBy_9 rfl (lv_at hl 0 rfl) ?_
    refine va_get (D := D) (ci := 0) (v := .ref (q 23)) (C := RX0) (T := TX0) (N := 8) hx hb hts (fun _ h => List.mem_cons_of_mem _ (List.mem_append_right _ h)) hown hK hP 0 rfl rfl 3 (by decide) (hts (.fieldLink RX0 21 "UnderPromise$Claims" "told" "[I") (List.mem_of_getElem? (i := 2) rfl)) (fun _ h9 => h9) rfl dX0_isLetBy_10 ?_
    refine lv_iload_n hx hb dX0_isLetBy_13 rfl (lv_at hl 1 rfl) ?_
    refine iaK (v := (F 9 k)) hx hb hK hP 4 0 rfl rfl k (vp_in_nI (by omega) (by decide)) (nI_clamp (by omega)) rfl dX0_isLetBy_14 ?_
    refine lv_iload_n hx hb dX0_isLetBy_15 rfl (lv_at hl 2 rfl) ?_
    refine lv_icmp_gt (tgt := 23) hx hb dX0_isLetBy_16 (by decide) (fun c_2 => ?_) (fun c_2 => ?_)
    · have c_3 := i_lt c_2
      refine lv_iconst (v := 0) hx hb dX0_isLetBy_23 (by decide) ?_
      exact W.zret (v := 0) hx hb hr rfl (fun t9 ht9 hW9 => ⟨0, rfl, (by first | with_reducible rfl | simp [rg, bI, sLetBy, c_1, c_2, c_3]), ht9⟩) (fun _ h => by cases h) dX0_isLetBy_24
    · have c_4 := i_nlt c_2
      refine lv_iconst (v := 1) hx hb dX0_isLetBy_19 (by decide) ?_
      refine lv_goto (tgt := 24) hx hb dX0_isLetBy_20 (by decide) ?_
      exact W.zret (v := 1) hx hb hr rfl (fun t9 ht9 hW9 => ⟨1, rfl, (by first | with_reducible rfl | simp [rg, bI, sLetBy, c_1, c_2, c_4]), ht9⟩) (fun _ h => by cases h) dX0_isLetBy_24
set_option maxHeartbeats 4000000 in
set_option maxRecDepth 100000 in
/-- X0_letAtAge -/
theorem c_X0_letAtAge (l : Launch) (D : va_G) (cs : Nat → ClassId) (q : Nat → Nat) (F : Nat → Nat → Int32) (n c : Nat) (w : Int32) (mo : Int32) (hI : Inv F n c) : Met l yX0_letAtAge wsX0_letAtAge ({ frames := 1, cells := 0, slots := 0, locals := 22 }) (va_Pc [.ref (q 2), .int w, .int mo] (pw D cs (cW q cs F c))) (vp_Si (fun r => r = (ctI (sAge F w mo) c))) 0 0 (fun _ => False) := by
  refine Met.ofW (cc := cX0_letAtAge) (maxL := 5) (ret := (some .int)) (by decide) rfl ?_
  intro p e s m args below meth c_ s₁ B hml hv
  obtain ⟨rfl, hP, hK, hN⟩ := hv
  have hx := B.exec
  have hb := B.bytes
  have hr := B.returns
  have hts := atoms_spec (ws := wsX0_letAtAge) B.pre
  have hown : s.vm.findClass RX0 = some m.cls := findClass_of_methodNamed B.named
  have hlocks := B.notSynchronized
  have hl := lv_entry ([.ref (q 2), .int w, .int mo]) (n := 5) (Nat.le_of_ble_eq_true rfl)
  rw [lg_entry_eq]
  generalize (lg_sl ([.ref (q 2), .int w, .int mo]) ++ List.replicate (5 - (lg_sl ([.ref (q 2), .int w, .int mo])).length) Slot.unset).toArray = ls at hl ⊢
  have hl : lv_has ls 5 [(0, .ref (q 2)), (1, .int w), (2, .int mo)] := hl
  have hn60 := hI.n60
  have hc100 := hI.c100
  refine lv_iconst (v := 0) hx hb dX0_letAtAge_0 (by decide) ?_
  refine lv_istore_n (lv' := [(3, .int 0), (0, .ref (q 2)), (1, .int w), (2, .int mo)]) hx hb dX0_letAtAge_1 rfl hl (by decide) rfl (fun ls hl => ?_)
  refine lv_iconst (v := 0) hx hb dX0_letAtAge_2 (by decide) ?_
  refine lv_istore (lv' := [(4, .int 0), (3, .int 0), (0, .ref (q 2)), (1, .int w), (2, .int mo)]) hx hb dX0_letAtAge_3 hl (by decide) rfl (fun ls hl => ?_)
  refine lpW (fun k ls => lv_has ls 5 [(0, .ref (q 2)), (1, .int w), (2, .int mo), (3, .int (ctI (sAge F w mo) k)), (4, .int (nI k))]) c 0 (Nat.zero_le _) ls (show lv_has ls 5 [(0, .ref (q 2)), (1, .int w), (2, .int mo), (3, .int (ctI (sAge F w mo) 0)), (4, .int (nI 0))] from lv_sub hl [2, 3, 4, 1, 0] rfl) ?_ ?_
  · intro ls hl
    have hl : lv_has ls 5 [(0, .ref (q 2)), (1, .int w), (2, .int mo), (3, .int (ctI (sAge F w mo) c)), (4, .int (nI c))] := hl
    refine lv_iload hx hb dX0_letAtAge_5 (lv_at hl 4 rfl) ?_
    refine lv_aload_n hx hb dX0_letAtAge_7 rfl (lv_at hl 0 rfl) ?_
    refine va_get (D := D) (ci := 0) (v := .int (nI c)) (C := RX0) (T := TX0) (N := 8) hx hb hts (fun _ h => List.mem_cons_of_mem _ (List.mem_append_right _ h)) hown hK hP 0 rfl rfl 7 (by decide) (hts (.fieldLink RX0 33 "UnderPromise$Claims" "size" "I") (List.mem_of_getElem? (i := 1) rfl)) (fun _ h9 => h9) rfl dX0_letAtAge_8 ?_
    refine lv_icmp_ge (tgt := 44) hx hb dX0_letAtAge_11 (by decide) (fun c_1 => ?_) (fun c_1 => ?_)
    · have c_2 := i_le c_1
      refine lv_iload_n hx hb dX0_letAtAge_44 rfl (lv_at hl 3 rfl) ?_
      exact W.iret (v := (ctI (sAge F w mo) c)) hx hb hr (fun t9 ht9 hW9 => ⟨(ctI (sAge F w mo) c), rfl, rfl, ht9⟩) (fun _ h => by cases h) dX0_letAtAge_45
    · exact absurd (nI_le (Nat.le_refl _) (by omega)) c_1
  · intro k hk0 hk ih ls hl
    have hl : lv_has ls 5 [(0, .ref (q 2)), (1, .int w), (2, .int mo), (3, .int (ctI (sAge F w mo) k)), (4, .int (nI k))] := hl
    refine lv_iload hx hb dX0_letAtAge_5 (lv_at hl 4 rfl) ?_
    refine lv_aload_n hx hb dX0_letAtAge_7 rfl (lv_at hl 0 rfl) ?_
    refine va_get (D := D) (ci := 0) (v := .int (nI c)) (C := RX0) (T := TX0) (N := 8) hx hb hts (fun _ h => List.mem_cons_of_mem _ (List.mem_append_right _ h)) hown hK hP 0 rfl rfl 7 (by decide) (hts (.fieldLink RX0 33 "UnderPromise$Claims" "size" "I") (List.mem_of_getElem? (i := 1) rfl)) (fun _ h9 => h9) rfl dX0_letAtAge_8 ?_
    refine lv_icmp_ge (tgt := 44) hx hb dX0_letAtAge_11 (by decide) (fun c_3 => ?_) (fun c_3 => ?_)
    · exact absurd c_3 (nI_ge hk (by omega))
    · have c_4 := i_nle c_3
      refine lv_aload_n hx hb dX0_letAtAge_14 rfl (lv_at hl 0 rfl) ?_
      refine lv_iload hx hb dX0_letAtAge_15 (lv_at hl 4 rfl) ?_
      refine lv_iload_n hx hb dX0_letAtAge_17 rfl (lv_at hl 2 rfl) ?_
      refine roVi (As := [.int (nI k), .int mo]) (rest := []) (v := (bI (sLetBy F mo k))) ⟨hx, hb, hml, hown, hts⟩ (c_X0_isLetBy l D cs q F n c k mo hI (by omega)) (cwV 2 hts gX0_letAtAge_X0_isLetBy rfl rfl rfl (by decide +kernel) ⟨Nat.le_of_ble_eq_true rfl, Nat.le_of_ble_eq_true rfl⟩) hP hK hN 0 rfl rfl rfl hl.1 rfl (Nat.le_of_ble_eq_true rfl) dX0_letAtAge_18 ⟨Nat.zero_le _, Nat.zero_le _⟩ ?_
      refine lv_if_eq (tgt := 38) hx hb dX0_letAtAge_21 (by decide) (fun c_5 => ?_) (fun c_5 => ?_)
      · have b_6 : (sLetBy F mo k) = false := bI_f c_5
        refine lv_iinc (v := ((nI k) + 1)) (lv' := [(4, .int ((nI k) + 1)), (0, .ref (q 2)), (1, .int w), (2, .int mo), (3, .int (ctI (sAge F w mo) k))]) hx hb dX0_letAtAge_38 hl (k := 4) rfl rfl (by decide) rfl (fun ls hl => ?_)
        refine lv_goto (tgt := 5) hx hb dX0_letAtAge_41 (by decide) ?_
        have h_7 : (ctI (sAge F w mo) k) = (ctI (sAge F w mo) (k + 1)) := (by first | with_reducible rfl | simp [ctI, sAge, c_3, c_4, b_6])
        have h_8 : ((nI k) + 1) = (nI (k + 1)) := (nI_1 _)
        exact ih _ (lv_cast (lv_sub (l' := [(0, .ref (q 2)), (1, .int w), (2, .int mo), (3, .int (ctI (sAge F w mo) k)), (4, .int ((nI k) + 1))]) hl [1, 2, 3, 4, 0] rfl) (cg2 (fun z7 z8 => [(0, .ref (q 2)), (1, .int w), (2, .int mo), (3, .int z7), (4, .int z8)]) h_7 h_8))
      · have b_9 : (sLetBy F mo k) = true := bI_t c_5
        refine lv_aload_n hx hb dX0_letAtAge_24 rfl (lv_at hl 0 rfl) ?_
        refine va_get (D := D) (ci := 0) (v := .ref (q 25)) (C := RX0) (T := TX0) (N := 8) hx hb hts (fun _ h => List.mem_cons_of_mem _ (List.mem_append_right _ h)) hown hK hP 0 rfl rfl 5 (by decide) (hts (.fieldLink RX0 27 "UnderPromise$Claims" "age" "[I") (List.mem_of_getElem? (i := 2) rfl)) (fun _ h9 => h9) rfl dX0_letAtAge_25 ?_
        refine lv_iload hx hb dX0_letAtAge_28 (lv_at hl 4 rfl) ?_
        refine iaK (v := (F 15 k)) hx hb hK hP 6 0 rfl rfl k (vp_in_nI (by omega) (by decide)) (nI_clamp (by omega)) rfl dX0_letAtAge_30 ?_
        refine lv_iload_n hx hb dX0_letAtAge_31 rfl (lv_at hl 1 rfl) ?_
        refine lv_icmp_ne (tgt := 38) hx hb dX0_letAtAge_32 (by decide) (fun c_10 => ?_) (fun c_10 => ?_)
        · refine lv_iinc (v := ((nI k) + 1)) (lv' := [(4, .int ((nI k) + 1)), (0, .ref (q 2)), (1, .int w), (2, .int mo), (3, .int (ctI (sAge F w mo) k))]) hx hb dX0_letAtAge_38 hl (k := 4) rfl rfl (by decide) rfl (fun ls hl => ?_)
          refine lv_goto (tgt := 5) hx hb dX0_letAtAge_41 (by decide) ?_
          have h_11 : (ctI (sAge F w mo) k) = (ctI (sAge F w mo) (k + 1)) := (by first | with_reducible rfl | simp [ctI, sAge, c_3, c_4, b_9, c_10])
          have h_12 : ((nI k) + 1) = (nI (k + 1)) := (nI_1 _)
          exact ih _ (lv_cast (lv_sub (l' := [(0, .ref (q 2)), (1, .int w), (2, .int mo), (3, .int (ctI (sAge F w mo) k)), (4, .int ((nI k) + 1))]) hl [1, 2, 3, 4, 0] rfl) (cg2 (fun z11 z12 => [(0, .ref (q 2)), (1, .int w), (2, .int mo), (3, .int z11), (4, .int z12)]) h_11 h_12))
        · refine lv_iinc (v := ((ctI (sAge F w mo) k) + 1)) (lv' := [(3, .int ((ctI (sAge F w mo) k) + 1)), (0, .ref (q 2)), (1, .int w), (2, .int mo), (4, .int (nI k))]) hx hb dX0_letAtAge_35 hl (k := 3) rfl rfl (by decide) rfl (fun ls hl => ?_)
          refine lv_iinc (v := ((nI k) + 1)) (lv' := [(4, .int ((nI k) + 1)), (3, .int ((ctI (sAge F w mo) k) + 1)), (0, .ref (q 2)), (1, .int w), (2, .int mo)]) hx hb dX0_letAtAge_38 hl (k := 4) rfl rfl (by decide) rfl (fun ls hl => ?_)
          refine lv_goto (tgt := 5) hx hb dX0_letAtAge_41 (by decide) ?_
          have h_13 : ((ctI (sAge F w mo) k) + 1) = (ctI (sAge F w mo) (k + 1)) := (by first | with_reducible rfl | simp [ctI, sAge, c_3, c_4, b_9, c_10])
          have h_14 : ((nI k) + 1) = (nI (k + 1)) := (nI_1 _)
          exact ih _ (lv_cast (lv_sub (l' := [(0, .ref (q 2)), (1, .int w), (2, .int mo), (3, .int ((ctI (sAge F w mo) k) + 1)), (4, .int ((nI k) + 1))]) hl [2, 3, 4, 1, 0] rfl) (cg2 (fun z13 z14 => [(0, .ref (q 2)), (1, .int w), (2, .int mo), (3, .int z13), (4, .int z14)]) h_13 h_14))
set_option maxHeartbeats 4000000 in
set_option maxRecDepth 100000 in
/-- X0_letSoldInAtAge -/
theorem c_X0_letSoldInAtAge (l : Launch) (D : va_G) (cs : Nat → ClassId) (q : Nat → Nat) (F : Nat → Nat → Int32) (n c : Nat) (s0 : Int32) (w : Int32) (mo : Int32) (hI : Inv F n c) : Met l yX0_letSoldInAtAge wsX0_letSoldInAtAge ({ frames := 1, cells := 0, slots := 0, locals := 22 }) (va_Pc [.ref (q 2), .int s0, .int w, .int mo] (pw D cs (cW q cs F c))) (vp_Si (fun r => r = (ctI (sTab F s0 w mo) c))) 0 0 (fun _ => False) := by
  refine Met.ofW (cc := cX0_letSoldInAtAge) (maxL := 6) (ret := (some .int)) (by decide) rfl ?_
  intro p e s m args below meth c_ s₁ B hml hv
  obtain ⟨rfl, hP, hK, hN⟩ := hv
  have hx := B.exec
  have hb := B.bytes
  have hr := B.returns
  have hts := atoms_spec (ws := wsX0_letSoldInAtAge) B.pre
  have hown : s.vm.findClass RX0 = some m.cls := findClass_of_methodNamed B.named
  have hlocks := B.notSynchronized
  have hl := lv_entry ([.ref (q 2), .int s0, .int w, .int mo]) (n := 6) (Nat.le_of_ble_eq_true rfl)
  rw [lg_entry_eq]
  generalize (lg_sl ([.ref (q 2), .int s0, .int w, .int mo]) ++ List.replicate (6 - (lg_sl ([.ref (q 2), .int s0, .int w, .int mo])).length) Slot.unset).toArray = ls at hl ⊢
  have hl : lv_has ls 6 [(0, .ref (q 2)), (1, .int s0), (2, .int w), (3, .int mo)] := hl
  have hn60 := hI.n60
  have hc100 := hI.c100
  refine lv_iconst (v := 0) hx hb dX0_letSoldInAtAge_0 (by decide) ?_
  refine lv_istore (lv' := [(4, .int 0), (0, .ref (q 2)), (1, .int s0), (2, .int w), (3, .int mo)]) hx hb dX0_letSoldInAtAge_1 hl (by decide) rfl (fun ls hl => ?_)
  refine lv_iconst (v := 0) hx hb dX0_letSoldInAtAge_3 (by decide) ?_
  refine lv_istore (lv' := [(5, .int 0), (4, .int 0), (0, .ref (q 2)), (1, .int s0), (2, .int w), (3, .int mo)]) hx hb dX0_letSoldInAtAge_4 hl (by decide) rfl (fun ls hl => ?_)
  refine lpW (fun k ls => lv_has ls 6 [(0, .ref (q 2)), (1, .int s0), (2, .int w), (3, .int mo), (4, .int (ctI (sTab F s0 w mo) k)), (5, .int (nI k))]) c 0 (Nat.zero_le _) ls (show lv_has ls 6 [(0, .ref (q 2)), (1, .int s0), (2, .int w), (3, .int mo), (4, .int (ctI (sTab F s0 w mo) 0)), (5, .int (nI 0))] from lv_sub hl [2, 3, 4, 5, 1, 0] rfl) ?_ ?_
  · intro ls hl
    have hl : lv_has ls 6 [(0, .ref (q 2)), (1, .int s0), (2, .int w), (3, .int mo), (4, .int (ctI (sTab F s0 w mo) c)), (5, .int (nI c))] := hl
    refine lv_iload hx hb dX0_letSoldInAtAge_6 (lv_at hl 5 rfl) ?_
    refine lv_aload_n hx hb dX0_letSoldInAtAge_8 rfl (lv_at hl 0 rfl) ?_
    refine va_get (D := D) (ci := 0) (v := .int (nI c)) (C := RX0) (T := TX0) (N := 8) hx hb hts (fun _ h => List.mem_cons_of_mem _ (List.mem_append_right _ h)) hown hK hP 0 rfl rfl 7 (by decide) (hts (.fieldLink RX0 33 "UnderPromise$Claims" "size" "I") (List.mem_of_getElem? (i := 1) rfl)) (fun _ h9 => h9) rfl dX0_letSoldInAtAge_9 ?_
    refine lv_icmp_ge (tgt := 58) hx hb dX0_letSoldInAtAge_12 (by decide) (fun c_1 => ?_) (fun c_1 => ?_)
    · have c_2 := i_le c_1
      refine lv_iload hx hb dX0_letSoldInAtAge_58 (lv_at hl 4 rfl) ?_
      exact W.iret (v := (ctI (sTab F s0 w mo) c)) hx hb hr (fun t9 ht9 hW9 => ⟨(ctI (sTab F s0 w mo) c), rfl, rfl, ht9⟩) (fun _ h => by cases h) dX0_letSoldInAtAge_60
    · exact absurd (nI_le (Nat.le_refl _) (by omega)) c_1
  · intro k hk0 hk ih ls hl
    have hl : lv_has ls 6 [(0, .ref (q 2)), (1, .int s0), (2, .int w), (3, .int mo), (4, .int (ctI (sTab F s0 w mo) k)), (5, .int (nI k))] := hl
    refine lv_iload hx hb dX0_letSoldInAtAge_6 (lv_at hl 5 rfl) ?_
    refine lv_aload_n hx hb dX0_letSoldInAtAge_8 rfl (lv_at hl 0 rfl) ?_
    refine va_get (D := D) (ci := 0) (v := .int (nI c)) (C := RX0) (T := TX0) (N := 8) hx hb hts (fun _ h => List.mem_cons_of_mem _ (List.mem_append_right _ h)) hown hK hP 0 rfl rfl 7 (by decide) (hts (.fieldLink RX0 33 "UnderPromise$Claims" "size" "I") (List.mem_of_getElem? (i := 1) rfl)) (fun _ h9 => h9) rfl dX0_letSoldInAtAge_9 ?_
    refine lv_icmp_ge (tgt := 58) hx hb dX0_letSoldInAtAge_12 (by decide) (fun c_3 => ?_) (fun c_3 => ?_)
    · exact absurd c_3 (nI_ge hk (by omega))
    · have c_4 := i_nle c_3
      refine lv_aload_n hx hb dX0_letSoldInAtAge_15 rfl (lv_at hl 0 rfl) ?_
      refine lv_iload hx hb dX0_letSoldInAtAge_16 (lv_at hl 5 rfl) ?_
      refine lv_iload_n hx hb dX0_letSoldInAtAge_18 rfl (lv_at hl 3 rfl) ?_
      refine roVi (As := [.int (nI k), .int mo]) (rest := []) (v := (bI (sLetBy F mo k))) ⟨hx, hb, hml, hown, hts⟩ (c_X0_isLetBy l D cs q F n c k mo hI (by omega)) (cwV 2 hts gX0_letSoldInAtAge_X0_isLetBy rfl rfl rfl (by decide +kernel) ⟨Nat.le_of_ble_eq_true rfl, Nat.le_of_ble_eq_true rfl⟩) hP hK hN 0 rfl rfl rfl hl.1 rfl (Nat.le_of_ble_eq_true rfl) dX0_letSoldInAtAge_19 ⟨Nat.zero_le _, Nat.zero_le _⟩ ?_
      refine lv_if_eq (tgt := 52) hx hb dX0_letSoldInAtAge_22 (by decide) (fun c_5 => ?_) (fun c_5 => ?_)
      · have b_6 : (sLetBy F mo k) = false := bI_f c_5
        refine lv_iinc (v := ((nI k) + 1)) (lv' := [(5, .int ((nI k) + 1)), (0, .ref (q 2)), (1, .int s0), (2, .int w), (3, .int mo), (4, .int (ctI (sTab F s0 w mo) k))]) hx hb dX0_letSoldInAtAge_52 hl (k := 5) rfl rfl (by decide) rfl (fun ls hl => ?_)
        refine lv_goto (tgt := 6) hx hb dX0_letSoldInAtAge_55 (by decide) ?_
        have h_7 : (ctI (sTab F s0 w mo) k) = (ctI (sTab F s0 w mo) (k + 1)) := (by first | with_reducible rfl | simp [ctI, sTab, c_3, c_4, b_6])
        have h_8 : ((nI k) + 1) = (nI (k + 1)) := (nI_1 _)
        exact ih _ (lv_cast (lv_sub (l' := [(0, .ref (q 2)), (1, .int s0), (2, .int w), (3, .int mo), (4, .int (ctI (sTab F s0 w mo) k)), (5, .int ((nI k) + 1))]) hl [1, 2, 3, 4, 5, 0] rfl) (cg2 (fun z7 z8 => [(0, .ref (q 2)), (1, .int s0), (2, .int w), (3, .int mo), (4, .int z7), (5, .int z8)]) h_7 h_8))
      · have b_9 : (sLetBy F mo k) = true := bI_t c_5
        refine lv_aload_n hx hb dX0_letSoldInAtAge_25 rfl (lv_at hl 0 rfl) ?_
        refine va_get (D := D) (ci := 0) (v := .ref (q 25)) (C := RX0) (T := TX0) (N := 8) hx hb hts (fun _ h => List.mem_cons_of_mem _ (List.mem_append_right _ h)) hown hK hP 0 rfl rfl 5 (by decide) (hts (.fieldLink RX0 27 "UnderPromise$Claims" "age" "[I") (List.mem_of_getElem? (i := 2) rfl)) (fun _ h9 => h9) rfl dX0_letSoldInAtAge_26 ?_
        refine lv_iload hx hb dX0_letSoldInAtAge_29 (lv_at hl 5 rfl) ?_
        refine iaK (v := (F 15 k)) hx hb hK hP 6 0 rfl rfl k (vp_in_nI (by omega) (by decide)) (nI_clamp (by omega)) rfl dX0_letSoldInAtAge_31 ?_
        refine lv_iload_n hx hb dX0_letSoldInAtAge_32 rfl (lv_at hl 2 rfl) ?_
        refine lv_icmp_ne (tgt := 52) hx hb dX0_letSoldInAtAge_33 (by decide) (fun c_10 => ?_) (fun c_10 => ?_)
        · refine lv_iinc (v := ((nI k) + 1)) (lv' := [(5, .int ((nI k) + 1)), (0, .ref (q 2)), (1, .int s0), (2, .int w), (3, .int mo), (4, .int (ctI (sTab F s0 w mo) k))]) hx hb dX0_letSoldInAtAge_52 hl (k := 5) rfl rfl (by decide) rfl (fun ls hl => ?_)
          refine lv_goto (tgt := 6) hx hb dX0_letSoldInAtAge_55 (by decide) ?_
          have h_11 : (ctI (sTab F s0 w mo) k) = (ctI (sTab F s0 w mo) (k + 1)) := (by first | with_reducible rfl | simp [ctI, sTab, c_3, c_4, b_9, c_10])
          have h_12 : ((nI k) + 1) = (nI (k + 1)) := (nI_1 _)
          exact ih _ (lv_cast (lv_sub (l' := [(0, .ref (q 2)), (1, .int s0), (2, .int w), (3, .int mo), (4, .int (ctI (sTab F s0 w mo) k)), (5, .int ((nI k) + 1))]) hl [1, 2, 3, 4, 5, 0] rfl) (cg2 (fun z11 z12 => [(0, .ref (q 2)), (1, .int s0), (2, .int w), (3, .int mo), (4, .int z11), (5, .int z12)]) h_11 h_12))
        · refine lv_aload_n hx hb dX0_letSoldInAtAge_36 rfl (lv_at hl 0 rfl) ?_
          refine va_get (D := D) (ci := 0) (v := .ref (q 22)) (C := RX0) (T := TX0) (N := 8) hx hb hts (fun _ h => List.mem_cons_of_mem _ (List.mem_append_right _ h)) hown hK hP 0 rfl rfl 2 (by decide) (hts (.fieldLink RX0 18 "UnderPromise$Claims" "failed" "[I") (List.mem_of_getElem? (i := 3) rfl)) (fun _ h9 => h9) rfl dX0_letSoldInAtAge_37 ?_
          refine lv_iload hx hb dX0_letSoldInAtAge_40 (lv_at hl 5 rfl) ?_
          refine iaK (v := (F 8 k)) hx hb hK hP 3 0 rfl rfl k (vp_in_nI (by omega) (by decide)) (nI_clamp (by omega)) rfl dX0_letSoldInAtAge_42 ?_
          refine lv_iload_n hx hb dX0_letSoldInAtAge_43 rfl (lv_at hl 1 rfl) ?_
          refine lv_iload_n hx hb dX0_letSoldInAtAge_44 rfl (lv_at hl 2 rfl) ?_
          refine lv_iadd hx hb dX0_letSoldInAtAge_45 ?_
          refine lv_icmp_ne (tgt := 52) hx hb dX0_letSoldInAtAge_46 (by decide) (fun c_13 => ?_) (fun c_13 => ?_)
          · refine lv_iinc (v := ((nI k) + 1)) (lv' := [(5, .int ((nI k) + 1)), (0, .ref (q 2)), (1, .int s0), (2, .int w), (3, .int mo), (4, .int (ctI (sTab F s0 w mo) k))]) hx hb dX0_letSoldInAtAge_52 hl (k := 5) rfl rfl (by decide) rfl (fun ls hl => ?_)
            refine lv_goto (tgt := 6) hx hb dX0_letSoldInAtAge_55 (by decide) ?_
            have h_14 : (ctI (sTab F s0 w mo) k) = (ctI (sTab F s0 w mo) (k + 1)) := (by first | with_reducible rfl | simp [ctI, sTab, c_3, c_4, b_9, c_10, c_13])
            have h_15 : ((nI k) + 1) = (nI (k + 1)) := (nI_1 _)
            exact ih _ (lv_cast (lv_sub (l' := [(0, .ref (q 2)), (1, .int s0), (2, .int w), (3, .int mo), (4, .int (ctI (sTab F s0 w mo) k)), (5, .int ((nI k) + 1))]) hl [1, 2, 3, 4, 5, 0] rfl) (cg2 (fun z14 z15 => [(0, .ref (q 2)), (1, .int s0), (2, .int w), (3, .int mo), (4, .int z14), (5, .int z15)]) h_14 h_15))
          · refine lv_iinc (v := ((ctI (sTab F s0 w mo) k) + 1)) (lv' := [(4, .int ((ctI (sTab F s0 w mo) k) + 1)), (0, .ref (q 2)), (1, .int s0), (2, .int w), (3, .int mo), (5, .int (nI k))]) hx hb dX0_letSoldInAtAge_49 hl (k := 4) rfl rfl (by decide) rfl (fun ls hl => ?_)
            refine lv_iinc (v := ((nI k) + 1)) (lv' := [(5, .int ((nI k) + 1)), (4, .int ((ctI (sTab F s0 w mo) k) + 1)), (0, .ref (q 2)), (1, .int s0), (2, .int w), (3, .int mo)]) hx hb dX0_letSoldInAtAge_52 hl (k := 5) rfl rfl (by decide) rfl (fun ls hl => ?_)
            refine lv_goto (tgt := 6) hx hb dX0_letSoldInAtAge_55 (by decide) ?_
            have h_16 : ((ctI (sTab F s0 w mo) k) + 1) = (ctI (sTab F s0 w mo) (k + 1)) := (by first | with_reducible rfl | simp [ctI, sTab, c_3, c_4, b_9, c_10, c_13])
            have h_17 : ((nI k) + 1) = (nI (k + 1)) := (nI_1 _)
            exact ih _ (lv_cast (lv_sub (l' := [(0, .ref (q 2)), (1, .int s0), (2, .int w), (3, .int mo), (4, .int ((ctI (sTab F s0 w mo) k) + 1)), (5, .int ((nI k) + 1))]) hl [2, 3, 4, 5, 1, 0] rfl) (cg2 (fun z16 z17 => [(0, .ref (q 2)), (1, .int s0), (2, .int w), (3, .int mo), (4, .int z16), (5, .int z17)]) h_16 h_17))
set_option maxHeartbeats 4000000 in
set_option maxRecDepth 100000 in
/-- X0_letFailedIn -/
theorem c_X0_letFailedIn (l : Launch) (D : va_G) (cs : Nat → ClassId) (q : Nat → Nat) (F : Nat → Nat → Int32) (n c : Nat) (w : Int32) (mo : Int32) (hI : Inv F n c) : Met l yX0_letFailedIn wsX0_letFailedIn ({ frames := 1, cells := 0, slots := 0, locals := 22 }) (va_Pc [.ref (q 2), .int w, .int mo] (pw D cs (cW q cs F c))) (vp_Si (fun r => r = (ctI (sFail F w mo) c))) 0 0 (fun _ => False) := by
  refine Met.ofW (cc := cX0_letFailedIn) (maxL := 5) (ret := (some .int)) (by decide) rfl ?_
  intro p e s m args below meth c_ s₁ B hml hv
  obtain ⟨rfl, hP, hK, hN⟩ := hv
  have hx := B.exec
  have hb := B.bytes
  have hr := B.returns
  have hts := atoms_spec (ws := wsX0_letFailedIn) B.pre
  have hown : s.vm.findClass RX0 = some m.cls := findClass_of_methodNamed B.named
  have hlocks := B.notSynchronized
  have hl := lv_entry ([.ref (q 2), .int w, .int mo]) (n := 5) (Nat.le_of_ble_eq_true rfl)
  rw [lg_entry_eq]
  generalize (lg_sl ([.ref (q 2), .int w, .int mo]) ++ List.replicate (5 - (lg_sl ([.ref (q 2), .int w, .int mo])).length) Slot.unset).toArray = ls at hl ⊢
  have hl : lv_has ls 5 [(0, .ref (q 2)), (1, .int w), (2, .int mo)] := hl
  have hn60 := hI.n60
  have hc100 := hI.c100
  refine lv_iconst (v := 0) hx hb dX0_letFailedIn_0 (by decide) ?_
  refine lv_istore_n (lv' := [(3, .int 0), (0, .ref (q 2)), (1, .int w), (2, .int mo)]) hx hb dX0_letFailedIn_1 rfl hl (by decide) rfl (fun ls hl => ?_)
  refine lv_iconst (v := 0) hx hb dX0_letFailedIn_2 (by decide) ?_
  refine lv_istore (lv' := [(4, .int 0), (3, .int 0), (0, .ref (q 2)), (1, .int w), (2, .int mo)]) hx hb dX0_letFailedIn_3 hl (by decide) rfl (fun ls hl => ?_)
  refine lpW (fun k ls => lv_has ls 5 [(0, .ref (q 2)), (1, .int w), (2, .int mo), (3, .int (ctI (sFail F w mo) k)), (4, .int (nI k))]) c 0 (Nat.zero_le _) ls (show lv_has ls 5 [(0, .ref (q 2)), (1, .int w), (2, .int mo), (3, .int (ctI (sFail F w mo) 0)), (4, .int (nI 0))] from lv_sub hl [2, 3, 4, 1, 0] rfl) ?_ ?_
  · intro ls hl
    have hl : lv_has ls 5 [(0, .ref (q 2)), (1, .int w), (2, .int mo), (3, .int (ctI (sFail F w mo) c)), (4, .int (nI c))] := hl
    refine lv_iload hx hb dX0_letFailedIn_5 (lv_at hl 4 rfl) ?_
    refine lv_aload_n hx hb dX0_letFailedIn_7 rfl (lv_at hl 0 rfl) ?_
    refine va_get (D := D) (ci := 0) (v := .int (nI c)) (C := RX0) (T := TX0) (N := 8) hx hb hts (fun _ h => List.mem_cons_of_mem _ (List.mem_append_right _ h)) hown hK hP 0 rfl rfl 7 (by decide) (hts (.fieldLink RX0 33 "UnderPromise$Claims" "size" "I") (List.mem_of_getElem? (i := 1) rfl)) (fun _ h9 => h9) rfl dX0_letFailedIn_8 ?_
    refine lv_icmp_ge (tgt := 44) hx hb dX0_letFailedIn_11 (by decide) (fun c_1 => ?_) (fun c_1 => ?_)
    · have c_2 := i_le c_1
      refine lv_iload_n hx hb dX0_letFailedIn_44 rfl (lv_at hl 3 rfl) ?_
      exact W.iret (v := (ctI (sFail F w mo) c)) hx hb hr (fun t9 ht9 hW9 => ⟨(ctI (sFail F w mo) c), rfl, rfl, ht9⟩) (fun _ h => by cases h) dX0_letFailedIn_45
    · exact absurd (nI_le (Nat.le_refl _) (by omega)) c_1
  · intro k hk0 hk ih ls hl
    have hl : lv_has ls 5 [(0, .ref (q 2)), (1, .int w), (2, .int mo), (3, .int (ctI (sFail F w mo) k)), (4, .int (nI k))] := hl
    refine lv_iload hx hb dX0_letFailedIn_5 (lv_at hl 4 rfl) ?_
    refine lv_aload_n hx hb dX0_letFailedIn_7 rfl (lv_at hl 0 rfl) ?_
    refine va_get (D := D) (ci := 0) (v := .int (nI c)) (C := RX0) (T := TX0) (N := 8) hx hb hts (fun _ h => List.mem_cons_of_mem _ (List.mem_append_right _ h)) hown hK hP 0 rfl rfl 7 (by decide) (hts (.fieldLink RX0 33 "UnderPromise$Claims" "size" "I") (List.mem_of_getElem? (i := 1) rfl)) (fun _ h9 => h9) rfl dX0_letFailedIn_8 ?_
    refine lv_icmp_ge (tgt := 44) hx hb dX0_letFailedIn_11 (by decide) (fun c_3 => ?_) (fun c_3 => ?_)
    · exact absurd c_3 (nI_ge hk (by omega))
    · have c_4 := i_nle c_3
      refine lv_aload_n hx hb dX0_letFailedIn_14 rfl (lv_at hl 0 rfl) ?_
      refine lv_iload hx hb dX0_letFailedIn_15 (lv_at hl 4 rfl) ?_
      refine lv_iload_n hx hb dX0_letFailedIn_17 rfl (lv_at hl 2 rfl) ?_
      refine roVi (As := [.int (nI k), .int mo]) (rest := []) (v := (bI (sLetBy F mo k))) ⟨hx, hb, hml, hown, hts⟩ (c_X0_isLetBy l D cs q F n c k mo hI (by omega)) (cwV 2 hts gX0_letFailedIn_X0_isLetBy rfl rfl rfl (by decide +kernel) ⟨Nat.le_of_ble_eq_true rfl, Nat.le_of_ble_eq_true rfl⟩) hP hK hN 0 rfl rfl rfl hl.1 rfl (Nat.le_of_ble_eq_true rfl) dX0_letFailedIn_18 ⟨Nat.zero_le _, Nat.zero_le _⟩ ?_
      refine lv_if_eq (tgt := 38) hx hb dX0_letFailedIn_21 (by decide) (fun c_5 => ?_) (fun c_5 => ?_)
      · have b_6 : (sLetBy F mo k) = false := bI_f c_5
        refine lv_iinc (v := ((nI k) + 1)) (lv' := [(4, .int ((nI k) + 1)), (0, .ref (q 2)), (1, .int w), (2, .int mo), (3, .int (ctI (sFail F w mo) k))]) hx hb dX0_letFailedIn_38 hl (k := 4) rfl rfl (by decide) rfl (fun ls hl => ?_)
        refine lv_goto (tgt := 5) hx hb dX0_letFailedIn_41 (by decide) ?_
        have h_7 : (ctI (sFail F w mo) k) = (ctI (sFail F w mo) (k + 1)) := (by first | with_reducible rfl | simp [ctI, sFail, c_3, c_4, b_6])
        have h_8 : ((nI k) + 1) = (nI (k + 1)) := (nI_1 _)
        exact ih _ (lv_cast (lv_sub (l' := [(0, .ref (q 2)), (1, .int w), (2, .int mo), (3, .int (ctI (sFail F w mo) k)), (4, .int ((nI k) + 1))]) hl [1, 2, 3, 4, 0] rfl) (cg2 (fun z7 z8 => [(0, .ref (q 2)), (1, .int w), (2, .int mo), (3, .int z7), (4, .int z8)]) h_7 h_8))
      · have b_9 : (sLetBy F mo k) = true := bI_t c_5
        refine lv_aload_n hx hb dX0_letFailedIn_24 rfl (lv_at hl 0 rfl) ?_
        refine va_get (D := D) (ci := 0) (v := .ref (q 22)) (C := RX0) (T := TX0) (N := 8) hx hb hts (fun _ h => List.mem_cons_of_mem _ (List.mem_append_right _ h)) hown hK hP 0 rfl rfl 2 (by decide) (hts (.fieldLink RX0 18 "UnderPromise$Claims" "failed" "[I") (List.mem_of_getElem? (i := 2) rfl)) (fun _ h9 => h9) rfl dX0_letFailedIn_25 ?_
        refine lv_iload hx hb dX0_letFailedIn_28 (lv_at hl 4 rfl) ?_
        refine iaK (v := (F 8 k)) hx hb hK hP 3 0 rfl rfl k (vp_in_nI (by omega) (by decide)) (nI_clamp (by omega)) rfl dX0_letFailedIn_30 ?_
        refine lv_iload_n hx hb dX0_letFailedIn_31 rfl (lv_at hl 1 rfl) ?_
        refine lv_icmp_ne (tgt := 38) hx hb dX0_letFailedIn_32 (by decide) (fun c_10 => ?_) (fun c_10 => ?_)
        · refine lv_iinc (v := ((nI k) + 1)) (lv' := [(4, .int ((nI k) + 1)), (0, .ref (q 2)), (1, .int w), (2, .int mo), (3, .int (ctI (sFail F w mo) k))]) hx hb dX0_letFailedIn_38 hl (k := 4) rfl rfl (by decide) rfl (fun ls hl => ?_)
          refine lv_goto (tgt := 5) hx hb dX0_letFailedIn_41 (by decide) ?_
          have h_11 : (ctI (sFail F w mo) k) = (ctI (sFail F w mo) (k + 1)) := (by first | with_reducible rfl | simp [ctI, sFail, c_3, c_4, b_9, c_10])
          have h_12 : ((nI k) + 1) = (nI (k + 1)) := (nI_1 _)
          exact ih _ (lv_cast (lv_sub (l' := [(0, .ref (q 2)), (1, .int w), (2, .int mo), (3, .int (ctI (sFail F w mo) k)), (4, .int ((nI k) + 1))]) hl [1, 2, 3, 4, 0] rfl) (cg2 (fun z11 z12 => [(0, .ref (q 2)), (1, .int w), (2, .int mo), (3, .int z11), (4, .int z12)]) h_11 h_12))
        · refine lv_iinc (v := ((ctI (sFail F w mo) k) + 1)) (lv' := [(3, .int ((ctI (sFail F w mo) k) + 1)), (0, .ref (q 2)), (1, .int w), (2, .int mo), (4, .int (nI k))]) hx hb dX0_letFailedIn_35 hl (k := 3) rfl rfl (by decide) rfl (fun ls hl => ?_)
          refine lv_iinc (v := ((nI k) + 1)) (lv' := [(4, .int ((nI k) + 1)), (3, .int ((ctI (sFail F w mo) k) + 1)), (0, .ref (q 2)), (1, .int w), (2, .int mo)]) hx hb dX0_letFailedIn_38 hl (k := 4) rfl rfl (by decide) rfl (fun ls hl => ?_)
          refine lv_goto (tgt := 5) hx hb dX0_letFailedIn_41 (by decide) ?_
          have h_13 : ((ctI (sFail F w mo) k) + 1) = (ctI (sFail F w mo) (k + 1)) := (by first | with_reducible rfl | simp [ctI, sFail, c_3, c_4, b_9, c_10])
          have h_14 : ((nI k) + 1) = (nI (k + 1)) := (nI_1 _)
          exact ih _ (lv_cast (lv_sub (l' := [(0, .ref (q 2)), (1, .int w), (2, .int mo), (3, .int ((ctI (sFail F w mo) k) + 1)), (4, .int ((nI k) + 1))]) hl [2, 3, 4, 1, 0] rfl) (cg2 (fun z13 z14 => [(0, .ref (q 2)), (1, .int w), (2, .int mo), (3, .int z13), (4, .int z14)]) h_13 h_14))
set_option maxHeartbeats 4000000 in
set_option maxRecDepth 100000 in
/-- X0_letDelayed -/
theorem c_X0_letDelayed (l : Launch) (D : va_G) (cs : Nat → ClassId) (q : Nat → Nat) (F : Nat → Nat → Int32) (n c : Nat) (le : Int32) (mt : Int32) (mo : Int32) (hI : Inv F n c) : Met l yX0_letDelayed wsX0_letDelayed ({ frames := 1, cells := 0, slots := 0, locals := 22 }) (va_Pc [.ref (q 2), .int le, .int mt, .int mo] (pw D cs (cW q cs F c))) (vp_Si (fun r => r = (ctI (sDel F le mt mo) c))) 0 0 (fun _ => False) := by
  refine Met.ofW (cc := cX0_letDelayed) (maxL := 7) (ret := (some .int)) (by decide) rfl ?_
  intro p e s m args below meth c_ s₁ B hml hv
  obtain ⟨rfl, hP, hK, hN⟩ := hv
  have hx := B.exec
  have hb := B.bytes
  have hr := B.returns
  have hts := atoms_spec (ws := wsX0_letDelayed) B.pre
  have hown : s.vm.findClass RX0 = some m.cls := findClass_of_methodNamed B.named
  have hlocks := B.notSynchronized
  have hl := lv_entry ([.ref (q 2), .int le, .int mt, .int mo]) (n := 7) (Nat.le_of_ble_eq_true rfl)
  rw [lg_entry_eq]
  generalize (lg_sl ([.ref (q 2), .int le, .int mt, .int mo]) ++ List.replicate (7 - (lg_sl ([.ref (q 2), .int le, .int mt, .int mo])).length) Slot.unset).toArray = ls at hl ⊢
  have hl : lv_has ls 7 [(0, .ref (q 2)), (1, .int le), (2, .int mt), (3, .int mo)] := hl
  have hn60 := hI.n60
  have hc100 := hI.c100
  refine lv_iconst (v := 0) hx hb dX0_letDelayed_0 (by decide) ?_
  refine lv_istore (lv' := [(4, .int 0), (0, .ref (q 2)), (1, .int le), (2, .int mt), (3, .int mo)]) hx hb dX0_letDelayed_1 hl (by decide) rfl (fun ls hl => ?_)
  refine lv_iconst (v := 0) hx hb dX0_letDelayed_3 (by decide) ?_
  refine lv_istore (lv' := [(5, .int 0), (4, .int 0), (0, .ref (q 2)), (1, .int le), (2, .int mt), (3, .int mo)]) hx hb dX0_letDelayed_4 hl (by decide) rfl (fun ls hl => ?_)
  refine lpW (fun k ls => lv_has ls 7 [(0, .ref (q 2)), (1, .int le), (2, .int mt), (3, .int mo), (4, .int (ctI (sDel F le mt mo) k)), (5, .int (nI k))]) c 0 (Nat.zero_le _) ls (show lv_has ls 7 [(0, .ref (q 2)), (1, .int le), (2, .int mt), (3, .int mo), (4, .int (ctI (sDel F le mt mo) 0)), (5, .int (nI 0))] from lv_sub hl [2, 3, 4, 5, 1, 0] rfl) ?_ ?_
  · intro ls hl
    have hl : lv_has ls 7 [(0, .ref (q 2)), (1, .int le), (2, .int mt), (3, .int mo), (4, .int (ctI (sDel F le mt mo) c)), (5, .int (nI c))] := hl
    refine lv_iload hx hb dX0_letDelayed_6 (lv_at hl 5 rfl) ?_
    refine lv_aload_n hx hb dX0_letDelayed_8 rfl (lv_at hl 0 rfl) ?_
    refine va_get (D := D) (ci := 0) (v := .int (nI c)) (C := RX0) (T := TX0) (N := 8) hx hb hts (fun _ h => List.mem_cons_of_mem _ (List.mem_append_right _ h)) hown hK hP 0 rfl rfl 7 (by decide) (hts (.fieldLink RX0 33 "UnderPromise$Claims" "size" "I") (List.mem_of_getElem? (i := 1) rfl)) (fun _ h9 => h9) rfl dX0_letDelayed_9 ?_
    refine lv_icmp_ge (tgt := 80) hx hb dX0_letDelayed_12 (by decide) (fun c_1 => ?_) (fun c_1 => ?_)
    · have c_2 := i_le c_1
      refine lv_iload hx hb dX0_letDelayed_80 (lv_at hl 4 rfl) ?_
      exact W.iret (v := (ctI (sDel F le mt mo) c)) hx hb hr (fun t9 ht9 hW9 => ⟨(ctI (sDel F le mt mo) c), rfl, rfl, ht9⟩) (fun _ h => by cases h) dX0_letDelayed_82
    · exact absurd (nI_le (Nat.le_refl _) (by omega)) c_1
  · intro k hk0 hk ih ls hl
    have hl : lv_has ls 7 [(0, .ref (q 2)), (1, .int le), (2, .int mt), (3, .int mo), (4, .int (ctI (sDel F le mt mo) k)), (5, .int (nI k))] := hl
    refine lv_iload hx hb dX0_letDelayed_6 (lv_at hl 5 rfl) ?_
    refine lv_aload_n hx hb dX0_letDelayed_8 rfl (lv_at hl 0 rfl) ?_
    refine va_get (D := D) (ci := 0) (v := .int (nI c)) (C := RX0) (T := TX0) (N := 8) hx hb hts (fun _ h => List.mem_cons_of_mem _ (List.mem_append_right _ h)) hown hK hP 0 rfl rfl 7 (by decide) (hts (.fieldLink RX0 33 "UnderPromise$Claims" "size" "I") (List.mem_of_getElem? (i := 1) rfl)) (fun _ h9 => h9) rfl dX0_letDelayed_9 ?_
    refine lv_icmp_ge (tgt := 80) hx hb dX0_letDelayed_12 (by decide) (fun c_3 => ?_) (fun c_3 => ?_)
    · exact absurd c_3 (nI_ge hk (by omega))
    · have c_4 := i_nle c_3
      refine lv_aload_n hx hb dX0_letDelayed_15 rfl (lv_at hl 0 rfl) ?_
      refine va_get (D := D) (ci := 0) (v := .ref (q 22)) (C := RX0) (T := TX0) (N := 8) hx hb hts (fun _ h => List.mem_cons_of_mem _ (List.mem_append_right _ h)) hown hK hP 0 rfl rfl 2 (by decide) (hts (.fieldLink RX0 18 "UnderPromise$Claims" "failed" "[I") (List.mem_of_getElem? (i := 2) rfl)) (fun _ h9 => h9) rfl dX0_letDelayed_16 ?_
      refine lv_iload hx hb dX0_letDelayed_19 (lv_at hl 5 rfl) ?_
      refine iaK (v := (F 8 k)) hx hb hK hP 3 0 rfl rfl k (vp_in_nI (by omega) (by decide)) (nI_clamp (by omega)) rfl dX0_letDelayed_21 ?_
      refine lv_iload_n hx hb dX0_letDelayed_22 rfl (lv_at hl 3 rfl) ?_
      refine lv_bipush (v := 11) hx hb dX0_letDelayed_23 (by decide) ?_
      refine lv_isub hx hb dX0_letDelayed_25 ?_
      refine lv_icmp_gt (tgt := 33) hx hb dX0_letDelayed_26 (by decide) (fun c_5 => ?_) (fun c_5 => ?_)
      · have c_6 := i_lt c_5
        refine lv_iconst (v := 0) hx hb dX0_letDelayed_33 (by decide) ?_
        refine lv_istore (lv' := [(6, .int 0), (0, .ref (q 2)), (1, .int le), (2, .int mt), (3, .int mo), (4, .int (ctI (sDel F le mt mo) k)), (5, .int (nI k))]) hx hb dX0_letDelayed_34 hl (by decide) rfl (fun ls hl => ?_)
        refine lv_iload hx hb dX0_letDelayed_36 (lv_at hl 0 rfl) ?_
        refine lv_if_eq (tgt := 74) hx hb dX0_letDelayed_38 (by decide) (fun c_7 => ?_) (fun c_7 => ?_)
        · refine lv_iinc (v := ((nI k) + 1)) (lv' := [(5, .int ((nI k) + 1)), (6, .int 0), (0, .ref (q 2)), (1, .int le), (2, .int mt), (3, .int mo), (4, .int (ctI (sDel F le mt mo) k))]) hx hb dX0_letDelayed_74 hl (k := 6) rfl rfl (by decide) rfl (fun ls hl => ?_)
          refine lv_goto (tgt := 6) hx hb dX0_letDelayed_77 (by decide) ?_
          have h_8 : (ctI (sDel F le mt mo) k) = (ctI (sDel F le mt mo) (k + 1)) := (by first | with_reducible rfl | simp [ctI, sDel, c_3, c_4, c_5, c_6, c_7])
          have h_9 : ((nI k) + 1) = (nI (k + 1)) := (nI_1 _)
          exact ih _ (lv_cast (lv_sub (l' := [(0, .ref (q 2)), (1, .int le), (2, .int mt), (3, .int mo), (4, .int (ctI (sDel F le mt mo) k)), (5, .int ((nI k) + 1))]) hl [2, 3, 4, 5, 6, 0] rfl) (cg2 (fun z8 z9 => [(0, .ref (q 2)), (1, .int le), (2, .int mt), (3, .int mo), (4, .int z8), (5, .int z9)]) h_8 h_9))
        · exact absurd c_7 (by decide)
      · have c_10 := i_nlt c_5
        refine lv_iconst (v := 1) hx hb dX0_letDelayed_29 (by decide) ?_
        refine lv_goto (tgt := 34) hx hb dX0_letDelayed_30 (by decide) ?_
        refine lv_istore (lv' := [(6, .int 1), (0, .ref (q 2)), (1, .int le), (2, .int mt), (3, .int mo), (4, .int (ctI (sDel F le mt mo) k)), (5, .int (nI k))]) hx hb dX0_letDelayed_34 hl (by decide) rfl (fun ls hl => ?_)
        refine lv_iload hx hb dX0_letDelayed_36 (lv_at hl 0 rfl) ?_
        refine lv_if_eq (tgt := 74) hx hb dX0_letDelayed_38 (by decide) (fun c_11 => ?_) (fun c_11 => ?_)
        · exact absurd c_11 (by decide)
        · refine lv_aload_n hx hb dX0_letDelayed_41 rfl (lv_at hl 1 rfl) ?_
          refine lv_iload hx hb dX0_letDelayed_42 (lv_at hl 6 rfl) ?_
          refine lv_iload_n hx hb dX0_letDelayed_44 rfl (lv_at hl 4 rfl) ?_
          refine roVi (As := [.int (nI k), .int mo]) (rest := []) (v := (bI (sLetBy F mo k))) ⟨hx, hb, hml, hown, hts⟩ (c_X0_isLetBy l D cs q F n c k mo hI (by omega)) (cwV 2 hts gX0_letDelayed_X0_isLetBy rfl rfl rfl (by decide +kernel) ⟨Nat.le_of_ble_eq_true rfl, Nat.le_of_ble_eq_true rfl⟩) hP hK hN 0 rfl rfl rfl hl.1 rfl (Nat.le_of_ble_eq_true rfl) dX0_letDelayed_45 ⟨Nat.zero_le _, Nat.zero_le _⟩ ?_
          refine lv_if_eq (tgt := 74) hx hb dX0_letDelayed_48 (by decide) (fun c_12 => ?_) (fun c_12 => ?_)
          · have b_13 : (sLetBy F mo k) = false := bI_f c_12
            refine lv_iinc (v := ((nI k) + 1)) (lv' := [(5, .int ((nI k) + 1)), (6, .int 1), (0, .ref (q 2)), (1, .int le), (2, .int mt), (3, .int mo), (4, .int (ctI (sDel F le mt mo) k))]) hx hb dX0_letDelayed_74 hl (k := 6) rfl rfl (by decide) rfl (fun ls hl => ?_)
            refine lv_goto (tgt := 6) hx hb dX0_letDelayed_77 (by decide) ?_
            have h_14 : (ctI (sDel F le mt mo) k) = (ctI (sDel F le mt mo) (k + 1)) := (by first | with_reducible rfl | simp [ctI, sDel, c_3, c_4, c_5, c_10, c_11, b_13])
            have h_15 : ((nI k) + 1) = (nI (k + 1)) := (nI_1 _)
            exact ih _ (lv_cast (lv_sub (l' := [(0, .ref (q 2)), (1, .int le), (2, .int mt), (3, .int mo), (4, .int (ctI (sDel F le mt mo) k)), (5, .int ((nI k) + 1))]) hl [2, 3, 4, 5, 6, 0] rfl) (cg2 (fun z14 z15 => [(0, .ref (q 2)), (1, .int le), (2, .int mt), (3, .int mo), (4, .int z14), (5, .int z15)]) h_14 h_15))
          · have b_16 : (sLetBy F mo k) = true := bI_t c_12
            refine lv_aload_n hx hb dX0_letDelayed_51 rfl (lv_at hl 1 rfl) ?_
            refine lv_iload hx hb dX0_letDelayed_52 (lv_at hl 6 rfl) ?_
            refine roVi (As := [.int (nI k)]) (rest := []) (v := (F 9 k - F 8 k)) ⟨hx, hb, hml, hown, hts⟩ (c_X0_delay l D cs q F n c k hI (by omega)) (cwV 1 hts gX0_letDelayed_X0_delay rfl rfl rfl (by decide +kernel) ⟨Nat.le_of_ble_eq_true rfl, Nat.le_of_ble_eq_true rfl⟩) hP hK hN 0 rfl rfl rfl hl.1 rfl (Nat.le_of_ble_eq_true rfl) dX0_letDelayed_54 ⟨Nat.zero_le _, Nat.zero_le _⟩ ?_
            refine lv_iload_n hx hb dX0_letDelayed_57 rfl (lv_at hl 2 rfl) ?_
            refine lv_icmp_lt (tgt := 74) hx hb dX0_letDelayed_58 (by decide) (fun c_17 => ?_) (fun c_17 => ?_)
            · have c_18 := i_lt c_17
              refine lv_iinc (v := ((nI k) + 1)) (lv' := [(5, .int ((nI k) + 1)), (6, .int 1), (0, .ref (q 2)), (1, .int le), (2, .int mt), (3, .int mo), (4, .int (ctI (sDel F le mt mo) k))]) hx hb dX0_letDelayed_74 hl (k := 6) rfl rfl (by decide) rfl (fun ls hl => ?_)
              refine lv_goto (tgt := 6) hx hb dX0_letDelayed_77 (by decide) ?_
              have h_19 : (ctI (sDel F le mt mo) k) = (ctI (sDel F le mt mo) (k + 1)) := (by first | with_reducible rfl | simp [ctI, sDel, c_3, c_4, c_5, c_10, c_11, b_16, c_17, c_18])
              have h_20 : ((nI k) + 1) = (nI (k + 1)) := (nI_1 _)
              exact ih _ (lv_cast (lv_sub (l' := [(0, .ref (q 2)), (1, .int le), (2, .int mt), (3, .int mo), (4, .int (ctI (sDel F le mt mo) k)), (5, .int ((nI k) + 1))]) hl [2, 3, 4, 5, 6, 0] rfl) (cg2 (fun z19 z20 => [(0, .ref (q 2)), (1, .int le), (2, .int mt), (3, .int mo), (4, .int z19), (5, .int z20)]) h_19 h_20))
            · have c_21 := i_nlt c_17
              refine lv_aload_n hx hb dX0_letDelayed_61 rfl (lv_at hl 1 rfl) ?_
              refine lv_iload hx hb dX0_letDelayed_62 (lv_at hl 6 rfl) ?_
              refine roVi (As := [.int (nI k)]) (rest := []) (v := (F 9 k - F 8 k)) ⟨hx, hb, hml, hown, hts⟩ (c_X0_delay l D cs q F n c k hI (by omega)) (cwV 1 hts gX0_letDelayed_X0_delay rfl rfl rfl (by decide +kernel) ⟨Nat.le_of_ble_eq_true rfl, Nat.le_of_ble_eq_true rfl⟩) hP hK hN 0 rfl rfl rfl hl.1 rfl (Nat.le_of_ble_eq_true rfl) dX0_letDelayed_64 ⟨Nat.zero_le _, Nat.zero_le _⟩ ?_
              refine lv_iload_n hx hb dX0_letDelayed_67 rfl (lv_at hl 3 rfl) ?_
              refine lv_icmp_gt (tgt := 74) hx hb dX0_letDelayed_68 (by decide) (fun c_22 => ?_) (fun c_22 => ?_)
              · have c_23 := i_lt c_22
                refine lv_iinc (v := ((nI k) + 1)) (lv' := [(5, .int ((nI k) + 1)), (6, .int 1), (0, .ref (q 2)), (1, .int le), (2, .int mt), (3, .int mo), (4, .int (ctI (sDel F le mt mo) k))]) hx hb dX0_letDelayed_74 hl (k := 6) rfl rfl (by decide) rfl (fun ls hl => ?_)
                refine lv_goto (tgt := 6) hx hb dX0_letDelayed_77 (by decide) ?_
                have h_24 : (ctI (sDel F le mt mo) k) = (ctI (sDel F le mt mo) (k + 1)) := (by first | with_reducible rfl | simp [ctI, sDel, c_3, c_4, c_5, c_10, c_11, b_16, c_17, c_21, c_22, c_23])
                have h_25 : ((nI k) + 1) = (nI (k + 1)) := (nI_1 _)
                exact ih _ (lv_cast (lv_sub (l' := [(0, .ref (q 2)), (1, .int le), (2, .int mt), (3, .int mo), (4, .int (ctI (sDel F le mt mo) k)), (5, .int ((nI k) + 1))]) hl [2, 3, 4, 5, 6, 0] rfl) (cg2 (fun z24 z25 => [(0, .ref (q 2)), (1, .int le), (2, .int mt), (3, .int mo), (4, .int z24), (5, .int z25)]) h_24 h_25))
              · have c_26 := i_nlt c_22
                refine lv_iinc (v := ((ctI (sDel F le mt mo) k) + 1)) (lv' := [(4, .int ((ctI (sDel F le mt mo) k) + 1)), (6, .int 1), (0, .ref (q 2)), (1, .int le), (2, .int mt), (3, .int mo), (5, .int (nI k))]) hx hb dX0_letDelayed_71 hl (k := 5) rfl rfl (by decide) rfl (fun ls hl => ?_)
                refine lv_iinc (v := ((nI k) + 1)) (lv' := [(5, .int ((nI k) + 1)), (4, .int ((ctI (sDel F le mt mo) k) + 1)), (6, .int 1), (0, .ref (q 2)), (1, .int le), (2, .int mt), (3, .int mo)]) hx hb dX0_letDelayed_74 hl (k := 6) rfl rfl (by decide) rfl (fun ls hl => ?_)
                refine lv_goto (tgt := 6) hx hb dX0_letDelayed_77 (by decide) ?_
                have h_27 : ((ctI (sDel F le mt mo) k) + 1) = (ctI (sDel F le mt mo) (k + 1)) := (by first | with_reducible rfl | simp [ctI, sDel, c_3, c_4, c_5, c_10, c_11, b_16, c_17, c_21, c_22, c_26])
                have h_28 : ((nI k) + 1) = (nI (k + 1)) := (nI_1 _)
                exact ih _ (lv_cast (lv_sub (l' := [(0, .ref (q 2)), (1, .int le), (2, .int mt), (3, .int mo), (4, .int ((ctI (sDel F le mt mo) k) + 1)), (5, .int ((nI k) + 1))]) hl [3, 4, 5, 6, 1, 0] rfl) (cg2 (fun z27 z28 => [(0, .ref (q 2)), (1, .int le), (2, .int mt), (3, .int mo), (4, .int z27), (5, .int z28)]) h_27 h_28))
set_option maxHeartbeats 4000000 in
set_option maxRecDepth 100000 in
/-- X0_judgedAs -/
theorem c_X0_judgedAs (l : Launch) (D : va_G) (cs : Nat → ClassId) (q : Nat → Nat) (F : Nat → Nat → Int32) (n c : Nat) (w : Int32) (hI : Inv F n c) : Met l yX0_judgedAs wsX0_judgedAs ({ frames := 0, cells := 0, slots := 0, locals := 0 }) (va_Pc [.ref (q 2), .int w] (pw D cs (cW q cs F c))) (vp_Si (fun r => r = (ctI (sJud F w) c))) 0 0 (fun _ => False) := by
  refine Met.ofW (cc := cX0_judgedAs) (maxL := 4) (ret := (some .int)) (by decide) rfl ?_
  intro p e s m args below meth c_ s₁ B hml hv
  obtain ⟨rfl, hP, hK, hN⟩ := hv
  have hx := B.exec
  have hb := B.bytes
  have hr := B.returns
  have hts := atoms_spec (ws := wsX0_judgedAs) B.pre
  have hown : s.vm.findClass RX0 = some m.cls := findClass_of_methodNamed B.named
  have hlocks := B.notSynchronized
  have hl := lv_entry ([.ref (q 2), .int w]) (n := 4) (Nat.le_of_ble_eq_true rfl)
  rw [lg_entry_eq]
  generalize (lg_sl ([.ref (q 2), .int w]) ++ List.replicate (4 - (lg_sl ([.ref (q 2), .int w])).length) Slot.unset).toArray = ls at hl ⊢
  have hl : lv_has ls 4 [(0, .ref (q 2)), (1, .int w)] := hl
  have hn60 := hI.n60
  have hc100 := hI.c100
  refine lv_iconst (v := 0) hx hb dX0_judgedAs_0 (by decide) ?_
  refine lv_istore_n (lv' := [(2, .int 0), (0, .ref (q 2)), (1, .int w)]) hx hb dX0_judgedAs_1 rfl hl (by decide) rfl (fun ls hl => ?_)
  refine lv_iconst (v := 0) hx hb dX0_judgedAs_2 (by decide) ?_
  refine lv_istore_n (lv' := [(3, .int 0), (2, .int 0), (0, .ref (q 2)), (1, .int w)]) hx hb dX0_judgedAs_3 rfl hl (by decide) rfl (fun ls hl => ?_)
  refine lpW (fun k ls => lv_has ls 4 [(0, .ref (q 2)), (1, .int w), (2, .int (ctI (sJud F w) k)), (3, .int (nI k))]) c 0 (Nat.zero_le _) ls (show lv_has ls 4 [(0, .ref (q 2)), (1, .int w), (2, .int (ctI (sJud F w) 0)), (3, .int (nI 0))] from lv_sub hl [2, 3, 1, 0] rfl) ?_ ?_
  · intro ls hl
    have hl : lv_has ls 4 [(0, .ref (q 2)), (1, .int w), (2, .int (ctI (sJud F w) c)), (3, .int (nI c))] := hl
    refine lv_iload_n hx hb dX0_judgedAs_4 rfl (lv_at hl 3 rfl) ?_
    refine lv_aload_n hx hb dX0_judgedAs_5 rfl (lv_at hl 0 rfl) ?_
    refine va_get (D := D) (ci := 0) (v := .int (nI c)) (C := RX0) (T := TX0) (N := 8) hx hb hts (fun _ h => List.mem_cons_of_mem _ (List.mem_append_right _ h)) hown hK hP 0 rfl rfl 7 (by decide) (hts (.fieldLink RX0 33 "UnderPromise$Claims" "size" "I") (List.mem_of_getElem? (i := 1) rfl)) (fun _ h9 => h9) rfl dX0_judgedAs_6 ?_
    refine lv_icmp_ge (tgt := 31) hx hb dX0_judgedAs_9 (by decide) (fun c_1 => ?_) (fun c_1 => ?_)
    · have c_2 := i_le c_1
      refine lv_iload_n hx hb dX0_judgedAs_31 rfl (lv_at hl 2 rfl) ?_
      exact W.iret (v := (ctI (sJud F w) c)) hx hb hr (fun t9 ht9 hW9 => ⟨(ctI (sJud F w) c), rfl, rfl, ht9⟩) (fun _ h => by cases h) dX0_judgedAs_32
    · exact absurd (nI_le (Nat.le_refl _) (by omega)) c_1
  · intro k hk0 hk ih ls hl
    have hl : lv_has ls 4 [(0, .ref (q 2)), (1, .int w), (2, .int (ctI (sJud F w) k)), (3, .int (nI k))] := hl
    refine lv_iload_n hx hb dX0_judgedAs_4 rfl (lv_at hl 3 rfl) ?_
    refine lv_aload_n hx hb dX0_judgedAs_5 rfl (lv_at hl 0 rfl) ?_
    refine va_get (D := D) (ci := 0) (v := .int (nI c)) (C := RX0) (T := TX0) (N := 8) hx hb hts (fun _ h => List.mem_cons_of_mem _ (List.mem_append_right _ h)) hown hK hP 0 rfl rfl 7 (by decide) (hts (.fieldLink RX0 33 "UnderPromise$Claims" "size" "I") (List.mem_of_getElem? (i := 1) rfl)) (fun _ h9 => h9) rfl dX0_judgedAs_6 ?_
    refine lv_icmp_ge (tgt := 31) hx hb dX0_judgedAs_9 (by decide) (fun c_3 => ?_) (fun c_3 => ?_)
    · exact absurd c_3 (nI_ge hk (by omega))
    · have c_4 := i_nle c_3
      refine lv_aload_n hx hb dX0_judgedAs_12 rfl (lv_at hl 0 rfl) ?_
      refine va_get (D := D) (ci := 0) (v := .ref (q 26)) (C := RX0) (T := TX0) (N := 8) hx hb hts (fun _ h => List.mem_cons_of_mem _ (List.mem_append_right _ h)) hown hK hP 0 rfl rfl 6 (by decide) (hts (.fieldLink RX0 30 "UnderPromise$Claims" "judged" "[I") (List.mem_of_getElem? (i := 2) rfl)) (fun _ h9 => h9) rfl dX0_judgedAs_13 ?_
      refine lv_iload_n hx hb dX0_judgedAs_16 rfl (lv_at hl 3 rfl) ?_
      refine iaK (v := (F 11 k)) hx hb hK hP 7 0 rfl rfl k (vp_in_nI (by omega) (by decide)) (nI_clamp (by omega)) rfl dX0_judgedAs_17 ?_
      refine lv_iload_n hx hb dX0_judgedAs_18 rfl (lv_at hl 1 rfl) ?_
      refine lv_icmp_ne (tgt := 25) hx hb dX0_judgedAs_19 (by decide) (fun c_5 => ?_) (fun c_5 => ?_)
      · refine lv_iinc (v := ((nI k) + 1)) (lv' := [(3, .int ((nI k) + 1)), (0, .ref (q 2)), (1, .int w), (2, .int (ctI (sJud F w) k))]) hx hb dX0_judgedAs_25 hl (k := 3) rfl rfl (by decide) rfl (fun ls hl => ?_)
        refine lv_goto (tgt := 4) hx hb dX0_judgedAs_28 (by decide) ?_
        have h_6 : (ctI (sJud F w) k) = (ctI (sJud F w) (k + 1)) := (by first | with_reducible rfl | simp [ctI, sJud, c_3, c_4, c_5])
        have h_7 : ((nI k) + 1) = (nI (k + 1)) := (nI_1 _)
        exact ih _ (lv_cast (lv_sub (l' := [(0, .ref (q 2)), (1, .int w), (2, .int (ctI (sJud F w) k)), (3, .int ((nI k) + 1))]) hl [1, 2, 3, 0] rfl) (cg2 (fun z6 z7 => [(0, .ref (q 2)), (1, .int w), (2, .int z6), (3, .int z7)]) h_6 h_7))
      · refine lv_iinc (v := ((ctI (sJud F w) k) + 1)) (lv' := [(2, .int ((ctI (sJud F w) k) + 1)), (0, .ref (q 2)), (1, .int w), (3, .int (nI k))]) hx hb dX0_judgedAs_22 hl (k := 2) rfl rfl (by decide) rfl (fun ls hl => ?_)
        refine lv_iinc (v := ((nI k) + 1)) (lv' := [(3, .int ((nI k) + 1)), (2, .int ((ctI (sJud F w) k) + 1)), (0, .ref (q 2)), (1, .int w)]) hx hb dX0_judgedAs_25 hl (k := 3) rfl rfl (by decide) rfl (fun ls hl => ?_)
        refine lv_goto (tgt := 4) hx hb dX0_judgedAs_28 (by decide) ?_
        have h_8 : ((ctI (sJud F w) k) + 1) = (ctI (sJud F w) (k + 1)) := (by first | with_reducible rfl | simp [ctI, sJud, c_3, c_4, c_5])
        have h_9 : ((nI k) + 1) = (nI (k + 1)) := (nI_1 _)
        exact ih _ (lv_cast (lv_sub (l' := [(0, .ref (q 2)), (1, .int w), (2, .int ((ctI (sJud F w) k) + 1)), (3, .int ((nI k) + 1))]) hl [2, 3, 1, 0] rfl) (cg2 (fun z8 z9 => [(0, .ref (q 2)), (1, .int w), (2, .int z8), (3, .int z9)]) h_8 h_9))
set_option maxHeartbeats 4000000 in
set_option maxRecDepth 100000 in
/-- X0_anyLet -/
theorem c_X0_anyLet (l : Launch) (D : va_G) (cs : Nat → ClassId) (q : Nat → Nat) (F : Nat → Nat → Int32) (n c : Nat) (t0 : Int32) (p0 : Int32) (fr : Int32) (to0 : Int32) (hI : Inv F n c) : Met l yX0_anyLet wsX0_anyLet ({ frames := 0, cells := 0, slots := 0, locals := 0 }) (va_Pc [.ref (q 2), .int t0, .int p0, .int fr, .int to0] (pw D cs (cW q cs F c))) (vp_Si (fun r => r = (bI (anyB (sAny F t0 p0 fr to0) c)))) 0 0 (fun _ => False) := by
  refine Met.ofW (cc := cX0_anyLet) (maxL := 7) (ret := (some .boolean)) (by decide) rfl ?_
  intro p e s m args below meth c_ s₁ B hml hv
  obtain ⟨rfl, hP, hK, hN⟩ := hv
  have hx := B.exec
  have hb := B.bytes
  have hr := B.returns
  have hts := atoms_spec (ws := wsX0_anyLet) B.pre
  have hown : s.vm.findClass RX0 = some m.cls := findClass_of_methodNamed B.named
  have hlocks := B.notSynchronized
  have hl := lv_entry ([.ref (q 2), .int t0, .int p0, .int fr, .int to0]) (n := 7) (Nat.le_of_ble_eq_true rfl)
  rw [lg_entry_eq]
  generalize (lg_sl ([.ref (q 2), .int t0, .int p0, .int fr, .int to0]) ++ List.replicate (7 - (lg_sl ([.ref (q 2), .int t0, .int p0, .int fr, .int to0])).length) Slot.unset).toArray = ls at hl ⊢
  have hl : lv_has ls 7 [(0, .ref (q 2)), (1, .int t0), (2, .int p0), (3, .int fr), (4, .int to0)] := hl
  have hn60 := hI.n60
  have hc100 := hI.c100
  refine lv_iconst (v := 0) hx hb dX0_anyLet_0 (by decide) ?_
  refine lv_istore (lv' := [(5, .int 0), (0, .ref (q 2)), (1, .int t0), (2, .int p0), (3, .int fr), (4, .int to0)]) hx hb dX0_anyLet_1 hl (by decide) rfl (fun ls hl => ?_)
  refine lpW (fun k ls => lv_has ls 7 [(0, .ref (q 2)), (1, .int t0), (2, .int p0), (3, .int fr), (4, .int to0), (5, .int (nI k))] ∧ (anyB (sAny F t0 p0 fr to0) k = false)) c 0 (Nat.zero_le _) ls ⟨(show lv_has ls 7 [(0, .ref (q 2)), (1, .int t0), (2, .int p0), (3, .int fr), (4, .int to0), (5, .int (nI 0))] from lv_sub hl [1, 2, 3, 4, 5, 0] rfl), rfl⟩ ?_ ?_
  · intro ls ⟨hl, hE⟩
    have hl : lv_has ls 7 [(0, .ref (q 2)), (1, .int t0), (2, .int p0), (3, .int fr), (4, .int to0), (5, .int (nI c))] := hl
    have hE : anyB (sAny F t0 p0 fr to0) c = false := hE
    refine lv_iload hx hb dX0_anyLet_3 (lv_at hl 5 rfl) ?_
    refine lv_aload_n hx hb dX0_anyLet_5 rfl (lv_at hl 0 rfl) ?_
    refine va_get (D := D) (ci := 0) (v := .int (nI c)) (C := RX0) (T := TX0) (N := 8) hx hb hts (fun _ h => List.mem_cons_of_mem _ (List.mem_append_right _ h)) hown hK hP 0 rfl rfl 7 (by decide) (hts (.fieldLink RX0 33 "UnderPromise$Claims" "size" "I") (List.mem_of_getElem? (i := 1) rfl)) (fun _ h9 => h9) rfl dX0_anyLet_6 ?_
    refine lv_icmp_ge (tgt := 87) hx hb dX0_anyLet_9 (by decide) (fun c_1 => ?_) (fun c_1 => ?_)
    · have c_2 := i_le c_1
      refine lv_iconst (v := 0) hx hb dX0_anyLet_87 (by decide) ?_
      exact W.zret (v := 0) hx hb hr rfl (fun t9 ht9 hW9 => ⟨0, rfl, (by rw [hE]; rfl), ht9⟩) (fun _ h => by cases h) dX0_anyLet_88
    · exact absurd (nI_le (Nat.le_refl _) (by omega)) c_1
  · intro k hk0 hk ih ls ⟨hl, hE⟩
    have hl : lv_has ls 7 [(0, .ref (q 2)), (1, .int t0), (2, .int p0), (3, .int fr), (4, .int to0), (5, .int (nI k))] := hl
    have hE : anyB (sAny F t0 p0 fr to0) k = false := hE
    refine lv_iload hx hb dX0_anyLet_3 (lv_at hl 5 rfl) ?_
    refine lv_aload_n hx hb dX0_anyLet_5 rfl (lv_at hl 0 rfl) ?_
    refine va_get (D := D) (ci := 0) (v := .int (nI c)) (C := RX0) (T := TX0) (N := 8) hx hb hts (fun _ h => List.mem_cons_of_mem _ (List.mem_append_right _ h)) hown hK hP 0 rfl rfl 7 (by decide) (hts (.fieldLink RX0 33 "UnderPromise$Claims" "size" "I") (List.mem_of_getElem? (i := 1) rfl)) (fun _ h9 => h9) rfl dX0_anyLet_6 ?_
    refine lv_icmp_ge (tgt := 87) hx hb dX0_anyLet_9 (by decide) (fun c_3 => ?_) (fun c_3 => ?_)
    · exact absurd c_3 (nI_ge hk (by omega))
    · have c_4 := i_nle c_3
      refine lv_aload_n hx hb dX0_anyLet_12 rfl (lv_at hl 0 rfl) ?_
      refine va_get (D := D) (ci := 0) (v := .ref (q 20)) (C := RX0) (T := TX0) (N := 8) hx hb hts (fun _ h => List.mem_cons_of_mem _ (List.mem_append_right _ h)) hown hK hP 0 rfl rfl 0 (by decide) (hts (.fieldLink RX0 9 "UnderPromise$Claims" "thing" "[I") (List.mem_of_getElem? (i := 2) rfl)) (fun _ h9 => h9) rfl dX0_anyLet_13 ?_
      refine lv_iload hx hb dX0_anyLet_16 (lv_at hl 5 rfl) ?_
      refine iaK (v := (F 6 k)) hx hb hK hP 1 0 rfl rfl k (vp_in_nI (by omega) (by decide)) (nI_clamp (by omega)) rfl dX0_anyLet_18 ?_
      refine lv_iload_n hx hb dX0_anyLet_19 rfl (lv_at hl 1 rfl) ?_
      refine lv_icmp_ne (tgt := 38) hx hb dX0_anyLet_20 (by decide) (fun c_5 => ?_) (fun c_5 => ?_)
      · refine lv_iconst (v := 0) hx hb dX0_anyLet_38 (by decide) ?_
        refine lv_istore (lv' := [(6, .int 0), (0, .ref (q 2)), (1, .int t0), (2, .int p0), (3, .int fr), (4, .int to0), (5, .int (nI k))]) hx hb dX0_anyLet_39 hl (by decide) rfl (fun ls hl => ?_)
        refine lv_iload hx hb dX0_anyLet_41 (lv_at hl 0 rfl) ?_
        refine lv_if_eq (tgt := 81) hx hb dX0_anyLet_43 (by decide) (fun c_6 => ?_) (fun c_6 => ?_)
        · refine lv_iinc (v := ((nI k) + 1)) (lv' := [(5, .int ((nI k) + 1)), (6, .int 0), (0, .ref (q 2)), (1, .int t0), (2, .int p0), (3, .int fr), (4, .int to0)]) hx hb dX0_anyLet_81 hl (k := 6) rfl rfl (by decide) rfl (fun ls hl => ?_)
          refine lv_goto (tgt := 3) hx hb dX0_anyLet_84 (by decide) ?_
          have h_7 : ((nI k) + 1) = (nI (k + 1)) := (nI_1 _)
          exact ih _ ⟨(lv_cast (lv_sub (l' := [(0, .ref (q 2)), (1, .int t0), (2, .int p0), (3, .int fr), (4, .int to0), (5, .int ((nI k) + 1))]) hl [2, 3, 4, 5, 6, 0] rfl) (cg1 (fun z7 => [(0, .ref (q 2)), (1, .int t0), (2, .int p0), (3, .int fr), (4, .int to0), (5, .int z7)]) h_7)), (by simp [anyB, hE, sAny, rg, c_3, c_4, c_5, c_6])⟩
        · exact absurd c_6 (by decide)
      · refine lv_aload_n hx hb dX0_anyLet_23 rfl (lv_at hl 0 rfl) ?_
        refine va_get (D := D) (ci := 0) (v := .ref (q 21)) (C := RX0) (T := TX0) (N := 8) hx hb hts (fun _ h => List.mem_cons_of_mem _ (List.mem_append_right _ h)) hown hK hP 0 rfl rfl 1 (by decide) (hts (.fieldLink RX0 15 "UnderPromise$Claims" "part" "[I") (List.mem_of_getElem? (i := 3) rfl)) (fun _ h9 => h9) rfl dX0_anyLet_24 ?_
        refine lv_iload hx hb dX0_anyLet_27 (lv_at hl 5 rfl) ?_
        refine iaK (v := (F 7 k)) hx hb hK hP 2 0 rfl rfl k (vp_in_nI (by omega) (by decide)) (nI_clamp (by omega)) rfl dX0_anyLet_29 ?_
        refine lv_iload_n hx hb dX0_anyLet_30 rfl (lv_at hl 2 rfl) ?_
        refine lv_icmp_ne (tgt := 38) hx hb dX0_anyLet_31 (by decide) (fun c_8 => ?_) (fun c_8 => ?_)
        · refine lv_iconst (v := 0) hx hb dX0_anyLet_38 (by decide) ?_
          refine lv_istore (lv' := [(6, .int 0), (0, .ref (q 2)), (1, .int t0), (2, .int p0), (3, .int fr), (4, .int to0), (5, .int (nI k))]) hx hb dX0_anyLet_39 hl (by decide) rfl (fun ls hl => ?_)
          refine lv_iload hx hb dX0_anyLet_41 (lv_at hl 0 rfl) ?_
          refine lv_if_eq (tgt := 81) hx hb dX0_anyLet_43 (by decide) (fun c_9 => ?_) (fun c_9 => ?_)
          · refine lv_iinc (v := ((nI k) + 1)) (lv' := [(5, .int ((nI k) + 1)), (6, .int 0), (0, .ref (q 2)), (1, .int t0), (2, .int p0), (3, .int fr), (4, .int to0)]) hx hb dX0_anyLet_81 hl (k := 6) rfl rfl (by decide) rfl (fun ls hl => ?_)
            refine lv_goto (tgt := 3) hx hb dX0_anyLet_84 (by decide) ?_
            have h_10 : ((nI k) + 1) = (nI (k + 1)) := (nI_1 _)
            exact ih _ ⟨(lv_cast (lv_sub (l' := [(0, .ref (q 2)), (1, .int t0), (2, .int p0), (3, .int fr), (4, .int to0), (5, .int ((nI k) + 1))]) hl [2, 3, 4, 5, 6, 0] rfl) (cg1 (fun z10 => [(0, .ref (q 2)), (1, .int t0), (2, .int p0), (3, .int fr), (4, .int to0), (5, .int z10)]) h_10)), (by simp [anyB, hE, sAny, rg, c_3, c_4, c_5, c_8, c_9])⟩
          · exact absurd c_9 (by decide)
        · refine lv_iconst (v := 1) hx hb dX0_anyLet_34 (by decide) ?_
          refine lv_goto (tgt := 39) hx hb dX0_anyLet_35 (by decide) ?_
          refine lv_istore (lv' := [(6, .int 1), (0, .ref (q 2)), (1, .int t0), (2, .int p0), (3, .int fr), (4, .int to0), (5, .int (nI k))]) hx hb dX0_anyLet_39 hl (by decide) rfl (fun ls hl => ?_)
          refine lv_iload hx hb dX0_anyLet_41 (lv_at hl 0 rfl) ?_
          refine lv_if_eq (tgt := 81) hx hb dX0_anyLet_43 (by decide) (fun c_11 => ?_) (fun c_11 => ?_)
          · exact absurd c_11 (by decide)
          · refine lv_aload_n hx hb dX0_anyLet_46 rfl (lv_at hl 1 rfl) ?_
            refine va_get (D := D) (ci := 0) (v := .ref (q 26)) (C := RX0) (T := TX0) (N := 8) hx hb hts (fun _ h => List.mem_cons_of_mem _ (List.mem_append_right _ h)) hown hK hP 0 rfl rfl 6 (by decide) (hts (.fieldLink RX0 30 "UnderPromise$Claims" "judged" "[I") (List.mem_of_getElem? (i := 4) rfl)) (fun _ h9 => h9) rfl dX0_anyLet_47 ?_
            refine lv_iload hx hb dX0_anyLet_50 (lv_at hl 6 rfl) ?_
            refine iaK (v := (F 11 k)) hx hb hK hP 7 0 rfl rfl k (vp_in_nI (by omega) (by decide)) (nI_clamp (by omega)) rfl dX0_anyLet_52 ?_
            refine lv_if_ne (tgt := 81) hx hb dX0_anyLet_53 (by decide) (fun c_12 => ?_) (fun c_12 => ?_)
            · refine lv_iinc (v := ((nI k) + 1)) (lv' := [(5, .int ((nI k) + 1)), (6, .int 1), (0, .ref (q 2)), (1, .int t0), (2, .int p0), (3, .int fr), (4, .int to0)]) hx hb dX0_anyLet_81 hl (k := 6) rfl rfl (by decide) rfl (fun ls hl => ?_)
              refine lv_goto (tgt := 3) hx hb dX0_anyLet_84 (by decide) ?_
              have h_13 : ((nI k) + 1) = (nI (k + 1)) := (nI_1 _)
              exact ih _ ⟨(lv_cast (lv_sub (l' := [(0, .ref (q 2)), (1, .int t0), (2, .int p0), (3, .int fr), (4, .int to0), (5, .int ((nI k) + 1))]) hl [2, 3, 4, 5, 6, 0] rfl) (cg1 (fun z13 => [(0, .ref (q 2)), (1, .int t0), (2, .int p0), (3, .int fr), (4, .int to0), (5, .int z13)]) h_13)), (by simp [anyB, hE, sAny, rg, c_3, c_4, c_5, c_8, c_11, c_12])⟩
            · refine lv_aload_n hx hb dX0_anyLet_56 rfl (lv_at hl 1 rfl) ?_
              refine va_get (D := D) (ci := 0) (v := .ref (q 22)) (C := RX0) (T := TX0) (N := 8) hx hb hts (fun _ h => List.mem_cons_of_mem _ (List.mem_append_right _ h)) hown hK hP 0 rfl rfl 2 (by decide) (hts (.fieldLink RX0 18 "UnderPromise$Claims" "failed" "[I") (List.mem_of_getElem? (i := 5) rfl)) (fun _ h9 => h9) rfl dX0_anyLet_57 ?_
              refine lv_iload hx hb dX0_anyLet_60 (lv_at hl 6 rfl) ?_
              refine iaK (v := (F 8 k)) hx hb hK hP 3 0 rfl rfl k (vp_in_nI (by omega) (by decide)) (nI_clamp (by omega)) rfl dX0_anyLet_62 ?_
              refine lv_iload_n hx hb dX0_anyLet_63 rfl (lv_at hl 4 rfl) ?_
              refine lv_icmp_lt (tgt := 81) hx hb dX0_anyLet_64 (by decide) (fun c_14 => ?_) (fun c_14 => ?_)
              · have c_15 := i_lt c_14
                refine lv_iinc (v := ((nI k) + 1)) (lv' := [(5, .int ((nI k) + 1)), (6, .int 1), (0, .ref (q 2)), (1, .int t0), (2, .int p0), (3, .int fr), (4, .int to0)]) hx hb dX0_anyLet_81 hl (k := 6) rfl rfl (by decide) rfl (fun ls hl => ?_)
                refine lv_goto (tgt := 3) hx hb dX0_anyLet_84 (by decide) ?_
                have h_16 : ((nI k) + 1) = (nI (k + 1)) := (nI_1 _)
                exact ih _ ⟨(lv_cast (lv_sub (l' := [(0, .ref (q 2)), (1, .int t0), (2, .int p0), (3, .int fr), (4, .int to0), (5, .int ((nI k) + 1))]) hl [2, 3, 4, 5, 6, 0] rfl) (cg1 (fun z16 => [(0, .ref (q 2)), (1, .int t0), (2, .int p0), (3, .int fr), (4, .int to0), (5, .int z16)]) h_16)), (by simp [anyB, hE, sAny, rg, c_3, c_4, c_5, c_8, c_11, c_12, c_14, c_15])⟩
              · have c_17 := i_nlt c_14
                refine lv_aload_n hx hb dX0_anyLet_67 rfl (lv_at hl 1 rfl) ?_
                refine va_get (D := D) (ci := 0) (v := .ref (q 22)) (C := RX0) (T := TX0) (N := 8) hx hb hts (fun _ h => List.mem_cons_of_mem _ (List.mem_append_right _ h)) hown hK hP 0 rfl rfl 2 (by decide) (hts (.fieldLink RX0 18 "UnderPromise$Claims" "failed" "[I") (List.mem_of_getElem? (i := 5) rfl)) (fun _ h9 => h9) rfl dX0_anyLet_68 ?_
                refine lv_iload hx hb dX0_anyLet_71 (lv_at hl 6 rfl) ?_
                refine iaK (v := (F 8 k)) hx hb hK hP 3 0 rfl rfl k (vp_in_nI (by omega) (by decide)) (nI_clamp (by omega)) rfl dX0_anyLet_73 ?_
                refine lv_iload hx hb dX0_anyLet_74 (lv_at hl 5 rfl) ?_
                refine lv_icmp_gt (tgt := 81) hx hb dX0_anyLet_76 (by decide) (fun c_18 => ?_) (fun c_18 => ?_)
                · have c_19 := i_lt c_18
                  refine lv_iinc (v := ((nI k) + 1)) (lv' := [(5, .int ((nI k) + 1)), (6, .int 1), (0, .ref (q 2)), (1, .int t0), (2, .int p0), (3, .int fr), (4, .int to0)]) hx hb dX0_anyLet_81 hl (k := 6) rfl rfl (by decide) rfl (fun ls hl => ?_)
                  refine lv_goto (tgt := 3) hx hb dX0_anyLet_84 (by decide) ?_
                  have h_20 : ((nI k) + 1) = (nI (k + 1)) := (nI_1 _)
                  exact ih _ ⟨(lv_cast (lv_sub (l' := [(0, .ref (q 2)), (1, .int t0), (2, .int p0), (3, .int fr), (4, .int to0), (5, .int ((nI k) + 1))]) hl [2, 3, 4, 5, 6, 0] rfl) (cg1 (fun z20 => [(0, .ref (q 2)), (1, .int t0), (2, .int p0), (3, .int fr), (4, .int to0), (5, .int z20)]) h_20)), (by simp [anyB, hE, sAny, rg, c_3, c_4, c_5, c_8, c_11, c_12, c_14, c_17, c_18, c_19])⟩
                · have c_21 := i_nlt c_18
                  refine lv_iconst (v := 1) hx hb dX0_anyLet_79 (by decide) ?_
                  exact W.zret (v := 1) hx hb hr rfl (fun t9 ht9 hW9 => ⟨1, rfl, (by rw [anyB_t hk (by simp [sAny, rg, c_3, c_4, c_5, c_8, c_11, c_12, c_14, c_17, c_18, c_21])]; rfl), ht9⟩) (fun _ h => by cases h) dX0_anyLet_80
set_option maxHeartbeats 4000000 in
set_option maxRecDepth 100000 in
/-- X0_letCost -/
theorem c_X0_letCost (l : Launch) (D : va_G) (cs : Nat → ClassId) (q : Nat → Nat) (F : Nat → Nat → Int32) (n c : Nat)  (hI : Inv F n c) : Met l yX0_letCost wsX0_letCost ({ frames := 0, cells := 0, slots := 0, locals := 0 }) (va_Pc [.ref (q 2)] (pw D cs (cW q cs F c))) (vp_Si (fun r => r = (smI (sCost F) c))) 0 0 (fun _ => False) := by
  refine Met.ofW (cc := cX0_letCost) (maxL := 3) (ret := (some .int)) (by decide) rfl ?_
  intro p e s m args below meth c_ s₁ B hml hv
  obtain ⟨rfl, hP, hK, hN⟩ := hv
  have hx := B.exec
  have hb := B.bytes
  have hr := B.returns
  have hts := atoms_spec (ws := wsX0_letCost) B.pre
  have hown : s.vm.findClass RX0 = some m.cls := findClass_of_methodNamed B.named
  have hlocks := B.notSynchronized
  have hl := lv_entry ([.ref (q 2)]) (n := 3) (Nat.le_of_ble_eq_true rfl)
  rw [lg_entry_eq]
  generalize (lg_sl ([.ref (q 2)]) ++ List.replicate (3 - (lg_sl ([.ref (q 2)])).length) Slot.unset).toArray = ls at hl ⊢
  have hl : lv_has ls 3 [(0, .ref (q 2))] := hl
  have hn60 := hI.n60
  have hc100 := hI.c100
  refine lv_iconst (v := 0) hx hb dX0_letCost_0 (by decide) ?_
  refine lv_istore_n (lv' := [(1, .int 0), (0, .ref (q 2))]) hx hb dX0_letCost_1 rfl hl (by decide) rfl (fun ls hl => ?_)
  refine lv_iconst (v := 0) hx hb dX0_letCost_2 (by decide) ?_
  refine lv_istore_n (lv' := [(2, .int 0), (1, .int 0), (0, .ref (q 2))]) hx hb dX0_letCost_3 rfl hl (by decide) rfl (fun ls hl => ?_)
  refine lpW (fun k ls => lv_has ls 3 [(0, .ref (q 2)), (1, .int (smI (sCost F) k)), (2, .int (nI k))]) c 0 (Nat.zero_le _) ls (show lv_has ls 3 [(0, .ref (q 2)), (1, .int (smI (sCost F) 0)), (2, .int (nI 0))] from lv_sub hl [2, 1, 0] rfl) ?_ ?_
  · intro ls hl
    have hl : lv_has ls 3 [(0, .ref (q 2)), (1, .int (smI (sCost F) c)), (2, .int (nI c))] := hl
    refine lv_iload_n hx hb dX0_letCost_4 rfl (lv_at hl 2 rfl) ?_
    refine lv_aload_n hx hb dX0_letCost_5 rfl (lv_at hl 0 rfl) ?_
    refine va_get (D := D) (ci := 0) (v := .int (nI c)) (C := RX0) (T := TX0) (N := 8) hx hb hts (fun _ h => List.mem_cons_of_mem _ (List.mem_append_right _ h)) hown hK hP 0 rfl rfl 7 (by decide) (hts (.fieldLink RX0 33 "UnderPromise$Claims" "size" "I") (List.mem_of_getElem? (i := 1) rfl)) (fun _ h9 => h9) rfl dX0_letCost_6 ?_
    refine lv_icmp_ge (tgt := 36) hx hb dX0_letCost_9 (by decide) (fun c_1 => ?_) (fun c_1 => ?_)
    · have c_2 := i_le c_1
      refine lv_iload_n hx hb dX0_letCost_36 rfl (lv_at hl 1 rfl) ?_
      exact W.iret (v := (smI (sCost F) c)) hx hb hr (fun t9 ht9 hW9 => ⟨(smI (sCost F) c), rfl, rfl, ht9⟩) (fun _ h => by cases h) dX0_letCost_37
    · exact absurd (nI_le (Nat.le_refl _) (by omega)) c_1
  · intro k hk0 hk ih ls hl
    have hl : lv_has ls 3 [(0, .ref (q 2)), (1, .int (smI (sCost F) k)), (2, .int (nI k))] := hl
    refine lv_iload_n hx hb dX0_letCost_4 rfl (lv_at hl 2 rfl) ?_
    refine lv_aload_n hx hb dX0_letCost_5 rfl (lv_at hl 0 rfl) ?_
    refine va_get (D := D) (ci := 0) (v := .int (nI c)) (C := RX0) (T := TX0) (N := 8) hx hb hts (fun _ h => List.mem_cons_of_mem _ (List.mem_append_right _ h)) hown hK hP 0 rfl rfl 7 (by decide) (hts (.fieldLink RX0 33 "UnderPromise$Claims" "size" "I") (List.mem_of_getElem? (i := 1) rfl)) (fun _ h9 => h9) rfl dX0_letCost_6 ?_
    refine lv_icmp_ge (tgt := 36) hx hb dX0_letCost_9 (by decide) (fun c_3 => ?_) (fun c_3 => ?_)
    · exact absurd c_3 (nI_ge hk (by omega))
    · have c_4 := i_nle c_3
      refine lv_aload_n hx hb dX0_letCost_12 rfl (lv_at hl 0 rfl) ?_
      refine va_get (D := D) (ci := 0) (v := .ref (q 26)) (C := RX0) (T := TX0) (N := 8) hx hb hts (fun _ h => List.mem_cons_of_mem _ (List.mem_append_right _ h)) hown hK hP 0 rfl rfl 6 (by decide) (hts (.fieldLink RX0 30 "UnderPromise$Claims" "judged" "[I") (List.mem_of_getElem? (i := 2) rfl)) (fun _ h9 => h9) rfl dX0_letCost_13 ?_
      refine lv_iload_n hx hb dX0_letCost_16 rfl (lv_at hl 2 rfl) ?_
      refine iaK (v := (F 11 k)) hx hb hK hP 7 0 rfl rfl k (vp_in_nI (by omega) (by decide)) (nI_clamp (by omega)) rfl dX0_letCost_17 ?_
      refine lv_if_ne (tgt := 30) hx hb dX0_letCost_18 (by decide) (fun c_5 => ?_) (fun c_5 => ?_)
      · refine lv_iinc (v := ((nI k) + 1)) (lv' := [(2, .int ((nI k) + 1)), (0, .ref (q 2)), (1, .int (smI (sCost F) k))]) hx hb dX0_letCost_30 hl (k := 2) rfl rfl (by decide) rfl (fun ls hl => ?_)
        refine lv_goto (tgt := 4) hx hb dX0_letCost_33 (by decide) ?_
        have h_6 : (smI (sCost F) k) = (smI (sCost F) (k + 1)) := (by first | with_reducible rfl | simp [smI, sCost, c_3, c_4, c_5])
        have h_7 : ((nI k) + 1) = (nI (k + 1)) := (nI_1 _)
        exact ih _ (lv_cast (lv_sub (l' := [(0, .ref (q 2)), (1, .int (smI (sCost F) k)), (2, .int ((nI k) + 1))]) hl [1, 2, 0] rfl) (cg2 (fun z6 z7 => [(0, .ref (q 2)), (1, .int z6), (2, .int z7)]) h_6 h_7))
      · refine lv_iload_n hx hb dX0_letCost_21 rfl (lv_at hl 1 rfl) ?_
        refine lv_aload_n hx hb dX0_letCost_22 rfl (lv_at hl 0 rfl) ?_
        refine va_get (D := D) (ci := 0) (v := .ref (q 24)) (C := RX0) (T := TX0) (N := 8) hx hb hts (fun _ h => List.mem_cons_of_mem _ (List.mem_append_right _ h)) hown hK hP 0 rfl rfl 4 (by decide) (hts (.fieldLink RX0 24 "UnderPromise$Claims" "cost" "[I") (List.mem_of_getElem? (i := 3) rfl)) (fun _ h9 => h9) rfl dX0_letCost_23 ?_
        refine lv_iload_n hx hb dX0_letCost_26 rfl (lv_at hl 2 rfl) ?_
        refine iaK (v := (F 10 k)) hx hb hK hP 5 0 rfl rfl k (vp_in_nI (by omega) (by decide)) (nI_clamp (by omega)) rfl dX0_letCost_27 ?_
        refine lv_iadd hx hb dX0_letCost_28 ?_
        refine lv_istore_n (lv' := [(1, .int ((smI (sCost F) k) + (F 10 k))), (0, .ref (q 2)), (2, .int (nI k))]) hx hb dX0_letCost_29 rfl hl (by decide) rfl (fun ls hl => ?_)
        refine lv_iinc (v := ((nI k) + 1)) (lv' := [(2, .int ((nI k) + 1)), (1, .int ((smI (sCost F) k) + (F 10 k))), (0, .ref (q 2))]) hx hb dX0_letCost_30 hl (k := 2) rfl rfl (by decide) rfl (fun ls hl => ?_)
        refine lv_goto (tgt := 4) hx hb dX0_letCost_33 (by decide) ?_
        have h_8 : ((smI (sCost F) k) + (F 10 k)) = (smI (sCost F) (k + 1)) := (by first | with_reducible rfl | simp [smI, sCost, c_3, c_4, c_5])
        have h_9 : ((nI k) + 1) = (nI (k + 1)) := (nI_1 _)
        exact ih _ (lv_cast (lv_sub (l' := [(0, .ref (q 2)), (1, .int ((smI (sCost F) k) + (F 10 k))), (2, .int ((nI k) + 1))]) hl [2, 1, 0] rfl) (cg2 (fun z8 z9 => [(0, .ref (q 2)), (1, .int z8), (2, .int z9)]) h_8 h_9))
set_option maxHeartbeats 4000000 in
set_option maxRecDepth 100000 in
/-- X0_thingsLetFor -/
theorem c_X0_thingsLetFor (l : Launch) (D : va_G) (cs : Nat → ClassId) (q : Nat → Nat) (F : Nat → Nat → Int32) (n c : Nat) (bs : Int32) (mo : Int32) (hI : Inv F n c) : Met l yX0_thingsLetFor wsX0_thingsLetFor ({ frames := 1, cells := 0, slots := 0, locals := 22 }) (va_Pc [.ref (q 2), .int bs, .int mo] (pw D cs (cW q cs F c))) (vp_Sl (fun r => r = (orL (sHit F bs mo) (fun k => bit1 (F 6 k)) c))) 0 0 (fun _ => False) := by
  refine Met.ofW (cc := cX0_thingsLetFor) (maxL := 6) (ret := (some .long)) (by decide) rfl ?_
  intro p e s m args below meth c_ s₁ B hml hv
  obtain ⟨rfl, hP, hK, hN⟩ := hv
  have hx := B.exec
  have hb := B.bytes
  have hr := B.returns
  have hts := atoms_spec (ws := wsX0_thingsLetFor) B.pre
  have hown : s.vm.findClass RX0 = some m.cls := findClass_of_methodNamed B.named
  have hlocks := B.notSynchronized
  have hl := lv_entry ([.ref (q 2), .int bs, .int mo]) (n := 6) (Nat.le_of_ble_eq_true rfl)
  rw [lg_entry_eq]
  generalize (lg_sl ([.ref (q 2), .int bs, .int mo]) ++ List.replicate (6 - (lg_sl ([.ref (q 2), .int bs, .int mo])).length) Slot.unset).toArray = ls at hl ⊢
  have hl : lv_has ls 6 [(0, .ref (q 2)), (1, .int bs), (2, .int mo)] := hl
  have hn60 := hI.n60
  have hc100 := hI.c100
  refine lv_lconst (v := 0) hx hb dX0_thingsLetFor_0 (by decide) ?_
  refine lv_lstore_n (lv' := [(3, .long 0), (0, .ref (q 2)), (1, .int bs), (2, .int mo)]) hx hb dX0_thingsLetFor_1 rfl hl (by decide) rfl (fun ls hl => ?_)
  refine lv_iconst (v := 0) hx hb dX0_thingsLetFor_2 (by decide) ?_
  refine lv_istore (lv' := [(5, .int 0), (3, .long 0), (0, .ref (q 2)), (1, .int bs), (2, .int mo)]) hx hb dX0_thingsLetFor_3 hl (by decide) rfl (fun ls hl => ?_)
  refine lpW (fun k ls => lv_has ls 6 [(0, .ref (q 2)), (1, .int bs), (2, .int mo), (3, .long (orL (sHit F bs mo) (fun k => bit1 (F 6 k)) k)), (5, .int (nI k))]) c 0 (Nat.zero_le _) ls (show lv_has ls 6 [(0, .ref (q 2)), (1, .int bs), (2, .int mo), (3, .long (orL (sHit F bs mo) (fun k => bit1 (F 6 k)) 0)), (5, .int (nI 0))] from lv_sub hl [2, 3, 4, 1, 0] rfl) ?_ ?_
  · intro ls hl
    have hl : lv_has ls 6 [(0, .ref (q 2)), (1, .int bs), (2, .int mo), (3, .long (orL (sHit F bs mo) (fun k => bit1 (F 6 k)) c)), (5, .int (nI c))] := hl
    refine lv_iload hx hb dX0_thingsLetFor_5 (lv_at hl 4 rfl) ?_
    refine lv_aload_n hx hb dX0_thingsLetFor_7 rfl (lv_at hl 0 rfl) ?_
    refine va_get (D := D) (ci := 0) (v := .int (nI c)) (C := RX0) (T := TX0) (N := 8) hx hb hts (fun _ h => List.mem_cons_of_mem _ (List.mem_append_right _ h)) hown hK hP 0 rfl rfl 7 (by decide) (hts (.fieldLink RX0 33 "UnderPromise$Claims" "size" "I") (List.mem_of_getElem? (i := 1) rfl)) (fun _ h9 => h9) rfl dX0_thingsLetFor_8 ?_
    refine lv_icmp_ge (tgt := 57) hx hb dX0_thingsLetFor_11 (by decide) (fun c_1 => ?_) (fun c_1 => ?_)
    · have c_2 := i_le c_1
      refine lv_lload_n hx hb dX0_thingsLetFor_57 rfl (lv_at hl 3 rfl) ?_
      exact W.lret (v := (orL (sHit F bs mo) (fun k => bit1 (F 6 k)) c)) hx hb hr (fun t9 ht9 hW9 => ⟨(orL (sHit F bs mo) (fun k => bit1 (F 6 k)) c), rfl, rfl, ht9⟩) (fun _ h => by cases h) dX0_thingsLetFor_58
    · exact absurd (nI_le (Nat.le_refl _) (by omega)) c_1
  · intro k hk0 hk ih ls hl
    have hl : lv_has ls 6 [(0, .ref (q 2)), (1, .int bs), (2, .int mo), (3, .long (orL (sHit F bs mo) (fun k => bit1 (F 6 k)) k)), (5, .int (nI k))] := hl
    refine lv_iload hx hb dX0_thingsLetFor_5 (lv_at hl 4 rfl) ?_
    refine lv_aload_n hx hb dX0_thingsLetFor_7 rfl (lv_at hl 0 rfl) ?_
    refine va_get (D := D) (ci := 0) (v := .int (nI c)) (C := RX0) (T := TX0) (N := 8) hx hb hts (fun _ h => List.mem_cons_of_mem _ (List.mem_append_right _ h)) hown hK hP 0 rfl rfl 7 (by decide) (hts (.fieldLink RX0 33 "UnderPromise$Claims" "size" "I") (List.mem_of_getElem? (i := 1) rfl)) (fun _ h9 => h9) rfl dX0_thingsLetFor_8 ?_
    refine lv_icmp_ge (tgt := 57) hx hb dX0_thingsLetFor_11 (by decide) (fun c_3 => ?_) (fun c_3 => ?_)
    · exact absurd c_3 (nI_ge hk (by omega))
    · have c_4 := i_nle c_3
      refine lv_aload_n hx hb dX0_thingsLetFor_14 rfl (lv_at hl 0 rfl) ?_
      refine lv_iload hx hb dX0_thingsLetFor_15 (lv_at hl 4 rfl) ?_
      refine lv_iload_n hx hb dX0_thingsLetFor_17 rfl (lv_at hl 2 rfl) ?_
      refine roVi (As := [.int (nI k), .int mo]) (rest := []) (v := (bI (sLetBy F mo k))) ⟨hx, hb, hml, hown, hts⟩ (c_X0_isLetBy l D cs q F n c k mo hI (by omega)) (cwV 2 hts gX0_thingsLetFor_X0_isLetBy rfl rfl rfl (by decide +kernel) ⟨Nat.le_of_ble_eq_true rfl, Nat.le_of_ble_eq_true rfl⟩) hP hK hN 0 rfl rfl rfl hl.1 rfl (Nat.le_of_ble_eq_true rfl) dX0_thingsLetFor_18 ⟨Nat.zero_le _, Nat.zero_le _⟩ ?_
      refine lv_if_eq (tgt := 51) hx hb dX0_thingsLetFor_21 (by decide) (fun c_5 => ?_) (fun c_5 => ?_)
      · have b_6 : (sLetBy F mo k) = false := bI_f c_5
        refine lv_iinc (v := ((nI k) + 1)) (lv' := [(5, .int ((nI k) + 1)), (0, .ref (q 2)), (1, .int bs), (2, .int mo), (3, .long (orL (sHit F bs mo) (fun k => bit1 (F 6 k)) k))]) hx hb dX0_thingsLetFor_51 hl (k := 4) rfl rfl (by decide) rfl (fun ls hl => ?_)
        refine lv_goto (tgt := 5) hx hb dX0_thingsLetFor_54 (by decide) ?_
        have h_7 : (orL (sHit F bs mo) (fun k => bit1 (F 6 k)) k) = (orL (sHit F bs mo) (fun k => bit1 (F 6 k)) (k + 1)) := (by first | with_reducible rfl | simp [orL, sHit, bit1, c_3, c_4, b_6])
        have h_8 : ((nI k) + 1) = (nI (k + 1)) := (nI_1 _)
        exact ih _ (lv_cast (lv_sub (l' := [(0, .ref (q 2)), (1, .int bs), (2, .int mo), (3, .long (orL (sHit F bs mo) (fun k => bit1 (F 6 k)) k)), (5, .int ((nI k) + 1))]) hl [1, 2, 3, 4, 0] rfl) (cg2 (fun z7 z8 => [(0, .ref (q 2)), (1, .int bs), (2, .int mo), (3, .long z7), (5, .int z8)]) h_7 h_8))
      · have b_9 : (sLetBy F mo k) = true := bI_t c_5
        refine lv_iload_n hx hb dX0_thingsLetFor_24 rfl (lv_at hl 1 rfl) ?_
        refine lv_i2l (v := (Int32.toInt64 bs)) hx hb dX0_thingsLetFor_25 rfl ?_
        refine lv_aload_n hx hb dX0_thingsLetFor_26 rfl (lv_at hl 0 rfl) ?_
        refine va_get (D := D) (ci := 0) (v := .ref (q 21)) (C := RX0) (T := TX0) (N := 8) hx hb hts (fun _ h => List.mem_cons_of_mem _ (List.mem_append_right _ h)) hown hK hP 0 rfl rfl 1 (by decide) (hts (.fieldLink RX0 15 "UnderPromise$Claims" "part" "[I") (List.mem_of_getElem? (i := 2) rfl)) (fun _ h9 => h9) rfl dX0_thingsLetFor_27 ?_
        refine lv_iload hx hb dX0_thingsLetFor_30 (lv_at hl 4 rfl) ?_
        refine iaK (v := (F 7 k)) hx hb hK hP 2 0 rfl rfl k (vp_in_nI (by omega) (by decide)) (nI_clamp (by omega)) rfl dX0_thingsLetFor_32 ?_
        refine roNi (As := [.long (Int32.toInt64 bs), .int (F 7 k)]) (rest := []) (v := (bI (sHas (Int32.toInt64 bs) (F 7 k)))) ⟨hx, hb, hml, hown, hts⟩ (c_X4_hasBit l (Int32.toInt64 bs) (F 7 k)) (va_cnB 2 hts gX0_thingsLetFor_X4_hasBit_n45 rfl rfl rfl hN.2.2.1 (hts (.initialized RX4) (List.mem_of_getElem? (i := 12) rfl)) (by decide +kernel) ⟨Nat.le_of_ble_eq_true rfl, Nat.le_of_ble_eq_true rfl⟩) (hts (.static yX4_hasBit) (List.mem_of_getElem? (i := 11) rfl)) rfl hl.1 rfl (Nat.le_of_ble_eq_true rfl) dX0_thingsLetFor_33 ⟨Nat.zero_le _, Nat.zero_le _⟩ ?_
        refine lv_if_eq (tgt := 51) hx hb dX0_thingsLetFor_36 (by decide) (fun c_10 => ?_) (fun c_10 => ?_)
        · have b_11 : (sHas (Int32.toInt64 bs) (F 7 k)) = false := bI_f c_10
          refine lv_iinc (v := ((nI k) + 1)) (lv' := [(5, .int ((nI k) + 1)), (0, .ref (q 2)), (1, .int bs), (2, .int mo), (3, .long (orL (sHit F bs mo) (fun k => bit1 (F 6 k)) k))]) hx hb dX0_thingsLetFor_51 hl (k := 4) rfl rfl (by decide) rfl (fun ls hl => ?_)
          refine lv_goto (tgt := 5) hx hb dX0_thingsLetFor_54 (by decide) ?_
          have h_12 : (orL (sHit F bs mo) (fun k => bit1 (F 6 k)) k) = (orL (sHit F bs mo) (fun k => bit1 (F 6 k)) (k + 1)) := (by first | with_reducible rfl | simp [orL, sHit, bit1, c_3, c_4, b_9, b_11])
          have h_13 : ((nI k) + 1) = (nI (k + 1)) := (nI_1 _)
          exact ih _ (lv_cast (lv_sub (l' := [(0, .ref (q 2)), (1, .int bs), (2, .int mo), (3, .long (orL (sHit F bs mo) (fun k => bit1 (F 6 k)) k)), (5, .int ((nI k) + 1))]) hl [1, 2, 3, 4, 0] rfl) (cg2 (fun z12 z13 => [(0, .ref (q 2)), (1, .int bs), (2, .int mo), (3, .long z12), (5, .int z13)]) h_12 h_13))
        · have b_14 : (sHas (Int32.toInt64 bs) (F 7 k)) = true := bI_t c_10
          refine lv_lload_n hx hb dX0_thingsLetFor_39 rfl (lv_at hl 3 rfl) ?_
          refine lv_lconst (v := 1) hx hb dX0_thingsLetFor_40 (by decide) ?_
          refine lv_aload_n hx hb dX0_thingsLetFor_41 rfl (lv_at hl 0 rfl) ?_
          refine va_get (D := D) (ci := 0) (v := .ref (q 20)) (C := RX0) (T := TX0) (N := 8) hx hb hts (fun _ h => List.mem_cons_of_mem _ (List.mem_append_right _ h)) hown hK hP 0 rfl rfl 0 (by decide) (hts (.fieldLink RX0 9 "UnderPromise$Claims" "thing" "[I") (List.mem_of_getElem? (i := 3) rfl)) (fun _ h9 => h9) rfl dX0_thingsLetFor_42 ?_
          refine lv_iload hx hb dX0_thingsLetFor_45 (lv_at hl 4 rfl) ?_
          refine iaK (v := (F 6 k)) hx hb hK hP 1 0 rfl rfl k (vp_in_nI (by omega) (by decide)) (nI_clamp (by omega)) rfl dX0_thingsLetFor_47 ?_
          refine lv_lshl (v := (1 <<< (Int32.toInt64 (F 6 k) &&& 63))) hx hb dX0_thingsLetFor_48 rfl ?_
          refine lv_lor hx hb dX0_thingsLetFor_49 ?_
          refine lv_lstore_n (lv' := [(3, .long ((orL (sHit F bs mo) (fun k => bit1 (F 6 k)) k) ||| ((1 <<< (Int32.toInt64 (F 6 k) &&& 63))))), (0, .ref (q 2)), (1, .int bs), (2, .int mo), (5, .int (nI k))]) hx hb dX0_thingsLetFor_50 rfl hl (by decide) rfl (fun ls hl => ?_)
          refine lv_iinc (v := ((nI k) + 1)) (lv' := [(5, .int ((nI k) + 1)), (3, .long ((orL (sHit F bs mo) (fun k => bit1 (F 6 k)) k) ||| ((1 <<< (Int32.toInt64 (F 6 k) &&& 63))))), (0, .ref (q 2)), (1, .int bs), (2, .int mo)]) hx hb dX0_thingsLetFor_51 hl (k := 4) rfl rfl (by decide) rfl (fun ls hl => ?_)
          refine lv_goto (tgt := 5) hx hb dX0_thingsLetFor_54 (by decide) ?_
          have h_15 : ((orL (sHit F bs mo) (fun k => bit1 (F 6 k)) k) ||| ((1 <<< (Int32.toInt64 (F 6 k) &&& 63)))) = (orL (sHit F bs mo) (fun k => bit1 (F 6 k)) (k + 1)) := (by first | with_reducible rfl | simp [orL, sHit, bit1, c_3, c_4, b_9, b_14])
          have h_16 : ((nI k) + 1) = (nI (k + 1)) := (nI_1 _)
          exact ih _ (lv_cast (lv_sub (l' := [(0, .ref (q 2)), (1, .int bs), (2, .int mo), (3, .long ((orL (sHit F bs mo) (fun k => bit1 (F 6 k)) k) ||| ((1 <<< (Int32.toInt64 (F 6 k) &&& 63))))), (5, .int ((nI k) + 1))]) hl [2, 3, 4, 1, 0] rfl) (cg2 (fun z15 z16 => [(0, .ref (q 2)), (1, .int bs), (2, .int mo), (3, .long z15), (5, .int z16)]) h_15 h_16))
set_option maxHeartbeats 4000000 in
set_option maxRecDepth 100000 in
/-- X0_digestOnto -/
theorem c_X0_digestOnto (l : Launch) (D : va_G) (cs : Nat → ClassId) (q : Nat → Nat) (F : Nat → Nat → Int32) (n c : Nat) (h0 : Int64) (hI : Inv F n c) : Met l yX0_digestOnto wsX0_digestOnto ({ frames := 2, cells := 0, slots := 0, locals := 43 }) (va_Pc [.ref (q 2), .long h0] (pw D cs (cW q cs F c))) (vp_Sl (fun r => r = (dgC F h0 c))) 0 0 (fun _ => False) := by
  refine Met.ofW (cc := cX0_digestOnto) (maxL := 7) (ret := (some .long)) (by decide) rfl ?_
  intro p e s m args below meth c_ s₁ B hml hv
  obtain ⟨rfl, hP, hK, hN⟩ := hv
  have hx := B.exec
  have hb := B.bytes
  have hr := B.returns
  have hts := atoms_spec (ws := wsX0_digestOnto) B.pre
  have hown : s.vm.findClass RX0 = some m.cls := findClass_of_methodNamed B.named
  have hlocks := B.notSynchronized
  have hl := lv_entry ([.ref (q 2), .long h0]) (n := 7) (Nat.le_of_ble_eq_true rfl)
  rw [lg_entry_eq]
  generalize (lg_sl ([.ref (q 2), .long h0]) ++ List.replicate (7 - (lg_sl ([.ref (q 2), .long h0])).length) Slot.unset).toArray = ls at hl ⊢
  have hl : lv_has ls 7 [(0, .ref (q 2)), (1, .long h0)] := hl
  have hn60 := hI.n60
  have hc100 := hI.c100
  refine lv_lload_n hx hb dX0_digestOnto_0 rfl (lv_at hl 1 rfl) ?_
  refine lv_lstore_n (lv' := [(3, .long h0), (0, .ref (q 2)), (1, .long h0)]) hx hb dX0_digestOnto_1 rfl hl (by decide) rfl (fun ls hl => ?_)
  refine lv_iconst (v := 0) hx hb dX0_digestOnto_2 (by decide) ?_
  refine lv_istore (lv' := [(5, .int 0), (3, .long h0), (0, .ref (q 2)), (1, .long h0)]) hx hb dX0_digestOnto_3 hl (by decide) rfl (fun ls hl => ?_)
  refine lpW (fun k ls => lv_has ls 7 [(0, .ref (q 2)), (1, .long h0), (3, .long (dgC F h0 k)), (5, .int (nI k))]) c 0 (Nat.zero_le _) ls (show lv_has ls 7 [(0, .ref (q 2)), (1, .long h0), (3, .long (dgC F h0 0)), (5, .int (nI 0))] from lv_sub hl [2, 3, 1, 0] rfl) ?_ ?_
  · intro ls hl
    have hl : lv_has ls 7 [(0, .ref (q 2)), (1, .long h0), (3, .long (dgC F h0 c)), (5, .int (nI c))] := hl
    refine lv_iload hx hb dX0_digestOnto_5 (lv_at hl 3 rfl) ?_
    refine lv_aload_n hx hb dX0_digestOnto_7 rfl (lv_at hl 0 rfl) ?_
    refine va_get (D := D) (ci := 0) (v := .int (nI c)) (C := RX0) (T := TX0) (N := 8) hx hb hts (fun _ h => List.mem_cons_of_mem _ (List.mem_append_right _ h)) hown hK hP 0 rfl rfl 7 (by decide) (hts (.fieldLink RX0 33 "UnderPromise$Claims" "size" "I") (List.mem_of_getElem? (i := 1) rfl)) (fun _ h9 => h9) rfl dX0_digestOnto_8 ?_
    refine lv_icmp_ge (tgt := 52) hx hb dX0_digestOnto_11 (by decide) (fun c_1 => ?_) (fun c_1 => ?_)
    · have c_2 := i_le c_1
      refine lv_lload_n hx hb dX0_digestOnto_52 rfl (lv_at hl 2 rfl) ?_
      exact W.lret (v := (dgC F h0 c)) hx hb hr (fun t9 ht9 hW9 => ⟨(dgC F h0 c), rfl, rfl, ht9⟩) (fun _ h => by cases h) dX0_digestOnto_53
    · exact absurd (nI_le (Nat.le_refl _) (by omega)) c_1
  · intro k hk0 hk ih ls hl
    have hl : lv_has ls 7 [(0, .ref (q 2)), (1, .long h0), (3, .long (dgC F h0 k)), (5, .int (nI k))] := hl
    refine lv_iload hx hb dX0_digestOnto_5 (lv_at hl 3 rfl) ?_
    refine lv_aload_n hx hb dX0_digestOnto_7 rfl (lv_at hl 0 rfl) ?_
    refine va_get (D := D) (ci := 0) (v := .int (nI c)) (C := RX0) (T := TX0) (N := 8) hx hb hts (fun _ h => List.mem_cons_of_mem _ (List.mem_append_right _ h)) hown hK hP 0 rfl rfl 7 (by decide) (hts (.fieldLink RX0 33 "UnderPromise$Claims" "size" "I") (List.mem_of_getElem? (i := 1) rfl)) (fun _ h9 => h9) rfl dX0_digestOnto_8 ?_
    refine lv_icmp_ge (tgt := 52) hx hb dX0_digestOnto_11 (by decide) (fun c_3 => ?_) (fun c_3 => ?_)
    · exact absurd c_3 (nI_ge hk (by omega))
    · have c_4 := i_nle c_3
      refine lv_iconst (v := 0) hx hb dX0_digestOnto_14 (by decide) ?_
      refine lv_istore (lv' := [(6, .int 0), (0, .ref (q 2)), (1, .long h0), (3, .long (dgC F h0 k)), (5, .int (nI k))]) hx hb dX0_digestOnto_15 hl (by decide) rfl (fun ls hl => ?_)
      refine lpW (fun j ls => lv_has ls 7 [(0, .ref (q 2)), (1, .long h0), (5, .int (nI k)), (3, .long (fdL (fun j => (sTell F k (nI j)).toInt64) (dgC F h0 k) j)), (6, .int (nI j))]) 7 0 (Nat.zero_le _) ls (show lv_has ls 7 [(0, .ref (q 2)), (1, .long h0), (5, .int (nI k)), (3, .long (fdL (fun j => (sTell F k (nI j)).toInt64) (dgC F h0 k) 0)), (6, .int (nI 0))] from lv_sub hl [1, 2, 4, 3, 0] rfl) ?_ ?_
      · intro ls hl
        have hl : lv_has ls 7 [(0, .ref (q 2)), (1, .long h0), (5, .int (nI k)), (3, .long (fdL (fun j => (sTell F k (nI j)).toInt64) (dgC F h0 k) 7)), (6, .int (nI 7))] := hl
        refine lv_iload hx hb dX0_digestOnto_17 (lv_at hl 4 rfl) ?_
        refine lv_bipush (v := 6) hx hb dX0_digestOnto_19 (by decide) ?_
        refine lv_icmp_gt (tgt := 46) hx hb dX0_digestOnto_21 (by decide) (fun c_5 => ?_) (fun c_5 => ?_)
        · have c_6 := i_lt c_5
          refine lv_iinc (v := ((nI k) + 1)) (lv' := [(5, .int ((nI k) + 1)), (0, .ref (q 2)), (1, .long h0), (3, .long (fdL (fun j => (sTell F k (nI j)).toInt64) (dgC F h0 k) 7)), (6, .int (nI 7))]) hx hb dX0_digestOnto_46 hl (k := 2) rfl rfl (by decide) rfl (fun ls hl => ?_)
          refine lv_goto (tgt := 5) hx hb dX0_digestOnto_49 (by decide) ?_
          have h_7 : (fdL (fun j => (sTell F k (nI j)).toInt64) (dgC F h0 k) 7) = (dgC F h0 (k + 1)) := rfl
          have h_8 : ((nI k) + 1) = (nI (k + 1)) := (nI_1 _)
          exact ih _ (lv_cast (lv_sub (l' := [(0, .ref (q 2)), (1, .long h0), (3, .long (fdL (fun j => (sTell F k (nI j)).toInt64) (dgC F h0 k) 7)), (5, .int ((nI k) + 1))]) hl [1, 2, 3, 0] rfl) (cg2 (fun z7 z8 => [(0, .ref (q 2)), (1, .long h0), (3, .long z7), (5, .int z8)]) h_7 h_8))
        · exact absurd (nI_lt (a := 6) (b := 7) (by decide) (by decide)) c_5
      · intro j hj0 hj ih2 ls hl
        have hl : lv_has ls 7 [(0, .ref (q 2)), (1, .long h0), (5, .int (nI k)), (3, .long (fdL (fun j => (sTell F k (nI j)).toInt64) (dgC F h0 k) j)), (6, .int (nI j))] := hl
        refine lv_iload hx hb dX0_digestOnto_17 (lv_at hl 4 rfl) ?_
        refine lv_bipush (v := 6) hx hb dX0_digestOnto_19 (by decide) ?_
        refine lv_icmp_gt (tgt := 46) hx hb dX0_digestOnto_21 (by decide) (fun c_9 => ?_) (fun c_9 => ?_)
        · exact absurd c_9 (nI_nlt (a := 6) (by omega) (by decide))
        · have c_10 := i_nlt c_9
          refine lv_ldc2 (v := 31) hx hb hown (hts (.constantLong RX0 49 (31)) (List.mem_of_getElem? (i := 2) rfl)) dX0_digestOnto_24 ?_
          refine lv_lload_n hx hb dX0_digestOnto_27 rfl (lv_at hl 3 rfl) ?_
          refine lv_lmul hx hb dX0_digestOnto_28 ?_
          refine lv_aload_n hx hb dX0_digestOnto_29 rfl (lv_at hl 0 rfl) ?_
          refine lv_iload hx hb dX0_digestOnto_30 (lv_at hl 2 rfl) ?_
          refine lv_iload hx hb dX0_digestOnto_32 (lv_at hl 4 rfl) ?_
          refine roVi (As := [.int (nI k), .int (nI j)]) (rest := [.long (31 * (fdL (fun j => (sTell F k (nI j)).toInt64) (dgC F h0 k) j))]) (v := (sTell F k (nI j))) ⟨hx, hb, hml, hown, hts⟩ (c_X0_tell l D cs q F n c k (nI j) hI (by omega)) (cwV 2 hts gX0_digestOnto_X0_tell rfl rfl rfl (by decide +kernel) ⟨Nat.le_of_ble_eq_true rfl, Nat.le_of_ble_eq_true rfl⟩) hP hK hN 0 rfl rfl rfl hl.1 rfl (Nat.le_of_ble_eq_true rfl) dX0_digestOnto_34 ⟨Nat.zero_le _, Nat.zero_le _⟩ ?_
          refine lv_i2l (v := (Int32.toInt64 (sTell F k (nI j)))) hx hb dX0_digestOnto_37 rfl ?_
          refine lv_ladd hx hb dX0_digestOnto_38 ?_
          refine lv_lstore_n (lv' := [(3, .long ((31 * (fdL (fun j => (sTell F k (nI j)).toInt64) (dgC F h0 k) j)) + (Int32.toInt64 (sTell F k (nI j))))), (0, .ref (q 2)), (1, .long h0), (5, .int (nI k)), (6, .int (nI j))]) hx hb dX0_digestOnto_39 rfl hl (by decide) rfl (fun ls hl => ?_)
          refine lv_iinc (v := ((nI j) + 1)) (lv' := [(6, .int ((nI j) + 1)), (3, .long ((31 * (fdL (fun j => (sTell F k (nI j)).toInt64) (dgC F h0 k) j)) + (Int32.toInt64 (sTell F k (nI j))))), (0, .ref (q 2)), (1, .long h0), (5, .int (nI k))]) hx hb dX0_digestOnto_40 hl (k := 4) rfl rfl (by decide) rfl (fun ls hl => ?_)
          refine lv_goto (tgt := 17) hx hb dX0_digestOnto_43 (by decide) ?_
          have h_11 : ((31 * (fdL (fun j => (sTell F k (nI j)).toInt64) (dgC F h0 k) j)) + (Int32.toInt64 (sTell F k (nI j)))) = (fdL (fun j => (sTell F k (nI j)).toInt64) (dgC F h0 k) (j + 1)) := rfl
          have h_12 : ((nI j) + 1) = (nI (j + 1)) := (nI_1 _)
          exact ih2 _ (lv_cast (lv_sub (l' := [(0, .ref (q 2)), (1, .long h0), (5, .int (nI k)), (3, .long ((31 * (fdL (fun j => (sTell F k (nI j)).toInt64) (dgC F h0 k) j)) + (Int32.toInt64 (sTell F k (nI j))))), (6, .int ((nI j) + 1))]) hl [2, 3, 4, 1, 0] rfl) (cg2 (fun z11 z12 => [(0, .ref (q 2)), (1, .long h0), (5, .int (nI k)), (3, .long z11), (6, .int z12)]) h_11 h_12))
