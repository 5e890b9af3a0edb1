set_option maxHeartbeats 4000000 in
set_option maxRecDepth 100000 in
/-- X4_isWithin -/
theorem c_X4_isWithin (l : Launch)  (x : Int32) (a : Int32) (b : Int32)  : Met l yX4_isWithin wsX4_isWithin ({ frames := 0, cells := 0, slots := 0, locals := 0 }) (va_Pc [.int x, .int a, .int b] (fun _ => True)) (vp_Si (fun r => r = (bI (rg x a b)))) 0 0 (fun _ => False) := by
  refine Met.ofW (cc := cX4_isWithin) (maxL := 3) (ret := (some .boolean)) (by decide) rfl ?_
  intro p e s m args below meth c_ s₁ B hml hv
  obtain ⟨rfl, -⟩ := hv
  have hx := B.exec
  have hb := B.bytes
  have hr := B.returns
  have hts := atoms_spec (ws := wsX4_isWithin) B.pre
  have hown : s.vm.findClass RX4 = some m.cls := findClass_of_methodNamed B.named
  have hlocks := B.notSynchronized
  have hl := lv_entry ([.int x, .int a, .int b]) (n := 3) (Nat.le_of_ble_eq_true rfl)
  rw [lg_entry_eq]
  generalize (lg_sl ([.int x, .int a, .int b]) ++ List.replicate (3 - (lg_sl ([.int x, .int a, .int b])).length) Slot.unset).toArray = ls at hl ⊢
  have hl : lv_has ls 3 [(0, .int x), (1, .int a), (2, .int b)] := hl
  refine lv_iload_n hx hb dX4_isWithin_0 rfl (lv_at hl 0 rfl) ?_
  refine lv_iload_n hx hb dX4_isWithin_1 rfl (lv_at hl 1 rfl) ?_
  refine lv_icmp_lt (tgt := 14) hx hb dX4_isWithin_2 (by decide) (fun c_1 => ?_) (fun c_1 => ?_)
  · have c_2 := i_lt c_1
    refine lv_iconst (v := 0) hx hb dX4_isWithin_14 (by decide) ?_
    exact W.zret (v := 0) hx hb hr rfl (fun t9 ht9 hW9 => ⟨0, rfl, (by first | with_reducible rfl | simp [rg, bI, c_1, c_2]), ht9⟩) (fun _ h => by cases h) dX4_isWithin_15
  · have c_3 := i_nlt c_1
    refine lv_iload_n hx hb dX4_isWithin_5 rfl (lv_at hl 0 rfl) ?_
    refine lv_iload_n hx hb dX4_isWithin_6 rfl (lv_at hl 2 rfl) ?_
    refine lv_icmp_gt (tgt := 14) hx hb dX4_isWithin_7 (by decide) (fun c_4 => ?_) (fun c_4 => ?_)
    · have c_5 := i_lt c_4
      refine lv_iconst (v := 0) hx hb dX4_isWithin_14 (by decide) ?_
      exact W.zret (v := 0) hx hb hr rfl (fun t9 ht9 hW9 => ⟨0, rfl, (by first | with_reducible rfl | simp [rg, bI, c_1, c_3, c_4, c_5]), ht9⟩) (fun _ h => by cases h) dX4_isWithin_15
    · have c_6 := i_nlt c_4
      refine lv_iconst (v := 1) hx hb dX4_isWithin_10 (by decide) ?_
      refine lv_goto (tgt := 15) hx hb dX4_isWithin_11 (by decide) ?_
      exact W.zret (v := 1) hx hb hr rfl (fun t9 ht9 hW9 => ⟨1, rfl, (by first | with_reducible rfl | simp [rg, bI, c_1, c_3, c_4, c_6]), ht9⟩) (fun _ h => by cases h) dX4_isWithin_15
set_option maxHeartbeats 4000000 in
set_option maxRecDepth 100000 in
/-- X4_isBatch -/
theorem c_X4_isBatch (l : Launch)  (x : Int32)  : Met l yX4_isBatch wsX4_isBatch ({ frames := 1, cells := 0, slots := 0, locals := 22 }) (va_Pc [.int x] (fun _ => True)) (vp_Si (fun r => r = (bI (rg x 0 7)))) 0 0 (fun _ => False) := by
  refine Met.ofW (cc := cX4_isBatch) (maxL := 1) (ret := (some .boolean)) (by decide) rfl ?_
  intro p e s m args below meth c_ s₁ B hml hv
  obtain ⟨rfl, -⟩ := hv
  have hx := B.exec
  have hb := B.bytes
  have hr := B.returns
  have hts := atoms_spec (ws := wsX4_isBatch) B.pre
  have hown : s.vm.findClass RX4 = some m.cls := findClass_of_methodNamed B.named
  have hlocks := B.notSynchronized
  have hl := lv_entry ([.int x]) (n := 1) (Nat.le_of_ble_eq_true rfl)
  rw [lg_entry_eq]
  generalize (lg_sl ([.int x]) ++ List.replicate (1 - (lg_sl ([.int x])).length) Slot.unset).toArray = ls at hl ⊢
  have hl : lv_has ls 1 [(0, .int x)] := hl
  refine lv_iload_n hx hb dX4_isBatch_0 rfl (lv_at hl 0 rfl) ?_
  refine lv_iconst (v := 0) hx hb dX4_isBatch_1 (by decide) ?_
  refine lv_bipush (v := 7) hx hb dX4_isBatch_2 (by decide) ?_
  refine roSi (As := [.int x, .int 0, .int 7]) (rest := []) (v := (bI (rg x 0 7))) ⟨hx, hb, hml, hown, hts⟩ (c_X4_isWithin l x 0 7) (va_cwS 3 hts gX4_isBatch_X4_isWithin rfl rfl rfl (by decide +kernel) ⟨Nat.le_of_ble_eq_true rfl, Nat.le_of_ble_eq_true rfl⟩) rfl hl.1 rfl (Nat.le_of_ble_eq_true rfl) dX4_isBatch_4 ⟨Nat.zero_le _, Nat.zero_le _⟩ ?_
  exact W.zret (v := (bI (rg x 0 7))) hx hb hr (bI_n (rg x 0 7)) (fun t9 ht9 hW9 => ⟨(bI (rg x 0 7)), rfl, rfl, ht9⟩) (fun _ h => by cases h) dX4_isBatch_7
set_option maxHeartbeats 4000000 in
set_option maxRecDepth 100000 in
/-- X4_isLand -/
theorem c_X4_isLand (l : Launch)  (x : Int32)  : Met l yX4_isLand wsX4_isLand ({ frames := 1, cells := 0, slots := 0, locals := 22 }) (va_Pc [.int x] (fun _ => True)) (vp_Si (fun r => r = (bI (rg x 0 3)))) 0 0 (fun _ => False) := by
  refine Met.ofW (cc := cX4_isLand) (maxL := 1) (ret := (some .boolean)) (by decide) rfl ?_
  intro p e s m args below meth c_ s₁ B hml hv
  obtain ⟨rfl, -⟩ := hv
  have hx := B.exec
  have hb := B.bytes
  have hr := B.returns
  have hts := atoms_spec (ws := wsX4_isLand) B.pre
  have hown : s.vm.findClass RX4 = some m.cls := findClass_of_methodNamed B.named
  have hlocks := B.notSynchronized
  have hl := lv_entry ([.int x]) (n := 1) (Nat.le_of_ble_eq_true rfl)
  rw [lg_entry_eq]
  generalize (lg_sl ([.int x]) ++ List.replicate (1 - (lg_sl ([.int x])).length) Slot.unset).toArray = ls at hl ⊢
  have hl : lv_has ls 1 [(0, .int x)] := hl
  refine lv_iload_n hx hb dX4_isLand_0 rfl (lv_at hl 0 rfl) ?_
  refine lv_iconst (v := 0) hx hb dX4_isLand_1 (by decide) ?_
  refine lv_iconst (v := 3) hx hb dX4_isLand_2 (by decide) ?_
  refine roSi (As := [.int x, .int 0, .int 3]) (rest := []) (v := (bI (rg x 0 3))) ⟨hx, hb, hml, hown, hts⟩ (c_X4_isWithin l x 0 3) (va_cwS 3 hts gX4_isLand_X4_isWithin rfl rfl rfl (by decide +kernel) ⟨Nat.le_of_ble_eq_true rfl, Nat.le_of_ble_eq_true rfl⟩) rfl hl.1 rfl (Nat.le_of_ble_eq_true rfl) dX4_isLand_3 ⟨Nat.zero_le _, Nat.zero_le _⟩ ?_
  exact W.zret (v := (bI (rg x 0 3))) hx hb hr (bI_n (rg x 0 3)) (fun t9 ht9 hW9 => ⟨(bI (rg x 0 3)), rfl, rfl, ht9⟩) (fun _ h => by cases h) dX4_isLand_6
set_option maxHeartbeats 4000000 in
set_option maxRecDepth 100000 in
/-- X4_isPart -/
theorem c_X4_isPart (l : Launch)  (x : Int32)  : Met l yX4_isPart wsX4_isPart ({ frames := 1, cells := 0, slots := 0, locals := 22 }) (va_Pc [.int x] (fun _ => True)) (vp_Si (fun r => r = (bI (rg x 0 9)))) 0 0 (fun _ => False) := by
  refine Met.ofW (cc := cX4_isPart) (maxL := 1) (ret := (some .boolean)) (by decide) rfl ?_
  intro p e s m args below meth c_ s₁ B hml hv
  obtain ⟨rfl, -⟩ := hv
  have hx := B.exec
  have hb := B.bytes
  have hr := B.returns
  have hts := atoms_spec (ws := wsX4_isPart) B.pre
  have hown : s.vm.findClass RX4 = some m.cls := findClass_of_methodNamed B.named
  have hlocks := B.notSynchronized
  have hl := lv_entry ([.int x]) (n := 1) (Nat.le_of_ble_eq_true rfl)
  rw [lg_entry_eq]
  generalize (lg_sl ([.int x]) ++ List.replicate (1 - (lg_sl ([.int x])).length) Slot.unset).toArray = ls at hl ⊢
  have hl : lv_has ls 1 [(0, .int x)] := hl
  refine lv_iload_n hx hb dX4_isPart_0 rfl (lv_at hl 0 rfl) ?_
  refine lv_iconst (v := 0) hx hb dX4_isPart_1 (by decide) ?_
  refine lv_bipush (v := 9) hx hb dX4_isPart_2 (by decide) ?_
  refine roSi (As := [.int x, .int 0, .int 9]) (rest := []) (v := (bI (rg x 0 9))) ⟨hx, hb, hml, hown, hts⟩ (c_X4_isWithin l x 0 9) (va_cwS 3 hts gX4_isPart_X4_isWithin rfl rfl rfl (by decide +kernel) ⟨Nat.le_of_ble_eq_true rfl, Nat.le_of_ble_eq_true rfl⟩) rfl hl.1 rfl (Nat.le_of_ble_eq_true rfl) dX4_isPart_4 ⟨Nat.zero_le _, Nat.zero_le _⟩ ?_
  exact W.zret (v := (bI (rg x 0 9))) hx hb hr (bI_n (rg x 0 9)) (fun t9 ht9 hW9 => ⟨(bI (rg x 0 9)), rfl, rfl, ht9⟩) (fun _ h => by cases h) dX4_isPart_7
set_option maxHeartbeats 4000000 in
set_option maxRecDepth 100000 in
/-- X4_isMaker -/
theorem c_X4_isMaker (l : Launch)  (x : Int32)  : Met l yX4_isMaker wsX4_isMaker ({ frames := 1, cells := 0, slots := 0, locals := 22 }) (va_Pc [.int x] (fun _ => True)) (vp_Si (fun r => r = (bI (rg x 0 5)))) 0 0 (fun _ => False) := by
  refine Met.ofW (cc := cX4_isMaker) (maxL := 1) (ret := (some .boolean)) (by decide) rfl ?_
  intro p e s m args below meth c_ s₁ B hml hv
  obtain ⟨rfl, -⟩ := hv
  have hx := B.exec
  have hb := B.bytes
  have hr := B.returns
  have hts := atoms_spec (ws := wsX4_isMaker) B.pre
  have hown : s.vm.findClass RX4 = some m.cls := findClass_of_methodNamed B.named
  have hlocks := B.notSynchronized
  have hl := lv_entry ([.int x]) (n := 1) (Nat.le_of_ble_eq_true rfl)
  rw [lg_entry_eq]
  generalize (lg_sl ([.int x]) ++ List.replicate (1 - (lg_sl ([.int x])).length) Slot.unset).toArray = ls at hl ⊢
  have hl : lv_has ls 1 [(0, .int x)] := hl
  refine lv_iload_n hx hb dX4_isMaker_0 rfl (lv_at hl 0 rfl) ?_
  refine lv_iconst (v := 0) hx hb dX4_isMaker_1 (by decide) ?_
  refine lv_iconst (v := 5) hx hb dX4_isMaker_2 (by decide) ?_
  refine roSi (As := [.int x, .int 0, .int 5]) (rest := []) (v := (bI (rg x 0 5))) ⟨hx, hb, hml, hown, hts⟩ (c_X4_isWithin l x 0 5) (va_cwS 3 hts gX4_isMaker_X4_isWithin rfl rfl rfl (by decide +kernel) ⟨Nat.le_of_ble_eq_true rfl, Nat.le_of_ble_eq_true rfl⟩) rfl hl.1 rfl (Nat.le_of_ble_eq_true rfl) dX4_isMaker_3 ⟨Nat.zero_le _, Nat.zero_le _⟩ ?_
  exact W.zret (v := (bI (rg x 0 5))) hx hb hr (bI_n (rg x 0 5)) (fun t9 ht9 hW9 => ⟨(bI (rg x 0 5)), rfl, rfl, ht9⟩) (fun _ h => by cases h) dX4_isMaker_6
set_option maxHeartbeats 4000000 in
set_option maxRecDepth 100000 in
/-- X4_isSaleMonth -/
theorem c_X4_isSaleMonth (l : Launch)  (x : Int32)  : Met l yX4_isSaleMonth wsX4_isSaleMonth ({ frames := 1, cells := 0, slots := 0, locals := 22 }) (va_Pc [.int x] (fun _ => True)) (vp_Si (fun r => r = (bI (rg x 0 119)))) 0 0 (fun _ => False) := by
  refine Met.ofW (cc := cX4_isSaleMonth) (maxL := 1) (ret := (some .boolean)) (by decide) rfl ?_
  intro p e s m args below meth c_ s₁ B hml hv
  obtain ⟨rfl, -⟩ := hv
  have hx := B.exec
  have hb := B.bytes
  have hr := B.returns
  have hts := atoms_spec (ws := wsX4_isSaleMonth) B.pre
  have hown : s.vm.findClass RX4 = some m.cls := findClass_of_methodNamed B.named
  have hlocks := B.notSynchronized
  have hl := lv_entry ([.int x]) (n := 1) (Nat.le_of_ble_eq_true rfl)
  rw [lg_entry_eq]
  generalize (lg_sl ([.int x]) ++ List.replicate (1 - (lg_sl ([.int x])).length) Slot.unset).toArray = ls at hl ⊢
  have hl : lv_has ls 1 [(0, .int x)] := hl
  refine lv_iload_n hx hb dX4_isSaleMonth_0 rfl (lv_at hl 0 rfl) ?_
  refine lv_iconst (v := 0) hx hb dX4_isSaleMonth_1 (by decide) ?_
  refine lv_bipush (v := 119) hx hb dX4_isSaleMonth_2 (by decide) ?_
  refine roSi (As := [.int x, .int 0, .int 119]) (rest := []) (v := (bI (rg x 0 119))) ⟨hx, hb, hml, hown, hts⟩ (c_X4_isWithin l x 0 119) (va_cwS 3 hts gX4_isSaleMonth_X4_isWithin rfl rfl rfl (by decide +kernel) ⟨Nat.le_of_ble_eq_true rfl, Nat.le_of_ble_eq_true rfl⟩) rfl hl.1 rfl (Nat.le_of_ble_eq_true rfl) dX4_isSaleMonth_4 ⟨Nat.zero_le _, Nat.zero_le _⟩ ?_
  exact W.zret (v := (bI (rg x 0 119))) hx hb hr (bI_n (rg x 0 119)) (fun t9 ht9 hW9 => ⟨(bI (rg x 0 119)), rfl, rfl, ht9⟩) (fun _ h => by cases h) dX4_isSaleMonth_7
set_option maxHeartbeats 4000000 in
set_option maxRecDepth 100000 in
/-- X4_isMonth -/
theorem c_X4_isMonth (l : Launch)  (x : Int32)  : Met l yX4_isMonth wsX4_isMonth ({ frames := 1, cells := 0, slots := 0, locals := 22 }) (va_Pc [.int x] (fun _ => True)) (vp_Si (fun r => r = (bI (rg x 0 300)))) 0 0 (fun _ => False) := by
  refine Met.ofW (cc := cX4_isMonth) (maxL := 1) (ret := (some .boolean)) (by decide) rfl ?_
  intro p e s m args below meth c_ s₁ B hml hv
  obtain ⟨rfl, -⟩ := hv
  have hx := B.exec
  have hb := B.bytes
  have hr := B.returns
  have hts := atoms_spec (ws := wsX4_isMonth) B.pre
  have hown : s.vm.findClass RX4 = some m.cls := findClass_of_methodNamed B.named
  have hlocks := B.notSynchronized
  have hl := lv_entry ([.int x]) (n := 1) (Nat.le_of_ble_eq_true rfl)
  rw [lg_entry_eq]
  generalize (lg_sl ([.int x]) ++ List.replicate (1 - (lg_sl ([.int x])).length) Slot.unset).toArray = ls at hl ⊢
  have hl : lv_has ls 1 [(0, .int x)] := hl
  refine lv_iload_n hx hb dX4_isMonth_0 rfl (lv_at hl 0 rfl) ?_
  refine lv_iconst (v := 0) hx hb dX4_isMonth_1 (by decide) ?_
  refine lv_sipush (v := 300) hx hb dX4_isMonth_2 (by decide) ?_
  refine roSi (As := [.int x, .int 0, .int 300]) (rest := []) (v := (bI (rg x 0 300))) ⟨hx, hb, hml, hown, hts⟩ (c_X4_isWithin l x 0 300) (va_cwS 3 hts gX4_isMonth_X4_isWithin rfl rfl rfl (by decide +kernel) ⟨Nat.le_of_ble_eq_true rfl, Nat.le_of_ble_eq_true rfl⟩) rfl hl.1 rfl (Nat.le_of_ble_eq_true rfl) dX4_isMonth_5 ⟨Nat.zero_le _, Nat.zero_le _⟩ ?_
  exact W.zret (v := (bI (rg x 0 300))) hx hb hr (bI_n (rg x 0 300)) (fun t9 ht9 hW9 => ⟨(bI (rg x 0 300)), rfl, rfl, ht9⟩) (fun _ h => by cases h) dX4_isMonth_8
set_option maxHeartbeats 4000000 in
set_option maxRecDepth 100000 in
/-- X4_isAboveOrBelow -/
theorem c_X4_isAboveOrBelow (l : Launch)  (x : Int32)  : Met l yX4_isAboveOrBelow wsX4_isAboveOrBelow ({ frames := 0, cells := 0, slots := 0, locals := 0 }) (va_Pc [.int x] (fun _ => True)) (vp_Si (fun r => r = (bI (rg x 0 1)))) 0 0 (fun _ => False) := by
  refine Met.ofW (cc := cX4_isAboveOrBelow) (maxL := 1) (ret := (some .boolean)) (by decide) rfl ?_
  intro p e s m args below meth c_ s₁ B hml hv
  obtain ⟨rfl, -⟩ := hv
  have hx := B.exec
  have hb := B.bytes
  have hr := B.returns
  have hts := atoms_spec (ws := wsX4_isAboveOrBelow) B.pre
  have hown : s.vm.findClass RX4 = some m.cls := findClass_of_methodNamed B.named
  have hlocks := B.notSynchronized
  have hl := lv_entry ([.int x]) (n := 1) (Nat.le_of_ble_eq_true rfl)
  rw [lg_entry_eq]
  generalize (lg_sl ([.int x]) ++ List.replicate (1 - (lg_sl ([.int x])).length) Slot.unset).toArray = ls at hl ⊢
  have hl : lv_has ls 1 [(0, .int x)] := hl
  refine lv_iload_n hx hb dX4_isAboveOrBelow_0 rfl (lv_at hl 0 rfl) ?_
  refine lv_if_eq (tgt := 9) hx hb dX4_isAboveOrBelow_1 (by decide) (fun c_1 => ?_) (fun c_1 => ?_)
  · refine lv_iconst (v := 1) hx hb dX4_isAboveOrBelow_9 (by decide) ?_
    refine lv_goto (tgt := 14) hx hb dX4_isAboveOrBelow_10 (by decide) ?_
    exact W.zret (v := 1) hx hb hr rfl (fun t9 ht9 hW9 => ⟨1, rfl, (by rw [← ab_rg]; simp [bI, c_1]), ht9⟩) (fun _ h => by cases h) dX4_isAboveOrBelow_14
  · refine lv_iload_n hx hb dX4_isAboveOrBelow_4 rfl (lv_at hl 0 rfl) ?_
    refine lv_iconst (v := 1) hx hb dX4_isAboveOrBelow_5 (by decide) ?_
    refine lv_icmp_ne (tgt := 13) hx hb dX4_isAboveOrBelow_6 (by decide) (fun c_2 => ?_) (fun c_2 => ?_)
    · refine lv_iconst (v := 0) hx hb dX4_isAboveOrBelow_13 (by decide) ?_
      exact W.zret (v := 0) hx hb hr rfl (fun t9 ht9 hW9 => ⟨0, rfl, (by rw [← ab_rg]; simp [bI, c_1, c_2]), ht9⟩) (fun _ h => by cases h) dX4_isAboveOrBelow_14
    · refine lv_iconst (v := 1) hx hb dX4_isAboveOrBelow_9 (by decide) ?_
      refine lv_goto (tgt := 14) hx hb dX4_isAboveOrBelow_10 (by decide) ?_
      exact W.zret (v := 1) hx hb hr rfl (fun t9 ht9 hW9 => ⟨1, rfl, (by rw [← ab_rg]; simp [bI, c_1, c_2]), ht9⟩) (fun _ h => by cases h) dX4_isAboveOrBelow_14
set_option maxHeartbeats 4000000 in
set_option maxRecDepth 100000 in
/-- X4_hasBit -/
theorem c_X4_hasBit (l : Launch)  (b : Int64) (x : Int32)  : Met l yX4_hasBit wsX4_hasBit ({ frames := 0, cells := 0, slots := 0, locals := 0 }) (va_Pc [.long b, .int x] (fun _ => True)) (vp_Si (fun r => r = (bI (sHas b x)))) 0 0 (fun _ => False) := by
  refine Met.ofW (cc := cX4_hasBit) (maxL := 3) (ret := (some .boolean)) (by decide) rfl ?_
  intro p e s m args below meth c_ s₁ B hml hv
  obtain ⟨rfl, -⟩ := hv
  have hx := B.exec
  have hb := B.bytes
  have hr := B.returns
  have hts := atoms_spec (ws := wsX4_hasBit) B.pre
  have hown : s.vm.findClass RX4 = some m.cls := findClass_of_methodNamed B.named
  have hlocks := B.notSynchronized
  have hl := lv_entry ([.long b, .int x]) (n := 3) (Nat.le_of_ble_eq_true rfl)
  rw [lg_entry_eq]
  generalize (lg_sl ([.long b, .int x]) ++ List.replicate (3 - (lg_sl ([.long b, .int x])).length) Slot.unset).toArray = ls at hl ⊢
  have hl : lv_has ls 3 [(0, .long b), (2, .int x)] := hl
  refine lv_lload_n hx hb dX4_hasBit_0 rfl (lv_at hl 0 rfl) ?_
  refine lv_iload_n hx hb dX4_hasBit_1 rfl (lv_at hl 1 rfl) ?_
  refine lv_lushr (v := ((b : Int64).toUInt64 >>> ((Int32.toInt64 x).toUInt64 &&& Int64.toUInt64 63)).toInt64) hx hb dX4_hasBit_2 rfl ?_
  refine lv_lconst (v := 1) hx hb dX4_hasBit_3 (by decide) ?_
  refine lv_land hx hb dX4_hasBit_4 ?_
  refine lv_lconst (v := 0) hx hb dX4_hasBit_5 (by decide) ?_
  refine W.lcmp hx hb dX4_hasBit_6 ?_
  refine lv_if_eq (tgt := 14) hx hb dX4_hasBit_7 (by decide) (fun c_1 => ?_) (fun c_1 => ?_)
  · have c_2 := (lg_cmp_eq _ _).mp c_1
    refine lv_iconst (v := 0) hx hb dX4_hasBit_14 (by decide) ?_
    exact W.zret (v := 0) hx hb hr rfl (fun t9 ht9 hW9 => ⟨0, rfl, (by first | with_reducible rfl | simp [rg, bI, sHas, c_2]), ht9⟩) (fun _ h => by cases h) dX4_hasBit_15
  · have c_3 := (not_congr (lg_cmp_eq _ _)).mp c_1
    refine lv_iconst (v := 1) hx hb dX4_hasBit_10 (by decide) ?_
    refine lv_goto (tgt := 15) hx hb dX4_hasBit_11 (by decide) ?_
    exact W.zret (v := 1) hx hb hr rfl (fun t9 ht9 hW9 => ⟨1, rfl, (by first | with_reducible rfl | simp [rg, bI, sHas, c_3]), ht9⟩) (fun _ h => by cases h) dX4_hasBit_15
