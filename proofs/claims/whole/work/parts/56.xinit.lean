set_option maxHeartbeats 4000000 in
set_option maxRecDepth 100000 in
/-- X4_init -/
theorem c_X4_init (l : Launch) (D : va_G) (cs : Nat → ClassId) (h0 sz : Nat) : Met l yX4_init wsX4_init ({ frames := 2, cells := 82, slots := 4779, locals := 34 }) (va_Pc [.ref h0] (mpreA D cs [(h0, .inr (4, [.null, .null, .null, .null, .int 0]))] sz)) (va_Qv (fun (_ : Nat → Nat) => True) (fun u t => u 0 = h0 ∧ va_P D vwCl (xW u cs FZ 0 0 1) t.heap ∧ va_D (va_A [(h0, .inr (4, [.null, .null, .null, .null, .int 0]))] sz) (xW u cs FZ 0 0 1)) (va_A [(h0, .inr (4, [.null, .null, .null, .null, .int 0]))] sz)) 82 4779 (va_A [(h0, .inr (4, [.null, .null, .null, .null, .int 0]))] sz) := by
  refine Met.ofW (cc := cX4_init) (maxL := 1) (ret := none) (by decide) rfl ?_
  intro p e s m args below meth c_ s₁ B hml hv
  obtain ⟨rfl, hsz, hP, hK, hN, hD0, hO⟩ := hv
  have hx := B.exec
  have hb := B.bytes
  have hr := B.returns
  have hts := atoms_spec (ws := wsX4_init) B.pre
  have hown : s.vm.findClass RX4 = some m.cls := findClass_of_methodNamed B.named
  have hlocks := B.notSynchronized
  have hin : meth.name = "<init>" := (name_of_methodNamed B.named B.method).1
  subst hsz
  have hD := hD0.self (sz := s.heap.size)
  generalize hAe : va_A [(h0, .inr (4, [.null, .null, .null, .null, .int 0]))] s.heap.size = A at hD ⊢
  have hA : ∀ q : Nat, s.heap.size ≤ q → A q := fun q h => by rw [← hAe]; exact Or.inr h
  have hS : va_S A s.heap s.heap [] := va_S.rf
  have hP : va_P D vwCl [(h0, .inr (4, [.null, .null, .null, .null, .int 0]))] s.heap := hP
  have hl := lv_entry ([.ref h0]) (n := 1) (Nat.le_of_ble_eq_true rfl)
  rw [lg_entry_eq]
  generalize (lg_sl ([.ref h0]) ++ List.replicate (1 - (lg_sl ([.ref h0])).length) Slot.unset).toArray = ls at hl ⊢
  have hl : lv_has ls 1 [(0, .ref h0)] := hl
  refine lv_aload_n hx hb dX4_init_0 rfl (lv_at hl 0 rfl) ?_
  refine W.objInit hx hb hown (hts (.methodLink RX4 3 objectInit) (List.mem_of_getElem? (i := 1) rfl)) (hts (.instanceMethod objectInit) (List.mem_of_getElem? (i := 2) rfl)) (hts (.code objectInit ⟨#[0xb1]⟩ 1 none) (List.mem_of_getElem? (i := 3) rfl)) rfl (by rw [hml]; exact hl.1) rfl dX4_init_1 (Nat.le_of_ble_eq_true rfl) (Nat.le_of_ble_eq_true rfl) ?_
  refine W.eq (g2 := F0 m 4 ls []) rfl ?_
  refine lv_aload_n hx hb dX4_init_4 rfl (lv_at hl 0 rfl) ?_
  refine va_new (ci := 2) (fs := [.null, .null, .null, .null, .null, .null, .int 0]) (C := RX2) (T := TX2) (N := 7) hx hb hts (fun _ h => List.mem_cons_of_mem _ (List.mem_append_left _ (List.mem_append_left _ (List.mem_append_left _ (List.mem_append_left _ (List.mem_append_right _ h)))))) tyX2 tyX2_ok hown (hts (.classLink RX4 9 RX2) (List.mem_of_getElem? (i := 4) rfl)) (hts (.instantiable RX2 7) (List.mem_of_getElem? (i := 5) rfl)) (hts (.initialized RX2) (List.mem_of_getElem? (i := 6) rfl)) hK hP hD hS hA rfl (fun j hj => by rcases (show j = 0 ∨ j = 1 ∨ j = 2 ∨ j = 3 ∨ j = 4 ∨ j = 5 ∨ j = 6 by omega) with rfl | rfl | rfl | rfl | rfl | rfl | rfl <;> rfl) (Nat.le_of_ble_eq_true rfl) (Nat.le_of_ble_eq_true rfl) dX4_init_5 (fun b1 H hP hD hS => ?_)
  refine lv_dup hx hb dX4_init_8 rfl ?_
  have hP : va_P D vwCl ([(h0, .inr (4, [.null, .null, .null, .null, .int 0]))] ++ [(b1, .inr (2, [.null, .null, .null, .null, .null, .null, .int 0]))]) H := hP
  have hD : va_D A ([(h0, .inr (4, [.null, .null, .null, .null, .int 0]))] ++ [(b1, .inr (2, [.null, .null, .null, .null, .null, .null, .int 0]))]) := hD
  refine ctJ (b := b1) (ci := 2) (kk := 1) (fs := [.null, .null, .null, .null, .null, .null, .int 0]) (w1 := fun u => tW u cs FZ 0) (wr := [(h0, .inr (4, [.null, .null, .null, .null, .int 0]))]) (va_runI (As := []) (rest := [.ref b1, .ref h0]) ⟨hx, hb, hml, hown, hts⟩ (c_X2_init l D cs b1 H.size) (cwI 0 hts gX4_init_X2_init rfl rfl rfl (hts (.initialized RX2) (List.mem_of_getElem? (i := 6) rfl)) (hts (.methodLink RX4 11 yX2_init) (List.mem_of_getElem? (i := 21) rfl)) (hts (.instanceMethod yX2_init) (List.mem_of_getElem? (i := 22) rfl)) rfl (by decide +kernel) ⟨Nat.le_of_ble_eq_true rfl, Nat.le_of_ble_eq_true rfl⟩) ⟨mpre.blind, fun U hU hW => ⟨rfl, by rw [hU], by rw [hU]; exact va_P_r hP, va_K.moved hW.alike hK, NN.warm hW hN, va_D_1⟩⟩ rfl rfl hl.1 rfl (lv_room (Nat.le_of_ble_eq_true rfl)) dX4_init_9 ⟨Nat.le_of_ble_eq_true rfl, Nat.le_of_ble_eq_true rfl⟩) hP hD hS hA (fun u1 H locs hu hPn hDn hSn => ?_)
  subst hu
  have hP := hPn
  have hD := hDn
  have hS := hSn
  clear hPn hDn hSn
  have hP : va_P D vwCl ([(h0, .inr (4, [.null, .null, .null, .null, .int 0]))] ++ (tW u1 cs FZ 0)) H := hP
  have hD : va_D A ([(h0, .inr (4, [.null, .null, .null, .null, .int 0]))] ++ (tW u1 cs FZ 0)) := hD
  refine va_putF (D := D) (ci := 4) (v := .ref (u1 1)) (ty := .object "UnderPromise$Things") (C := RX4) (T := TX4) (N := 5) hx hb hts (fun _ h => List.mem_cons_of_mem _ (List.mem_append_left _ (List.mem_append_left _ (List.mem_append_left _ (List.mem_append_right _ h))))) tyX4 tyX4_ok nmX4 hown hK hP hD hS 0 rfl rfl 0 (by decide) (hts (.fieldLink RX4 12 "UnderPromise" "things" "LUnderPromise$Things;") (List.mem_of_getElem? (i := 7) rfl)) (fun _ h9 => h9) rfl hin rfl (by decide +kernel) rfl rfl (Nat.le_of_ble_eq_true rfl) dX4_init_12 (fun H locs hP hD hS => ?_)
  have hP : va_P D vwCl ([(h0, .inr (4, [.ref (u1 1), .null, .null, .null, .int 0]))] ++ (tW u1 cs FZ 0)) H := hP
  have hD : va_D A ([(h0, .inr (4, [.ref (u1 1), .null, .null, .null, .int 0]))] ++ (tW u1 cs FZ 0)) := hD
  refine lv_aload_n hx hb dX4_init_15 rfl (lv_at hl 0 rfl) ?_
  refine va_new (ci := 0) (fs := [.null, .null, .null, .null, .null, .null, .null, .int 0]) (C := RX0) (T := TX0) (N := 8) hx hb hts (fun _ h => List.mem_cons_of_mem _ (List.mem_append_left _ (List.mem_append_left _ (List.mem_append_right _ h)))) tyX0 tyX0_ok hown (hts (.classLink RX4 16 RX0) (List.mem_of_getElem? (i := 8) rfl)) (hts (.instantiable RX0 8) (List.mem_of_getElem? (i := 9) rfl)) (hts (.initialized RX0) (List.mem_of_getElem? (i := 10) rfl)) hK hP hD hS hA rfl (fun j hj => by rcases (show j = 0 ∨ j = 1 ∨ j = 2 ∨ j = 3 ∨ j = 4 ∨ j = 5 ∨ j = 6 ∨ j = 7 by omega) with rfl | rfl | rfl | rfl | rfl | rfl | rfl | rfl <;> rfl) (Nat.le_of_ble_eq_true rfl) (Nat.le_of_ble_eq_true rfl) dX4_init_16 (fun b2 H hP hD hS => ?_)
  refine lv_dup hx hb dX4_init_19 rfl ?_
  have hP : va_P D vwCl (([(h0, .inr (4, [.ref (u1 1), .null, .null, .null, .int 0]))] ++ (tW u1 cs FZ 0)) ++ [(b2, .inr (0, [.null, .null, .null, .null, .null, .null, .null, .int 0]))]) H := hP
  have hD : va_D A (([(h0, .inr (4, [.ref (u1 1), .null, .null, .null, .int 0]))] ++ (tW u1 cs FZ 0)) ++ [(b2, .inr (0, [.null, .null, .null, .null, .null, .null, .null, .int 0]))]) := hD
  refine ctJ (b := b2) (ci := 0) (kk := 2) (fs := [.null, .null, .null, .null, .null, .null, .null, .int 0]) (w1 := fun u => cW u cs FZ 0) (wr := ([(h0, .inr (4, [.ref (u1 1), .null, .null, .null, .int 0]))] ++ (tW u1 cs FZ 0))) (va_runIN (As := []) (rest := [.ref b2, .ref h0]) ⟨hx, hb, hml, hown, hts⟩ (c_X0_init l D cs b2 H.size) ⟨va_cnB 0 hts gX4_init_X0_init_n18 rfl rfl rfl hN.2.2.2.1 (hts (.initialized RX0) (List.mem_of_getElem? (i := 10) rfl)) (by decide +kernel) ⟨Nat.le_of_ble_eq_true rfl, Nat.le_of_ble_eq_true rfl⟩, rfl, (hts (.instanceMethod yX0_init) (List.mem_of_getElem? (i := 34) rfl))⟩ ⟨mpre.blind, fun U hU hW => ⟨rfl, by rw [hU], by rw [hU]; exact va_P_r hP, va_K.moved hW.alike hK, NN.warm hW hN, va_D_1⟩⟩ rfl rfl hl.1 rfl (lv_room (Nat.le_of_ble_eq_true rfl)) dX4_init_20 ⟨Nat.le_of_ble_eq_true rfl, Nat.le_of_ble_eq_true rfl⟩) hP hD hS hA (fun u2 H locs hu hPn hDn hSn => ?_)
  subst hu
  have hP := hPn
  have hD := hDn
  have hS := hSn
  clear hPn hDn hSn
  have hP : va_P D vwCl (([(h0, .inr (4, [.ref (u1 1), .null, .null, .null, .int 0]))] ++ (tW u1 cs FZ 0)) ++ (cW u2 cs FZ 0)) H := hP
  have hD : va_D A (([(h0, .inr (4, [.ref (u1 1), .null, .null, .null, .int 0]))] ++ (tW u1 cs FZ 0)) ++ (cW u2 cs FZ 0)) := hD
  refine va_putF (D := D) (ci := 4) (v := .ref (u2 2)) (ty := .object "UnderPromise$Claims") (C := RX4) (T := TX4) (N := 5) hx hb hts (fun _ h => List.mem_cons_of_mem _ (List.mem_append_left _ (List.mem_append_left _ (List.mem_append_left _ (List.mem_append_right _ h))))) tyX4 tyX4_ok nmX4 hown hK hP hD hS 0 rfl rfl 1 (by decide) (hts (.fieldLink RX4 19 "UnderPromise" "claims" "LUnderPromise$Claims;") (List.mem_of_getElem? (i := 11) rfl)) (fun _ h9 => h9) rfl hin rfl (by decide +kernel) rfl rfl (Nat.le_of_ble_eq_true rfl) dX4_init_23 (fun H locs hP hD hS => ?_)
  have hP : va_P D vwCl (([(h0, .inr (4, [.ref (u1 1), .ref (u2 2), .null, .null, .int 0]))] ++ (tW u1 cs FZ 0)) ++ (cW u2 cs FZ 0)) H := hP
  have hD : va_D A (([(h0, .inr (4, [.ref (u1 1), .ref (u2 2), .null, .null, .int 0]))] ++ (tW u1 cs FZ 0)) ++ (cW u2 cs FZ 0)) := hD
  refine lv_aload_n hx hb dX4_init_26 rfl (lv_at hl 0 rfl) ?_
  refine va_new (ci := 1) (fs := [.null, .null, .null]) (C := RX1) (T := TX1) (N := 3) hx hb hts (fun _ h => List.mem_cons_of_mem _ (List.mem_append_left _ (List.mem_append_right _ h))) tyX1 tyX1_ok hown (hts (.classLink RX4 23 RX1) (List.mem_of_getElem? (i := 12) rfl)) (hts (.instantiable RX1 3) (List.mem_of_getElem? (i := 13) rfl)) (hts (.initialized RX1) (List.mem_of_getElem? (i := 14) rfl)) hK hP hD hS hA rfl (fun j hj => by rcases (show j = 0 ∨ j = 1 ∨ j = 2 by omega) with rfl | rfl | rfl <;> rfl) (Nat.le_of_ble_eq_true rfl) (Nat.le_of_ble_eq_true rfl) dX4_init_27 (fun b3 H hP hD hS => ?_)
  refine lv_dup hx hb dX4_init_30 rfl ?_
  have hP : va_P D vwCl ((([(h0, .inr (4, [.ref (u1 1), .ref (u2 2), .null, .null, .int 0]))] ++ (tW u1 cs FZ 0)) ++ (cW u2 cs FZ 0)) ++ [(b3, .inr (1, [.null, .null, .null]))]) H := hP
  have hD : va_D A ((([(h0, .inr (4, [.ref (u1 1), .ref (u2 2), .null, .null, .int 0]))] ++ (tW u1 cs FZ 0)) ++ (cW u2 cs FZ 0)) ++ [(b3, .inr (1, [.null, .null, .null]))]) := hD
  refine ctJ (b := b3) (ci := 1) (kk := 3) (fs := [.null, .null, .null]) (w1 := fun u => pW u cs FZ) (wr := (([(h0, .inr (4, [.ref (u1 1), .ref (u2 2), .null, .null, .int 0]))] ++ (tW u1 cs FZ 0)) ++ (cW u2 cs FZ 0))) (va_runI (As := []) (rest := [.ref b3, .ref h0]) ⟨hx, hb, hml, hown, hts⟩ (c_X1_init l D cs b3 H.size) (cwI 0 hts gX4_init_X1_init rfl rfl rfl (hts (.initialized RX1) (List.mem_of_getElem? (i := 14) rfl)) (hts (.methodLink RX4 25 yX1_init) (List.mem_of_getElem? (i := 45) rfl)) (hts (.instanceMethod yX1_init) (List.mem_of_getElem? (i := 46) rfl)) rfl (by decide +kernel) ⟨Nat.le_of_ble_eq_true rfl, Nat.le_of_ble_eq_true rfl⟩) ⟨mpre.blind, fun U hU hW => ⟨rfl, by rw [hU], by rw [hU]; exact va_P_r hP, va_K.moved hW.alike hK, NN.warm hW hN, va_D_1⟩⟩ rfl rfl hl.1 rfl (lv_room (Nat.le_of_ble_eq_true rfl)) dX4_init_31 ⟨Nat.le_of_ble_eq_true rfl, Nat.le_of_ble_eq_true rfl⟩) hP hD hS hA (fun u3 H locs hu hPn hDn hSn => ?_)
  subst hu
  have hP := hPn
  have hD := hDn
  have hS := hSn
  clear hPn hDn hSn
  have hP : va_P D vwCl ((([(h0, .inr (4, [.ref (u1 1), .ref (u2 2), .null, .null, .int 0]))] ++ (tW u1 cs FZ 0)) ++ (cW u2 cs FZ 0)) ++ (pW u3 cs FZ)) H := hP
  have hD : va_D A ((([(h0, .inr (4, [.ref (u1 1), .ref (u2 2), .null, .null, .int 0]))] ++ (tW u1 cs FZ 0)) ++ (cW u2 cs FZ 0)) ++ (pW u3 cs FZ)) := hD
  refine va_putF (D := D) (ci := 4) (v := .ref (u3 3)) (ty := .object "UnderPromise$Parts") (C := RX4) (T := TX4) (N := 5) hx hb hts (fun _ h => List.mem_cons_of_mem _ (List.mem_append_left _ (List.mem_append_left _ (List.mem_append_left _ (List.mem_append_right _ h))))) tyX4 tyX4_ok nmX4 hown hK hP hD hS 0 rfl rfl 2 (by decide) (hts (.fieldLink RX4 26 "UnderPromise" "parts" "LUnderPromise$Parts;") (List.mem_of_getElem? (i := 15) rfl)) (fun _ h9 => h9) rfl hin rfl (by decide +kernel) rfl rfl (Nat.le_of_ble_eq_true rfl) dX4_init_34 (fun H locs hP hD hS => ?_)
  have hP : va_P D vwCl ((([(h0, .inr (4, [.ref (u1 1), .ref (u2 2), .ref (u3 3), .null, .int 0]))] ++ (tW u1 cs FZ 0)) ++ (cW u2 cs FZ 0)) ++ (pW u3 cs FZ)) H := hP
  have hD : va_D A ((([(h0, .inr (4, [.ref (u1 1), .ref (u2 2), .ref (u3 3), .null, .int 0]))] ++ (tW u1 cs FZ 0)) ++ (cW u2 cs FZ 0)) ++ (pW u3 cs FZ)) := hD
  refine lv_aload_n hx hb dX4_init_37 rfl (lv_at hl 0 rfl) ?_
  refine va_new (ci := 3) (fs := [.null]) (C := RX3) (T := TX3) (N := 1) hx hb hts (fun _ h => List.mem_cons_of_mem _ (List.mem_append_right _ h)) tyX3 tyX3_ok hown (hts (.classLink RX4 30 RX3) (List.mem_of_getElem? (i := 16) rfl)) (hts (.instantiable RX3 1) (List.mem_of_getElem? (i := 17) rfl)) (hts (.initialized RX3) (List.mem_of_getElem? (i := 18) rfl)) hK hP hD hS hA rfl (fun j hj => by rcases (show j = 0 by omega) with rfl <;> rfl) (Nat.le_of_ble_eq_true rfl) (Nat.le_of_ble_eq_true rfl) dX4_init_38 (fun b4 H hP hD hS => ?_)
  refine lv_dup hx hb dX4_init_41 rfl ?_
  have hP : va_P D vwCl (((([(h0, .inr (4, [.ref (u1 1), .ref (u2 2), .ref (u3 3), .null, .int 0]))] ++ (tW u1 cs FZ 0)) ++ (cW u2 cs FZ 0)) ++ (pW u3 cs FZ)) ++ [(b4, .inr (3, [.null]))]) H := hP
  have hD : va_D A (((([(h0, .inr (4, [.ref (u1 1), .ref (u2 2), .ref (u3 3), .null, .int 0]))] ++ (tW u1 cs FZ 0)) ++ (cW u2 cs FZ 0)) ++ (pW u3 cs FZ)) ++ [(b4, .inr (3, [.null]))]) := hD
  refine ctJ (b := b4) (ci := 3) (kk := 4) (fs := [.null]) (w1 := fun u => wW u cs) (wr := ((([(h0, .inr (4, [.ref (u1 1), .ref (u2 2), .ref (u3 3), .null, .int 0]))] ++ (tW u1 cs FZ 0)) ++ (cW u2 cs FZ 0)) ++ (pW u3 cs FZ))) (va_runI (As := []) (rest := [.ref b4, .ref h0]) ⟨hx, hb, hml, hown, hts⟩ (c_X3_init l D cs b4 H.size) (cwI 0 hts gX4_init_X3_init rfl rfl rfl (hts (.initialized RX3) (List.mem_of_getElem? (i := 18) rfl)) (hts (.methodLink RX4 32 yX3_init) (List.mem_of_getElem? (i := 52) rfl)) (hts (.instanceMethod yX3_init) (List.mem_of_getElem? (i := 53) rfl)) rfl (by decide +kernel) ⟨Nat.le_of_ble_eq_true rfl, Nat.le_of_ble_eq_true rfl⟩) ⟨mpreA.blind, fun U hU hW => ⟨rfl, by rw [hU], by rw [hU]; exact va_P_r hP, va_K.moved hW.alike hK, NN.warm hW hN, va_D_1, va_AOA.moved hW.alike hO⟩⟩ rfl rfl hl.1 rfl (lv_room (Nat.le_of_ble_eq_true rfl)) dX4_init_42 ⟨Nat.le_of_ble_eq_true rfl, Nat.le_of_ble_eq_true rfl⟩) hP hD hS hA (fun u4 H locs hu hPn hDn hSn => ?_)
  subst hu
  have hP := hPn
  have hD := hDn
  have hS := hSn
  clear hPn hDn hSn
  have hP : va_P D vwCl (((([(h0, .inr (4, [.ref (u1 1), .ref (u2 2), .ref (u3 3), .null, .int 0]))] ++ (tW u1 cs FZ 0)) ++ (cW u2 cs FZ 0)) ++ (pW u3 cs FZ)) ++ (wW u4 cs)) H := hP
  have hD : va_D A (((([(h0, .inr (4, [.ref (u1 1), .ref (u2 2), .ref (u3 3), .null, .int 0]))] ++ (tW u1 cs FZ 0)) ++ (cW u2 cs FZ 0)) ++ (pW u3 cs FZ)) ++ (wW u4 cs)) := hD
  refine va_putF (D := D) (ci := 4) (v := .ref (u4 4)) (ty := .object "UnderPromise$Ways") (C := RX4) (T := TX4) (N := 5) hx hb hts (fun _ h => List.mem_cons_of_mem _ (List.mem_append_left _ (List.mem_append_left _ (List.mem_append_left _ (List.mem_append_right _ h))))) tyX4 tyX4_ok nmX4 hown hK hP hD hS 0 rfl rfl 3 (by decide) (hts (.fieldLink RX4 33 "UnderPromise" "ways" "LUnderPromise$Ways;") (List.mem_of_getElem? (i := 19) rfl)) (fun _ h9 => h9) rfl hin rfl (by decide +kernel) rfl rfl (Nat.le_of_ble_eq_true rfl) dX4_init_45 (fun H locs hP hD hS => ?_)
  have hP : va_P D vwCl (((([(h0, .inr (4, [.ref (u1 1), .ref (u2 2), .ref (u3 3), .ref (u4 4), .int 0]))] ++ (tW u1 cs FZ 0)) ++ (cW u2 cs FZ 0)) ++ (pW u3 cs FZ)) ++ (wW u4 cs)) H := hP
  have hD : va_D A (((([(h0, .inr (4, [.ref (u1 1), .ref (u2 2), .ref (u3 3), .ref (u4 4), .int 0]))] ++ (tW u1 cs FZ 0)) ++ (cW u2 cs FZ 0)) ++ (pW u3 cs FZ)) ++ (wW u4 cs)) := hD
  refine lv_aload_n hx hb dX4_init_48 rfl (lv_at hl 0 rfl) ?_
  refine lv_iconst (v := 1) hx hb dX4_init_49 (by decide) ?_
  refine va_put (D := D) (ci := 4) (v := .int 1) (ty := .int) (C := RX4) (T := TX4) (N := 5) hx hb hts (fun _ h => List.mem_cons_of_mem _ (List.mem_append_left _ (List.mem_append_left _ (List.mem_append_left _ (List.mem_append_right _ h))))) tyX4 tyX4_ok nmX4 hown hK hP hD hS 0 rfl rfl 4 (by decide) (hts (.fieldLink RX4 37 "UnderPromise" "monthsAhead" "I") (List.mem_of_getElem? (i := 20) rfl)) (fun _ h9 => h9) rfl (by decide +kernel) rfl rfl (Nat.le_of_ble_eq_true rfl) dX4_init_50 (fun H locs hP hD hS => ?_)
  have hP : va_P D vwCl (((([(h0, .inr (4, [.ref (u1 1), .ref (u2 2), .ref (u3 3), .ref (u4 4), .int 1]))] ++ (tW u1 cs FZ 0)) ++ (cW u2 cs FZ 0)) ++ (pW u3 cs FZ)) ++ (wW u4 cs)) H := hP
  have hD : va_D A (((([(h0, .inr (4, [.ref (u1 1), .ref (u2 2), .ref (u3 3), .ref (u4 4), .int 1]))] ++ (tW u1 cs FZ 0)) ++ (cW u2 cs FZ 0)) ++ (pW u3 cs FZ)) ++ (wW u4 cs)) := hD
  refine W.widen (k := 82) (n := 4779) (Nat.le_of_ble_eq_true rfl) (Nat.le_of_ble_eq_true rfl) ?_
  exact W.vret hx hb hr (fun t9 ht9 hW9 => ⟨⟨uX h0 u1 u2 u3 u4, rfl, trivial, rfl, by rw [ht9, uX_x]; exact hP, by rw [uX_x]; exact hD⟩, hS.F ht9⟩) hS.2.2 dX4_init_53
