set_option maxHeartbeats 4000000 in
set_option maxRecDepth 100000 in
/-- X3_init -/
theorem c_X3_init (l : Launch) (D : va_G) (cs : Nat → ClassId) (h0 sz : Nat) : Met l yX3_init wsX3_init ({ frames := 1, cells := 62, slots := 3782, locals := 12 }) (va_Pc [.ref h0] (mpreA D cs [(h0, .inr (3, [.null]))] sz)) (va_Qv (fun (_ : Nat → Nat) => True) (fun u t => u 4 = h0 ∧ va_P D vwCl (wW u cs) t.heap ∧ va_D (va_A [(h0, .inr (3, [.null]))] sz) (wW u cs)) (va_A [(h0, .inr (3, [.null]))] sz)) 62 3782 (va_A [(h0, .inr (3, [.null]))] sz) := by
  refine Met.ofW (cc := cX3_init) (maxL := 3) (ret := none) (by decide) rfl ?_
  intro p e s m args below meth c_ s₁ B hml hv
  obtain ⟨rfl, hsz, hP, hK, hN, hD0, hO⟩ := hv
  have hx := B.exec
  have hb := B.bytes
  have hr := B.returns
  have hts := atoms_spec (ws := wsX3_init) B.pre
  have hown : s.vm.findClass RX3 = some m.cls := findClass_of_methodNamed B.named
  have hlocks := B.notSynchronized
  have hin : meth.name = "<init>" := (name_of_methodNamed B.named B.method).1
  subst hsz
  have hD := hD0.self (sz := s.heap.size)
  generalize hAe : va_A [(h0, .inr (3, [.null]))] s.heap.size = A at hD ⊢
  have hA : ∀ q : Nat, s.heap.size ≤ q → A q := fun q h => by rw [← hAe]; exact Or.inr h
  have hS : va_S A s.heap s.heap [] := va_S.rf
  have hP : va_P D vwCl [(h0, .inr (3, [.null]))] s.heap := hP
  have hl := lv_entry ([.ref h0]) (n := 3) (Nat.le_of_ble_eq_true rfl)
  rw [lg_entry_eq]
  generalize (lg_sl ([.ref h0]) ++ List.replicate (3 - (lg_sl ([.ref h0])).length) Slot.unset).toArray = ls at hl ⊢
  have hl : lv_has ls 3 [(0, .ref h0)] := hl
  refine lv_aload_n hx hb dX3_init_0 rfl (lv_at hl 0 rfl) ?_
  refine W.objInit hx hb hown (hts (.methodLink RX3 3 objectInit) (List.mem_of_getElem? (i := 1) rfl)) (hts (.instanceMethod objectInit) (List.mem_of_getElem? (i := 2) rfl)) (hts (.code objectInit ⟨#[0xb1]⟩ 1 none) (List.mem_of_getElem? (i := 3) rfl)) rfl (by rw [hml]; exact hl.1) rfl dX3_init_1 (Nat.le_of_ble_eq_true rfl) (Nat.le_of_ble_eq_true rfl) ?_
  refine W.eq (g2 := F0 m 4 ls []) rfl ?_
  refine lv_aload_n hx hb dX3_init_4 rfl (lv_at hl 0 rfl) ?_
  refine lv_bipush (v := 61) hx hb dX3_init_5 (by decide) ?_
  refine lv_bipush (v := 61) hx hb dX3_init_7 (by decide) ?_
  have eJ : "[" ++ (FieldType.array .long).toString = "[[J" := by decide +kernel
  have hcl9 : (Cond.classLink RX3 9 ("[" ++ (FieldType.array .long).toString)).before #[Value.ref h0] s = true := by rw [eJ]; exact (hts (.classLink RX3 9 "[[J") (List.mem_of_getElem? (i := 4) rfl))
  have hcy : s.vm.findClass (FieldType.array .long).toString = some (cs 1) := (hK.2 1 (cs 1, .long) rfl).2
  have hc2 : s.vm.findClass ("[" ++ (FieldType.array .long).toString) = some (cs 2) := (hK.2 2 (cs 2, .array .long) rfl).2
  refine va_mna (X := [(h0, .inr (3, [.null]))]) (L := []) (f := fun _ => .inl (cs 1, (61, .inr (.inl (fun _ => 0))))) (ty := .long) (cy := cs 1) (N' := 61) (K' := 61) (z := (61, .inr (.inl (fun _ => 0)))) hx hb hown hcl9 hO (hts (.arrayClass .long) (List.mem_of_getElem? (i := 5) rfl)) hcy hK hP hD hS hA (by decide) (by decide) (by decide) (by decide) (Nat.le_of_ble_eq_true rfl) (Nat.le_of_ble_eq_true rfl) (Nat.le_of_ble_eq_true rfl) rfl rfl (Nat.le_of_ble_eq_true rfl) (Nat.le_of_ble_eq_true rfl) (fun _ => rfl) dX3_init_9 (fun r0 r cA H hinj hnl hK2 hP hD hS => ?_)
  have hcA : s.vm.findClass ("[" ++ (FieldType.array .long).toString) = some cA := (hK2.2 3 (cA, .array .long) rfl).2
  obtain rfl : cA = cs 2 := Option.some.inj (hcA.symm.trans hc2)
  rw [rows_pl] at hP hD
  have hP : va_P D vwCl (yWg h0 r0 r cs [.null] (fun _ _ => 0)) H := hP
  have hD : va_D A (yWg h0 r0 r cs [.null] (fun _ _ => 0)) := hD
  rw [Rk_0] at hP hD
  have hP : va_P D vwCl (yWg h0 r0 r cs [.null] (Rk 0 0)) H := hP
  have hD : va_D A (yWg h0 r0 r cs [.null] (Rk 0 0)) := hD
  refine va_putF (D := D) (ci := 3) (v := .ref r0) (ty := .array (.array .long)) (C := RX3) (T := TX3) (N := 1) hx hb hts (fun _ h => List.mem_cons_of_mem _ (List.mem_append_right _ h)) tyX3 tyX3_ok nmX3 hown hK hP hD hS 0 rfl rfl 0 (by decide) (hts (.fieldLink RX3 11 "UnderPromise$Ways" "rows" "[[J") (List.mem_of_getElem? (i := 6) rfl)) (fun _ h9 => h9) rfl hin rfl (by decide +kernel) rfl rfl (Nat.le_of_ble_eq_true rfl) dX3_init_13 (fun H locs hP hD hS => ?_)
  have hP : va_P D vwCl (yWg h0 r0 r cs [.ref r0] (Rk 0 0)) H := hP
  have hD : va_D A (yWg h0 r0 r cs [.ref r0] (Rk 0 0)) := hD
  refine lv_iconst (v := 0) hx hb dX3_init_16 (by decide) ?_
  refine lv_istore_n (lv' := [(1, .int 0), (0, .ref h0)]) hx hb dX3_init_17 rfl hl (by decide) rfl (fun ls hl => ?_)
  refine lpH (fun a H locs ls => lv_has ls 3 [(0, .ref h0), (1, .int (nI a))] ∧ va_P D vwCl (yWg h0 r0 r cs [.ref r0] (Rk a 0)) H ∧ va_D A (yWg h0 r0 r cs [.ref r0] (Rk a 0)) ∧ va_S A s.heap H locs) 61 0 (Nat.zero_le _) ls ⟨(show lv_has ls 3 [(0, .ref h0), (1, .int (nI 0))] from lv_sub hl [1, 0] rfl), hP, hD, hS⟩ ?_ ?_
  · intro H locs ls ⟨hl, hP, hD, hS⟩
    have hl : lv_has ls 3 [(0, .ref h0), (1, .int (nI 61))] := hl
    have hP : va_P D vwCl (yWg h0 r0 r cs [.ref r0] (Rk 61 0)) H := hP
    have hD : va_D A (yWg h0 r0 r cs [.ref r0] (Rk 61 0)) := hD
    refine lv_iload_n hx hb dX3_init_18 rfl (lv_at hl 1 rfl) ?_
    refine lv_bipush (v := 60) hx hb dX3_init_19 (by decide) ?_
    refine lv_icmp_gt (tgt := 83) hx hb dX3_init_21 (by decide) (fun c_1 => ?_) (fun c_1 => ?_)
    · have c_2 := i_lt c_1
      rw [yW_cong (R' := fun i j => lN (chs i j)) (fun i hi => funext fun j => Rk_lt hi j)] at hP hD
      refine W.widen (k := 62) (n := 3782) (Nat.le_of_ble_eq_true rfl) (Nat.le_of_ble_eq_true rfl) ?_
      exact W.vret hx hb hr (fun t9 ht9 hW9 => ⟨⟨(fun k => if k = 4 then h0 else if k = 40 then r0 else r (k - 50)), rfl, trivial, rfl, by rw [ht9, wW_u]; exact hP, by rw [wW_u]; exact hD⟩, hS.F ht9⟩) hS.2.2 dX3_init_83
    · exact absurd (nI_lt (a := 60) (b := 61) (by decide) (by decide)) c_1
  · intro a ha0 ha ih H locs ls ⟨hl, hP, hD, hS⟩
    have hl : lv_has ls 3 [(0, .ref h0), (1, .int (nI a))] := hl
    have hP : va_P D vwCl (yWg h0 r0 r cs [.ref r0] (Rk a 0)) H := hP
    have hD : va_D A (yWg h0 r0 r cs [.ref r0] (Rk a 0)) := hD
    refine lv_iload_n hx hb dX3_init_18 rfl (lv_at hl 1 rfl) ?_
    refine lv_bipush (v := 60) hx hb dX3_init_19 (by decide) ?_
    refine lv_icmp_gt (tgt := 83) hx hb dX3_init_21 (by decide) (fun c_3 => ?_) (fun c_3 => ?_)
    · exact absurd c_3 (nI_nlt (a := 60) (by omega) (by decide))
    · have c_4 := i_nlt c_3
      refine lv_aload_n hx hb dX3_init_24 rfl (lv_at hl 0 rfl) ?_
      refine va_get (D := D) (ci := 3) (v := .ref r0) (C := RX3) (T := TX3) (N := 1) hx hb hts (fun _ h => List.mem_cons_of_mem _ (List.mem_append_right _ h)) hown hK hP 0 rfl rfl 0 (by decide) (hts (.fieldLink RX3 11 "UnderPromise$Ways" "rows" "[[J") (List.mem_of_getElem? (i := 6) rfl)) (fun _ h9 => h9) rfl dX3_init_25 ?_
      refine lv_iload_n hx hb dX3_init_28 rfl (lv_at hl 1 rfl) ?_
      refine aaK (b := r a) hx hb hK hP 1 2 rfl rfl a (vp_in_nI (by omega) (by decide)) (nI_clamp (by omega)) (if_pos (by omega)) dX3_init_29 ?_
      refine lv_iconst (v := 0) hx hb dX3_init_30 (by decide) ?_
      refine lv_lconst (v := 1) hx hb dX3_init_31 (by decide) ?_
      refine lastK hx hb hK hP hD hS (2 + a) 1 (yW_row (by omega)) rfl 0 (vp_in_nI (n := 0) (by decide) (by decide)) rfl dX3_init_32 (fun H locs hP hD hS => ?_)
      rw [yW_set (by omega), Rk_s (by rw [chs_0]; rfl)] at hP hD
      have hP : va_P D vwCl (yWg h0 r0 r cs [.ref r0] (Rk a 1)) H := hP
      have hD : va_D A (yWg h0 r0 r cs [.ref r0] (Rk a 1)) := hD
      refine lv_iconst (v := 1) hx hb dX3_init_33 (by decide) ?_
      refine lv_istore_n (lv' := [(2, .int 1), (0, .ref h0), (1, .int (nI a))]) hx hb dX3_init_34 rfl hl (by decide) rfl (fun ls hl => ?_)
      refine lpH (fun b H locs ls => lv_has ls 3 [(0, .ref h0), (1, .int (nI a)), (2, .int (nI b))] ∧ va_P D vwCl (yWg h0 r0 r cs [.ref r0] (Rk a b)) H ∧ va_D A (yWg h0 r0 r cs [.ref r0] (Rk a b)) ∧ va_S A s.heap H locs) (a + 1) 1 (by omega) ls ⟨(show lv_has ls 3 [(0, .ref h0), (1, .int (nI a)), (2, .int (nI 1))] from lv_sub hl [1, 2, 0] rfl), hP, hD, hS⟩ ?_ ?_
      · intro H locs ls ⟨hl, hP, hD, hS⟩
        have hl : lv_has ls 3 [(0, .ref h0), (1, .int (nI a)), (2, .int (nI (a + 1)))] := hl
        have hP : va_P D vwCl (yWg h0 r0 r cs [.ref r0] (Rk a (a + 1))) H := hP
        have hD : va_D A (yWg h0 r0 r cs [.ref r0] (Rk a (a + 1))) := hD
        rw [Rk_r] at hP hD
        have hP : va_P D vwCl (yWg h0 r0 r cs [.ref r0] (Rk (a + 1) 0)) H := hP
        have hD : va_D A (yWg h0 r0 r cs [.ref r0] (Rk (a + 1) 0)) := hD
        refine lv_iload_n hx hb dX3_init_35 rfl (lv_at hl 2 rfl) ?_
        refine lv_iload_n hx hb dX3_init_36 rfl (lv_at hl 1 rfl) ?_
        refine lv_icmp_gt (tgt := 77) hx hb dX3_init_37 (by decide) (fun c_5 => ?_) (fun c_5 => ?_)
        · have c_6 := i_lt c_5
          refine lv_iinc (v := ((nI a) + 1)) (lv' := [(1, .int ((nI a) + 1)), (0, .ref h0), (2, .int (nI (a + 1)))]) hx hb dX3_init_77 hl (k := 1) rfl rfl (by decide) rfl (fun ls hl => ?_)
          refine lv_goto (tgt := 18) hx hb dX3_init_80 (by decide) ?_
          have h_7 : ((nI a) + 1) = (nI (a + 1)) := (nI_1 _)
          exact ih _ _ _ ⟨(lv_cast (lv_sub (l' := [(0, .ref h0), (1, .int ((nI a) + 1))]) hl [1, 0] rfl) (cg1 (fun z7 => [(0, .ref h0), (1, .int z7)]) h_7)), hP, hD, hS⟩
        · exact absurd (nI_lt (Nat.lt_succ_self _) (by omega)) c_5
      · intro b hb90 hb9 ih2 H locs ls ⟨hl, hP, hD, hS⟩
        have hl : lv_has ls 3 [(0, .ref h0), (1, .int (nI a)), (2, .int (nI b))] := hl
        have hP : va_P D vwCl (yWg h0 r0 r cs [.ref r0] (Rk a b)) H := hP
        have hD : va_D A (yWg h0 r0 r cs [.ref r0] (Rk a b)) := hD
        refine lv_iload_n hx hb dX3_init_35 rfl (lv_at hl 2 rfl) ?_
        refine lv_iload_n hx hb dX3_init_36 rfl (lv_at hl 1 rfl) ?_
        refine lv_icmp_gt (tgt := 77) hx hb dX3_init_37 (by decide) (fun c_8 => ?_) (fun c_8 => ?_)
        · exact absurd c_8 (nI_nlt (by omega) (by omega))
        · have c_9 := i_nlt c_8
          refine lv_aload_n hx hb dX3_init_40 rfl (lv_at hl 0 rfl) ?_
          refine va_get (D := D) (ci := 3) (v := .ref r0) (C := RX3) (T := TX3) (N := 1) hx hb hts (fun _ h => List.mem_cons_of_mem _ (List.mem_append_right _ h)) hown hK hP 0 rfl rfl 0 (by decide) (hts (.fieldLink RX3 11 "UnderPromise$Ways" "rows" "[[J") (List.mem_of_getElem? (i := 6) rfl)) (fun _ h9 => h9) rfl dX3_init_41 ?_
          refine lv_iload_n hx hb dX3_init_44 rfl (lv_at hl 1 rfl) ?_
          refine aaK (b := r a) hx hb hK hP 1 2 rfl rfl a (vp_in_nI (by omega) (by decide)) (nI_clamp (by omega)) (if_pos (by omega)) dX3_init_45 ?_
          refine lv_iload_n hx hb dX3_init_46 rfl (lv_at hl 2 rfl) ?_
          refine lv_aload_n hx hb dX3_init_47 rfl (lv_at hl 0 rfl) ?_
          refine va_get (D := D) (ci := 3) (v := .ref r0) (C := RX3) (T := TX3) (N := 1) hx hb hts (fun _ h => List.mem_cons_of_mem _ (List.mem_append_right _ h)) hown hK hP 0 rfl rfl 0 (by decide) (hts (.fieldLink RX3 11 "UnderPromise$Ways" "rows" "[[J") (List.mem_of_getElem? (i := 6) rfl)) (fun _ h9 => h9) rfl dX3_init_48 ?_
          refine lv_iload_n hx hb dX3_init_51 rfl (lv_at hl 1 rfl) ?_
          refine lv_iconst (v := 1) hx hb dX3_init_52 (by decide) ?_
          refine lv_isub hx hb dX3_init_53 ?_
          refine aaK (b := r (a - 1)) hx hb hK hP 1 2 rfl rfl (a - 1) (by rw [nI_m9 (by omega)]; exact vp_in_nI (by omega) (by decide)) (by rw [nI_m9 (by omega)]; exact nI_clamp (by omega)) (if_pos (by omega)) dX3_init_54 ?_
          refine lv_iload_n hx hb dX3_init_55 rfl (lv_at hl 2 rfl) ?_
          refine lv_iconst (v := 1) hx hb dX3_init_56 (by decide) ?_
          refine lv_isub hx hb dX3_init_57 ?_
          refine laK (v := (Rk a b) (a - 1) (b - 1)) hx hb hK hP (2 + (a - 1)) 1 (yW_row (by omega)) rfl (b - 1) (by rw [nI_m9 (by omega)]; exact vp_in_nI (by omega) (by decide)) (by rw [nI_m9 (by omega)]; exact nI_clamp (by omega)) rfl dX3_init_58 ?_
          refine lv_aload_n hx hb dX3_init_59 rfl (lv_at hl 0 rfl) ?_
          refine va_get (D := D) (ci := 3) (v := .ref r0) (C := RX3) (T := TX3) (N := 1) hx hb hts (fun _ h => List.mem_cons_of_mem _ (List.mem_append_right _ h)) hown hK hP 0 rfl rfl 0 (by decide) (hts (.fieldLink RX3 11 "UnderPromise$Ways" "rows" "[[J") (List.mem_of_getElem? (i := 6) rfl)) (fun _ h9 => h9) rfl dX3_init_60 ?_
          refine lv_iload_n hx hb dX3_init_63 rfl (lv_at hl 1 rfl) ?_
          refine lv_iconst (v := 1) hx hb dX3_init_64 (by decide) ?_
          refine lv_isub hx hb dX3_init_65 ?_
          refine aaK (b := r (a - 1)) hx hb hK hP 1 2 rfl rfl (a - 1) (by rw [nI_m9 (by omega)]; exact vp_in_nI (by omega) (by decide)) (by rw [nI_m9 (by omega)]; exact nI_clamp (by omega)) (if_pos (by omega)) dX3_init_66 ?_
          refine lv_iload_n hx hb dX3_init_67 rfl (lv_at hl 2 rfl) ?_
          refine laK (v := (Rk a b) (a - 1) b) hx hb hK hP (2 + (a - 1)) 1 (yW_row (by omega)) rfl b (vp_in_nI (by omega) (by decide)) (nI_clamp (by omega)) rfl dX3_init_68 ?_
          refine lv_ladd hx hb dX3_init_69 ?_
          refine lastK hx hb hK hP hD hS (2 + a) 1 (yW_row (by omega)) rfl b (vp_in_nI (by omega) (by decide)) (nI_clamp (by omega)) dX3_init_70 (fun H locs hP hD hS => ?_)
          rw [yW_set (by omega), Rk_s (Rk_2 (by omega) (by omega))] at hP hD
          have hP : va_P D vwCl (yWg h0 r0 r cs [.ref r0] (Rk a (b + 1))) H := hP
          have hD : va_D A (yWg h0 r0 r cs [.ref r0] (Rk a (b + 1))) := hD
          refine lv_iinc (v := ((nI b) + 1)) (lv' := [(2, .int ((nI b) + 1)), (0, .ref h0), (1, .int (nI a))]) hx hb dX3_init_71 hl (k := 2) rfl rfl (by decide) rfl (fun ls hl => ?_)
          refine lv_goto (tgt := 35) hx hb dX3_init_74 (by decide) ?_
          have h_10 : ((nI b) + 1) = (nI (b + 1)) := (nI_1 _)
          exact ih2 _ _ _ ⟨(lv_cast (lv_sub (l' := [(0, .ref h0), (1, .int (nI a)), (2, .int ((nI b) + 1))]) hl [1, 2, 0] rfl) (cg1 (fun z10 => [(0, .ref h0), (1, .int (nI a)), (2, .int z10)]) h_10)), hP, hD, hS⟩
