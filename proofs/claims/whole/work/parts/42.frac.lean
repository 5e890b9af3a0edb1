set_option maxHeartbeats 4000000 in
set_option maxRecDepth 100000 in
/-- J13_bitCount_95d88 -/
theorem c_J13_bitCount_95d88 (l : Launch)  (x : Int64)  : Met l yJ13_bitCount_95d88 wsJ13_bitCount_95d88 ({ frames := 0, cells := 0, slots := 0, locals := 0 }) (va_Pc [.long x] (fun _ => True)) (vp_Si (fun r => r = (nI (ctN (bitL x) 64)))) 0 0 (fun _ => False) := by
  refine Met.ofW (cc := cJ13_bitCount_95d88) (maxL := 2) (ret := (some .int)) (by decide) rfl ?_
  intro p e s m args below meth c_ s₁ B hml hv
  obtain ⟨rfl, -⟩ := hv
  have hx := B.exec
  have hb := B.bytes
  have hr := B.returns
  have hts := atoms_spec (ws := wsJ13_bitCount_95d88) B.pre
  have hown : s.vm.findClass RJ13 = some m.cls := findClass_of_methodNamed B.named
  have hlocks := B.notSynchronized
  have hl := lv_entry ([.long x]) (n := 2) (Nat.le_of_ble_eq_true rfl)
  rw [lg_entry_eq]
  generalize (lg_sl ([.long x]) ++ List.replicate (2 - (lg_sl ([.long x])).length) Slot.unset).toArray = ls at hl ⊢
  have hl : lv_has ls 2 [(0, .long x)] := hl
  refine lv_lload_n hx hb dJ13_bitCount_95d88_0 rfl (lv_at hl 0 rfl) ?_
  refine lv_lload_n hx hb dJ13_bitCount_95d88_1 rfl (lv_at hl 0 rfl) ?_
  refine lv_iconst (v := 1) hx hb dJ13_bitCount_95d88_2 (by decide) ?_
  refine lv_lushr (v := ((x : Int64).toUInt64 >>> ((Int32.toInt64 1).toUInt64 &&& Int64.toUInt64 63)).toInt64) hx hb dJ13_bitCount_95d88_3 rfl ?_
  refine lv_ldc2 (v := 6148914691236517205) hx hb hown (hts (.constantLong RJ13 314 (6148914691236517205)) (List.mem_of_getElem? (i := 1) rfl)) dJ13_bitCount_95d88_4 ?_
  refine lv_land hx hb dJ13_bitCount_95d88_7 ?_
  refine lv_lsub hx hb dJ13_bitCount_95d88_8 ?_
  refine lv_topl (fun y1 ey1 => ?_)
  refine lv_lstore_n (lv' := [(0, .long y1)]) hx hb dJ13_bitCount_95d88_9 rfl hl (by decide) rfl (fun ls hl => ?_)
  refine lv_lload_n hx hb dJ13_bitCount_95d88_10 rfl (lv_at hl 0 rfl) ?_
  refine lv_ldc2 (v := 3689348814741910323) hx hb hown (hts (.constantLong RJ13 316 (3689348814741910323)) (List.mem_of_getElem? (i := 2) rfl)) dJ13_bitCount_95d88_11 ?_
  refine lv_land hx hb dJ13_bitCount_95d88_14 ?_
  refine lv_lload_n hx hb dJ13_bitCount_95d88_15 rfl (lv_at hl 0 rfl) ?_
  refine lv_iconst (v := 2) hx hb dJ13_bitCount_95d88_16 (by decide) ?_
  refine lv_lushr (v := ((y1 : Int64).toUInt64 >>> ((Int32.toInt64 2).toUInt64 &&& Int64.toUInt64 63)).toInt64) hx hb dJ13_bitCount_95d88_17 rfl ?_
  refine lv_ldc2 (v := 3689348814741910323) hx hb hown (hts (.constantLong RJ13 316 (3689348814741910323)) (List.mem_of_getElem? (i := 2) rfl)) dJ13_bitCount_95d88_18 ?_
  refine lv_land hx hb dJ13_bitCount_95d88_21 ?_
  refine lv_ladd hx hb dJ13_bitCount_95d88_22 ?_
  refine lv_topl (fun y2 ey2 => ?_)
  refine lv_lstore_n (lv' := [(0, .long y2)]) hx hb dJ13_bitCount_95d88_23 rfl hl (by decide) rfl (fun ls hl => ?_)
  refine lv_lload_n hx hb dJ13_bitCount_95d88_24 rfl (lv_at hl 0 rfl) ?_
  refine lv_lload_n hx hb dJ13_bitCount_95d88_25 rfl (lv_at hl 0 rfl) ?_
  refine lv_iconst (v := 4) hx hb dJ13_bitCount_95d88_26 (by decide) ?_
  refine lv_lushr (v := ((y2 : Int64).toUInt64 >>> ((Int32.toInt64 4).toUInt64 &&& Int64.toUInt64 63)).toInt64) hx hb dJ13_bitCount_95d88_27 rfl ?_
  refine lv_ladd hx hb dJ13_bitCount_95d88_28 ?_
  refine lv_ldc2 (v := 1085102592571150095) hx hb hown (hts (.constantLong RJ13 318 (1085102592571150095)) (List.mem_of_getElem? (i := 3) rfl)) dJ13_bitCount_95d88_29 ?_
  refine lv_land hx hb dJ13_bitCount_95d88_32 ?_
  refine lv_topl (fun y3 ey3 => ?_)
  refine lv_lstore_n (lv' := [(0, .long y3)]) hx hb dJ13_bitCount_95d88_33 rfl hl (by decide) rfl (fun ls hl => ?_)
  refine lv_lload_n hx hb dJ13_bitCount_95d88_34 rfl (lv_at hl 0 rfl) ?_
  refine lv_lload_n hx hb dJ13_bitCount_95d88_35 rfl (lv_at hl 0 rfl) ?_
  refine lv_bipush (v := 8) hx hb dJ13_bitCount_95d88_36 (by decide) ?_
  refine lv_lushr (v := ((y3 : Int64).toUInt64 >>> ((Int32.toInt64 8).toUInt64 &&& Int64.toUInt64 63)).toInt64) hx hb dJ13_bitCount_95d88_38 rfl ?_
  refine lv_ladd hx hb dJ13_bitCount_95d88_39 ?_
  refine lv_topl (fun y4 ey4 => ?_)
  refine lv_lstore_n (lv' := [(0, .long y4)]) hx hb dJ13_bitCount_95d88_40 rfl hl (by decide) rfl (fun ls hl => ?_)
  refine lv_lload_n hx hb dJ13_bitCount_95d88_41 rfl (lv_at hl 0 rfl) ?_
  refine lv_lload_n hx hb dJ13_bitCount_95d88_42 rfl (lv_at hl 0 rfl) ?_
  refine lv_bipush (v := 16) hx hb dJ13_bitCount_95d88_43 (by decide) ?_
  refine lv_lushr (v := ((y4 : Int64).toUInt64 >>> ((Int32.toInt64 16).toUInt64 &&& Int64.toUInt64 63)).toInt64) hx hb dJ13_bitCount_95d88_45 rfl ?_
  refine lv_ladd hx hb dJ13_bitCount_95d88_46 ?_
  refine lv_topl (fun y5 ey5 => ?_)
  refine lv_lstore_n (lv' := [(0, .long y5)]) hx hb dJ13_bitCount_95d88_47 rfl hl (by decide) rfl (fun ls hl => ?_)
  refine lv_lload_n hx hb dJ13_bitCount_95d88_48 rfl (lv_at hl 0 rfl) ?_
  refine lv_lload_n hx hb dJ13_bitCount_95d88_49 rfl (lv_at hl 0 rfl) ?_
  refine lv_bipush (v := 32) hx hb dJ13_bitCount_95d88_50 (by decide) ?_
  refine lv_lushr (v := ((y5 : Int64).toUInt64 >>> ((Int32.toInt64 32).toUInt64 &&& Int64.toUInt64 63)).toInt64) hx hb dJ13_bitCount_95d88_52 rfl ?_
  refine lv_ladd hx hb dJ13_bitCount_95d88_53 ?_
  refine lv_topl (fun y6 ey6 => ?_)
  refine lv_lstore_n (lv' := [(0, .long y6)]) hx hb dJ13_bitCount_95d88_54 rfl hl (by decide) rfl (fun ls hl => ?_)
  refine lv_lload_n hx hb dJ13_bitCount_95d88_55 rfl (lv_at hl 0 rfl) ?_
  refine lv_l2i (v := (Int64.toInt32 y6)) hx hb dJ13_bitCount_95d88_56 rfl ?_
  refine lv_bipush (v := 127) hx hb dJ13_bitCount_95d88_57 (by decide) ?_
  refine lv_iand hx hb dJ13_bitCount_95d88_59 ?_
  exact W.iret (v := ((Int64.toInt32 y6) &&& 127)) hx hb hr (fun t9 ht9 hW9 => ⟨((Int64.toInt32 y6) &&& 127), rfl, ((bc_ok ey1 ey2 ey3 ey4 ey5 ey6).trans (ctI_N 64)), ht9⟩) (fun _ h => by cases h) dJ13_bitCount_95d88_60
set_option maxHeartbeats 4000000 in
set_option maxRecDepth 100000 in
/-- X4_greatestCommonDivisor -/
theorem c_X4_greatestCommonDivisor (l : Launch)  (ua : Nat) (ub : Nat) (ha : ua < 2 ^ 63) (hb2 : ub < 2 ^ 63) : Met l yX4_greatestCommonDivisor wsX4_greatestCommonDivisor ({ frames := 0, cells := 0, slots := 0, locals := 0 }) (va_Pc [.long (lN ua), .long (lN ub)] (fun _ => True)) (vp_Sl (fun r => r = (lN (Nat.gcd ua ub)))) 0 0 (fun _ => False) := by
  refine Met.ofW (cc := cX4_greatestCommonDivisor) (maxL := 11) (ret := (some .long)) (by decide) rfl ?_
  intro p e s m args below meth c_ s₁ B hml hv
  obtain ⟨rfl, -⟩ := hv
  have hx := B.exec
  have hb := B.bytes
  have hr := B.returns
  have hts := atoms_spec (ws := wsX4_greatestCommonDivisor) B.pre
  have hown : s.vm.findClass RX4 = some m.cls := findClass_of_methodNamed B.named
  have hlocks := B.notSynchronized
  have hl := lv_entry ([.long (lN ua), .long (lN ub)]) (n := 11) (Nat.le_of_ble_eq_true rfl)
  rw [lg_entry_eq]
  generalize (lg_sl ([.long (lN ua), .long (lN ub)]) ++ List.replicate (11 - (lg_sl ([.long (lN ua), .long (lN ub)])).length) Slot.unset).toArray = ls at hl ⊢
  have hl : lv_has ls 11 [(0, .long (lN ua)), (2, .long (lN ub))] := hl
  refine lv_lload_n hx hb dX4_greatestCommonDivisor_0 rfl (lv_at hl 0 rfl) ?_
  refine lv_lstore (lv' := [(4, .long (lN ua)), (0, .long (lN ua)), (2, .long (lN ub))]) hx hb dX4_greatestCommonDivisor_1 hl (by decide) rfl (fun ls hl => ?_)
  refine lv_lload_n hx hb dX4_greatestCommonDivisor_3 rfl (lv_at hl 2 rfl) ?_
  refine lv_lstore (lv' := [(6, .long (lN ub)), (4, .long (lN ua)), (0, .long (lN ua)), (2, .long (lN ub))]) hx hb dX4_greatestCommonDivisor_4 hl (by decide) rfl (fun ls hl => ?_)
  refine lv_iconst (v := 0) hx hb dX4_greatestCommonDivisor_6 (by decide) ?_
  refine lv_istore (lv' := [(8, .int 0), (6, .long (lN ub)), (4, .long (lN ua)), (0, .long (lN ua)), (2, .long (lN ub))]) hx hb dX4_greatestCommonDivisor_7 hl (by decide) rfl (fun ls hl => ?_)
  refine lpW (fun k ls => lv_has ls 11 [(0, .long (lN ua)), (2, .long (lN ub)), (4, .long (lN (gP ua ub k).1)), (6, .long (lN (gP ua ub k).2)), (8, .int (nI k))] ∧ (GI ua ub k (gP ua ub k).1 (gP ua ub k).2)) 200 0 (Nat.zero_le _) ls ⟨(show lv_has ls 11 [(0, .long (lN ua)), (2, .long (lN ub)), (4, .long (lN (gP ua ub 0).1)), (6, .long (lN (gP ua ub 0).2)), (8, .int (nI 0))] from lv_sub hl [3, 4, 2, 1, 0] rfl), (GI_0 ha hb2)⟩ ?_ ?_
  · intro ls ⟨hl, hE⟩
    have hl : lv_has ls 11 [(0, .long (lN ua)), (2, .long (lN ub)), (4, .long (lN (gP ua ub 200).1)), (6, .long (lN (gP ua ub 200).2)), (8, .int (nI 200))] := hl
    have hE : GI ua ub 200 (gP ua ub 200).1 (gP ua ub 200).2 := hE
    refine lv_iload hx hb dX4_greatestCommonDivisor_9 (lv_at hl 4 rfl) ?_
    refine lv_sipush (v := 200) hx hb dX4_greatestCommonDivisor_11 (by decide) ?_
    refine lv_icmp_ge (tgt := 45) hx hb dX4_greatestCommonDivisor_14 (by decide) (fun c_1 => ?_) (fun c_1 => ?_)
    · have c_2 := i_le c_1
      refine lv_lload hx hb dX4_greatestCommonDivisor_45 (lv_at hl 2 rfl) ?_
      exact W.lret (v := (lN (gP ua ub 200).1)) hx hb hr (fun t9 ht9 hW9 => ⟨(lN (gP ua ub 200).1), rfl, (by rw [GI_g hE (GI_end hE)]), ht9⟩) (fun _ h => by cases h) dX4_greatestCommonDivisor_47
    · exact absurd (nI_le (b := 200) (Nat.le_refl 200) (by decide)) c_1
  · intro k hk0 hk ih ls ⟨hl, hE⟩
    have hl : lv_has ls 11 [(0, .long (lN ua)), (2, .long (lN ub)), (4, .long (lN (gP ua ub k).1)), (6, .long (lN (gP ua ub k).2)), (8, .int (nI k))] := hl
    have hE : GI ua ub k (gP ua ub k).1 (gP ua ub k).2 := hE
    refine lv_iload hx hb dX4_greatestCommonDivisor_9 (lv_at hl 4 rfl) ?_
    refine lv_sipush (v := 200) hx hb dX4_greatestCommonDivisor_11 (by decide) ?_
    refine lv_icmp_ge (tgt := 45) hx hb dX4_greatestCommonDivisor_14 (by decide) (fun c_3 => ?_) (fun c_3 => ?_)
    · exact absurd c_3 (nI_ge (b := 200) hk (by decide))
    · have c_4 := i_nle c_3
      refine lv_lload hx hb dX4_greatestCommonDivisor_17 (lv_at hl 3 rfl) ?_
      refine lv_lconst (v := 0) hx hb dX4_greatestCommonDivisor_19 (by decide) ?_
      refine W.lcmp hx hb dX4_greatestCommonDivisor_20 ?_
      refine lv_if_eq (tgt := 45) hx hb dX4_greatestCommonDivisor_21 (by decide) (fun c_5 => ?_) (fun c_5 => ?_)
      · have c_6 := (lg_cmp_eq _ _).mp c_5
        refine lv_lload hx hb dX4_greatestCommonDivisor_45 (lv_at hl 2 rfl) ?_
        exact W.lret (v := (lN (gP ua ub k).1)) hx hb hr (fun t9 ht9 hW9 => ⟨(lN (gP ua ub k).1), rfl, (by rw [GI_g hE ((lN_0 hE.2.2.1).mp c_6)]), ht9⟩) (fun _ h => by cases h) dX4_greatestCommonDivisor_47
      · have c_7 := (not_congr (lg_cmp_eq _ _)).mp c_5
        refine lv_lload hx hb dX4_greatestCommonDivisor_24 (lv_at hl 2 rfl) ?_
        refine lv_lload hx hb dX4_greatestCommonDivisor_26 (lv_at hl 3 rfl) ?_
        refine lv_lrem hx hb dX4_greatestCommonDivisor_28 c_7 ?_
        refine lv_lstore (lv' := [(9, .long ((lN (gP ua ub k).1) - (lN (gP ua ub k).1) / (lN (gP ua ub k).2) * (lN (gP ua ub k).2))), (0, .long (lN ua)), (2, .long (lN ub)), (4, .long (lN (gP ua ub k).1)), (6, .long (lN (gP ua ub k).2)), (8, .int (nI k))]) hx hb dX4_greatestCommonDivisor_29 hl (by decide) rfl (fun ls hl => ?_)
        refine lv_lload hx hb dX4_greatestCommonDivisor_31 (lv_at hl 4 rfl) ?_
        refine lv_lstore (lv' := [(4, .long (lN (gP ua ub k).2)), (9, .long ((lN (gP ua ub k).1) - (lN (gP ua ub k).1) / (lN (gP ua ub k).2) * (lN (gP ua ub k).2))), (0, .long (lN ua)), (2, .long (lN ub)), (6, .long (lN (gP ua ub k).2)), (8, .int (nI k))]) hx hb dX4_greatestCommonDivisor_33 hl (by decide) rfl (fun ls hl => ?_)
        refine lv_lload hx hb dX4_greatestCommonDivisor_35 (lv_at hl 1 rfl) ?_
        refine lv_lstore (lv' := [(6, .long ((lN (gP ua ub k).1) - (lN (gP ua ub k).1) / (lN (gP ua ub k).2) * (lN (gP ua ub k).2))), (4, .long (lN (gP ua ub k).2)), (9, .long ((lN (gP ua ub k).1) - (lN (gP ua ub k).1) / (lN (gP ua ub k).2) * (lN (gP ua ub k).2))), (0, .long (lN ua)), (2, .long (lN ub)), (8, .int (nI k))]) hx hb dX4_greatestCommonDivisor_37 hl (by decide) rfl (fun ls hl => ?_)
        refine lv_iinc (v := ((nI k) + 1)) (lv' := [(8, .int ((nI k) + 1)), (6, .long ((lN (gP ua ub k).1) - (lN (gP ua ub k).1) / (lN (gP ua ub k).2) * (lN (gP ua ub k).2))), (4, .long (lN (gP ua ub k).2)), (9, .long ((lN (gP ua ub k).1) - (lN (gP ua ub k).1) / (lN (gP ua ub k).2) * (lN (gP ua ub k).2))), (0, .long (lN ua)), (2, .long (lN ub))]) hx hb dX4_greatestCommonDivisor_39 hl (k := 5) rfl rfl (by decide) rfl (fun ls hl => ?_)
        refine lv_goto (tgt := 9) hx hb dX4_greatestCommonDivisor_42 (by decide) ?_
        have h_8 : (lN (gP ua ub k).2) = (lN (gP ua ub (k + 1)).1) := rfl
        have h_9 : ((lN (gP ua ub k).1) - (lN (gP ua ub k).1) / (lN (gP ua ub k).2) * (lN (gP ua ub k).2)) = (lN (gP ua ub (k + 1)).2) := (lN_rem hE.2.1 hE.2.2.1 c_7)
        have h_10 : ((nI k) + 1) = (nI (k + 1)) := (nI_1 _)
        exact ih _ ⟨(lv_cast (lv_sub (l' := [(0, .long (lN ua)), (2, .long (lN ub)), (4, .long (lN (gP ua ub k).2)), (6, .long ((lN (gP ua ub k).1) - (lN (gP ua ub k).1) / (lN (gP ua ub k).2) * (lN (gP ua ub k).2))), (8, .int ((nI k) + 1))]) hl [4, 5, 2, 1, 0] rfl) (cg3 (fun z8 z9 z10 => [(0, .long (lN ua)), (2, .long (lN ub)), (4, .long z8), (6, .long z9), (8, .int z10)]) h_8 h_9 h_10)), (GI_s hE (fun h9 => c_7 ((lN_0 hE.2.2.1).mpr h9)))⟩
set_option maxHeartbeats 4000000 in
set_option maxRecDepth 100000 in
/-- X5_gcd -/
theorem c_X5_gcd (l : Launch)  (ua : Nat) (ub : Nat) (ha : ua < 2 ^ 63) (hb2 : ub < 2 ^ 63) : Met l yX5_gcd wsX5_gcd ({ frames := 0, cells := 0, slots := 0, locals := 0 }) (va_Pc [.long (lN ua), .long (lN ub)] (fun _ => True)) (vp_Sl (fun r => r = (lN (Nat.gcd ua ub)))) 0 0 (fun _ => False) := by
  refine Met.ofW (cc := cX5_gcd) (maxL := 10) (ret := (some .long)) (by decide) rfl ?_
  intro p e s m args below meth c_ s₁ B hml hv
  obtain ⟨rfl, -⟩ := hv
  have hx := B.exec
  have hb := B.bytes
  have hr := B.returns
  have hts := atoms_spec (ws := wsX5_gcd) B.pre
  have hown : s.vm.findClass RX5 = some m.cls := findClass_of_methodNamed B.named
  have hlocks := B.notSynchronized
  have hl := lv_entry ([.long (lN ua), .long (lN ub)]) (n := 10) (Nat.le_of_ble_eq_true rfl)
  rw [lg_entry_eq]
  generalize (lg_sl ([.long (lN ua), .long (lN ub)]) ++ List.replicate (10 - (lg_sl ([.long (lN ua), .long (lN ub)])).length) Slot.unset).toArray = ls at hl ⊢
  have hl : lv_has ls 10 [(0, .long (lN ua)), (2, .long (lN ub))] := hl
  refine lv_lload_n hx hb dX5_gcd_0 rfl (lv_at hl 0 rfl) ?_
  refine lv_lstore (lv' := [(4, .long (lN ua)), (0, .long (lN ua)), (2, .long (lN ub))]) hx hb dX5_gcd_1 hl (by decide) rfl (fun ls hl => ?_)
  refine lv_lload_n hx hb dX5_gcd_3 rfl (lv_at hl 2 rfl) ?_
  refine lv_lstore (lv' := [(6, .long (lN ub)), (4, .long (lN ua)), (0, .long (lN ua)), (2, .long (lN ub))]) hx hb dX5_gcd_4 hl (by decide) rfl (fun ls hl => ?_)
  refine lpW (fun k ls => lv_has ls 10 [(0, .long (lN ua)), (2, .long (lN ub)), (4, .long (lN (gP ua ub k).1)), (6, .long (lN (gP ua ub k).2))] ∧ (GI ua ub k (gP ua ub k).1 (gP ua ub k).2)) 200 0 (Nat.zero_le _) ls ⟨(show lv_has ls 10 [(0, .long (lN ua)), (2, .long (lN ub)), (4, .long (lN (gP ua ub 0).1)), (6, .long (lN (gP ua ub 0).2))] from lv_sub hl [2, 3, 1, 0] rfl), (GI_0 ha hb2)⟩ ?_ ?_
  · intro ls ⟨hl, hE⟩
    have hl : lv_has ls 10 [(0, .long (lN ua)), (2, .long (lN ub)), (4, .long (lN (gP ua ub 200).1)), (6, .long (lN (gP ua ub 200).2))] := hl
    have hE : GI ua ub 200 (gP ua ub 200).1 (gP ua ub 200).2 := hE
    refine lv_lload hx hb dX5_gcd_6 (lv_at hl 3 rfl) ?_
    refine lv_lconst (v := 0) hx hb dX5_gcd_8 (by decide) ?_
    refine W.lcmp hx hb dX5_gcd_9 ?_
    refine lv_if_eq (tgt := 31) hx hb dX5_gcd_10 (by decide) (fun c_1 => ?_) (fun c_1 => ?_)
    · have c_2 := (lg_cmp_eq _ _).mp c_1
      refine lv_lload hx hb dX5_gcd_31 (lv_at hl 2 rfl) ?_
      exact W.lret (v := (lN (gP ua ub 200).1)) hx hb hr (fun t9 ht9 hW9 => ⟨(lN (gP ua ub 200).1), rfl, (by rw [GI_g hE (GI_end hE)]), ht9⟩) (fun _ h => by cases h) dX5_gcd_33
    · exact absurd ((lN_0 hE.2.2.1).mpr (GI_end hE)) ((not_congr (lg_cmp_eq _ _)).mp c_1)
  · intro k hk0 hk ih ls ⟨hl, hE⟩
    have hl : lv_has ls 10 [(0, .long (lN ua)), (2, .long (lN ub)), (4, .long (lN (gP ua ub k).1)), (6, .long (lN (gP ua ub k).2))] := hl
    have hE : GI ua ub k (gP ua ub k).1 (gP ua ub k).2 := hE
    refine lv_lload hx hb dX5_gcd_6 (lv_at hl 3 rfl) ?_
    refine lv_lconst (v := 0) hx hb dX5_gcd_8 (by decide) ?_
    refine W.lcmp hx hb dX5_gcd_9 ?_
    refine lv_if_eq (tgt := 31) hx hb dX5_gcd_10 (by decide) (fun c_3 => ?_) (fun c_3 => ?_)
    · have c_4 := (lg_cmp_eq _ _).mp c_3
      refine lv_lload hx hb dX5_gcd_31 (lv_at hl 2 rfl) ?_
      exact W.lret (v := (lN (gP ua ub k).1)) hx hb hr (fun t9 ht9 hW9 => ⟨(lN (gP ua ub k).1), rfl, (by rw [GI_g hE ((lN_0 hE.2.2.1).mp c_4)]), ht9⟩) (fun _ h => by cases h) dX5_gcd_33
    · have c_5 := (not_congr (lg_cmp_eq _ _)).mp c_3
      refine lv_lload hx hb dX5_gcd_13 (lv_at hl 2 rfl) ?_
      refine lv_lload hx hb dX5_gcd_15 (lv_at hl 3 rfl) ?_
      refine lv_lrem hx hb dX5_gcd_17 c_5 ?_
      refine lv_lstore (lv' := [(8, .long ((lN (gP ua ub k).1) - (lN (gP ua ub k).1) / (lN (gP ua ub k).2) * (lN (gP ua ub k).2))), (0, .long (lN ua)), (2, .long (lN ub)), (4, .long (lN (gP ua ub k).1)), (6, .long (lN (gP ua ub k).2))]) hx hb dX5_gcd_18 hl (by decide) rfl (fun ls hl => ?_)
      refine lv_lload hx hb dX5_gcd_20 (lv_at hl 4 rfl) ?_
      refine lv_lstore (lv' := [(4, .long (lN (gP ua ub k).2)), (8, .long ((lN (gP ua ub k).1) - (lN (gP ua ub k).1) / (lN (gP ua ub k).2) * (lN (gP ua ub k).2))), (0, .long (lN ua)), (2, .long (lN ub)), (6, .long (lN (gP ua ub k).2))]) hx hb dX5_gcd_22 hl (by decide) rfl (fun ls hl => ?_)
      refine lv_lload hx hb dX5_gcd_24 (lv_at hl 1 rfl) ?_
      refine lv_lstore (lv' := [(6, .long ((lN (gP ua ub k).1) - (lN (gP ua ub k).1) / (lN (gP ua ub k).2) * (lN (gP ua ub k).2))), (4, .long (lN (gP ua ub k).2)), (8, .long ((lN (gP ua ub k).1) - (lN (gP ua ub k).1) / (lN (gP ua ub k).2) * (lN (gP ua ub k).2))), (0, .long (lN ua)), (2, .long (lN ub))]) hx hb dX5_gcd_26 hl (by decide) rfl (fun ls hl => ?_)
      refine lv_goto (tgt := 6) hx hb dX5_gcd_28 (by decide) ?_
      have h_6 : (lN (gP ua ub k).2) = (lN (gP ua ub (k + 1)).1) := rfl
      have h_7 : ((lN (gP ua ub k).1) - (lN (gP ua ub k).1) / (lN (gP ua ub k).2) * (lN (gP ua ub k).2)) = (lN (gP ua ub (k + 1)).2) := (lN_rem hE.2.1 hE.2.2.1 c_5)
      exact ih _ ⟨(lv_cast (lv_sub (l' := [(0, .long (lN ua)), (2, .long (lN ub)), (4, .long (lN (gP ua ub k).2)), (6, .long ((lN (gP ua ub k).1) - (lN (gP ua ub k).1) / (lN (gP ua ub k).2) * (lN (gP ua ub k).2)))]) hl [3, 4, 1, 0] rfl) (cg2 (fun z6 z7 => [(0, .long (lN ua)), (2, .long (lN ub)), (4, .long z6), (6, .long z7)]) h_6 h_7)), (GI_s hE (fun h9 => c_5 ((lN_0 hE.2.2.1).mpr h9)))⟩
set_option maxHeartbeats 4000000 in
set_option maxRecDepth 100000 in
/-- X4_isLess -/
theorem c_X4_isLess (l : Launch)  (ua : Nat) (ub : Nat) (uc : Nat) (ud : Nat) (ha : ua < 2 ^ 63) (hb2 : ub < 2 ^ 63) (hc2 : uc < 2 ^ 63) (hd2 : ud < 2 ^ 63) (hb0 : 0 < ub) (hd0 : 0 < ud) : Met l yX4_isLess wsX4_isLess ({ frames := 0, cells := 0, slots := 0, locals := 0 }) (va_Pc [.long (lN ua), .long (lN ub), .long (lN uc), .long (lN ud)] (fun _ => True)) (vp_Si (fun r => r = (bI (decide (ua * ud < uc * ub))))) 0 0 (fun _ => False) := by
  refine Met.ofW (cc := cX4_isLess) (maxL := 25) (ret := (some .boolean)) (by decide) rfl ?_
  intro p e s m args below meth c_ s₁ B hml hv
  obtain ⟨rfl, -⟩ := hv
  have hx := B.exec
  have hb := B.bytes
  have hr := B.returns
  have hts := atoms_spec (ws := wsX4_isLess) B.pre
  have hown : s.vm.findClass RX4 = some m.cls := findClass_of_methodNamed B.named
  have hlocks := B.notSynchronized
  have hl := lv_entry ([.long (lN ua), .long (lN ub), .long (lN uc), .long (lN ud)]) (n := 25) (Nat.le_of_ble_eq_true rfl)
  rw [lg_entry_eq]
  generalize (lg_sl ([.long (lN ua), .long (lN ub), .long (lN uc), .long (lN ud)]) ++ List.replicate (25 - (lg_sl ([.long (lN ua), .long (lN ub), .long (lN uc), .long (lN ud)])).length) Slot.unset).toArray = ls at hl ⊢
  have hl : lv_has ls 25 [(0, .long (lN ua)), (2, .long (lN ub)), (4, .long (lN uc)), (6, .long (lN ud))] := hl
  refine lv_lload_n hx hb dX4_isLess_0 rfl (lv_at hl 0 rfl) ?_
  refine lv_lstore (lv' := [(8, .long (lN ua)), (0, .long (lN ua)), (2, .long (lN ub)), (4, .long (lN uc)), (6, .long (lN ud))]) hx hb dX4_isLess_1 hl (by decide) rfl (fun ls hl => ?_)
  refine lv_lload_n hx hb dX4_isLess_3 rfl (lv_at hl 2 rfl) ?_
  refine lv_lstore (lv' := [(10, .long (lN ub)), (8, .long (lN ua)), (0, .long (lN ua)), (2, .long (lN ub)), (4, .long (lN uc)), (6, .long (lN ud))]) hx hb dX4_isLess_4 hl (by decide) rfl (fun ls hl => ?_)
  refine lv_lload hx hb dX4_isLess_6 (lv_at hl 4 rfl) ?_
  refine lv_lstore (lv' := [(12, .long (lN uc)), (10, .long (lN ub)), (8, .long (lN ua)), (0, .long (lN ua)), (2, .long (lN ub)), (4, .long (lN uc)), (6, .long (lN ud))]) hx hb dX4_isLess_8 hl (by decide) rfl (fun ls hl => ?_)
  refine lv_lload hx hb dX4_isLess_10 (lv_at hl 6 rfl) ?_
  refine lv_lstore (lv' := [(14, .long (lN ud)), (12, .long (lN uc)), (10, .long (lN ub)), (8, .long (lN ua)), (0, .long (lN ua)), (2, .long (lN ub)), (4, .long (lN uc)), (6, .long (lN ud))]) hx hb dX4_isLess_12 hl (by decide) rfl (fun ls hl => ?_)
  refine lv_iconst (v := 0) hx hb dX4_isLess_14 (by decide) ?_
  refine lv_istore (lv' := [(16, .int 0), (14, .long (lN ud)), (12, .long (lN uc)), (10, .long (lN ub)), (8, .long (lN ua)), (0, .long (lN ua)), (2, .long (lN ub)), (4, .long (lN uc)), (6, .long (lN ud))]) hx hb dX4_isLess_15 hl (by decide) rfl (fun ls hl => ?_)
  refine lpW (fun k ls => lv_has ls 25 [(0, .long (lN ua)), (2, .long (lN ub)), (4, .long (lN uc)), (6, .long (lN ud)), (8, .long (lN (sL ua ub uc ud k).1)), (10, .long (lN (sL ua ub uc ud k).2.1)), (12, .long (lN (sL ua ub uc ud k).2.2.1)), (14, .long (lN (sL ua ub uc ud k).2.2.2)), (16, .int (nI k))] ∧ (LI ua ub uc ud k (sL ua ub uc ud k).1 (sL ua ub uc ud k).2.1 (sL ua ub uc ud k).2.2.1 (sL ua ub uc ud k).2.2.2)) 200 0 (Nat.zero_le _) ls ⟨(show lv_has ls 25 [(0, .long (lN ua)), (2, .long (lN ub)), (4, .long (lN uc)), (6, .long (lN ud)), (8, .long (lN (sL ua ub uc ud 0).1)), (10, .long (lN (sL ua ub uc ud 0).2.1)), (12, .long (lN (sL ua ub uc ud 0).2.2.1)), (14, .long (lN (sL ua ub uc ud 0).2.2.2)), (16, .int (nI 0))] from lv_sub hl [5, 6, 7, 8, 4, 3, 2, 1, 0] rfl), (LI_0 ha hb2 hc2 hd2 hb0 hd0)⟩ ?_ ?_
  · intro ls ⟨hl, hE⟩
    have hl : lv_has ls 25 [(0, .long (lN ua)), (2, .long (lN ub)), (4, .long (lN uc)), (6, .long (lN ud)), (8, .long (lN (sL ua ub uc ud 200).1)), (10, .long (lN (sL ua ub uc ud 200).2.1)), (12, .long (lN (sL ua ub uc ud 200).2.2.1)), (14, .long (lN (sL ua ub uc ud 200).2.2.2)), (16, .int (nI 200))] := hl
    have hE : LI ua ub uc ud 200 (sL ua ub uc ud 200).1 (sL ua ub uc ud 200).2.1 (sL ua ub uc ud 200).2.2.1 (sL ua ub uc ud 200).2.2.2 := hE
    exact (LI_end hE).elim
  · intro k hk0 hk ih ls ⟨hl, hE⟩
    have hl : lv_has ls 25 [(0, .long (lN ua)), (2, .long (lN ub)), (4, .long (lN uc)), (6, .long (lN ud)), (8, .long (lN (sL ua ub uc ud k).1)), (10, .long (lN (sL ua ub uc ud k).2.1)), (12, .long (lN (sL ua ub uc ud k).2.2.1)), (14, .long (lN (sL ua ub uc ud k).2.2.2)), (16, .int (nI k))] := hl
    have hE : LI ua ub uc ud k (sL ua ub uc ud k).1 (sL ua ub uc ud k).2.1 (sL ua ub uc ud k).2.2.1 (sL ua ub uc ud k).2.2.2 := hE
    have d1 : lN (sL ua ub uc ud k).1 / lN (sL ua ub uc ud k).2.1 = lN ((sL ua ub uc ud k).1 / (sL ua ub uc ud k).2.1) := (pk_lDiv (hE.2.2.1.1) hE.1 (hE.2.2.1.2.1))
    have d2 : lN (sL ua ub uc ud k).2.2.1 / lN (sL ua ub uc ud k).2.2.2 = lN ((sL ua ub uc ud k).2.2.1 / (sL ua ub uc ud k).2.2.2) := (pk_lDiv (hE.2.2.1.2.2.1) hE.2.1 (hE.2.2.1.2.2.2))
    have v1 : (sL ua ub uc ud k).1 / (sL ua ub uc ud k).2.1 < 2 ^ 63 := Nat.lt_of_le_of_lt (Nat.div_le_self _ _) (hE.2.2.1.1)
    have v2 : (sL ua ub uc ud k).2.2.1 / (sL ua ub uc ud k).2.2.2 < 2 ^ 63 := Nat.lt_of_le_of_lt (Nat.div_le_self _ _) (hE.2.2.1.2.2.1)
    have r1 : lN (sL ua ub uc ud k).1 - lN (sL ua ub uc ud k).1 / lN (sL ua ub uc ud k).2.1 * lN (sL ua ub uc ud k).2.1 = lN ((sL ua ub uc ud k).1 % (sL ua ub uc ud k).2.1) := (lN_rem (hE.2.2.1.1) (hE.2.2.1.2.1) (lN_pos (hE.2.2.1.2.1) hE.1))
    have r2 : lN (sL ua ub uc ud k).2.2.1 - lN (sL ua ub uc ud k).2.2.1 / lN (sL ua ub uc ud k).2.2.2 * lN (sL ua ub uc ud k).2.2.2 = lN ((sL ua ub uc ud k).2.2.1 % (sL ua ub uc ud k).2.2.2) := (lN_rem (hE.2.2.1.2.2.1) (hE.2.2.1.2.2.2) (lN_pos (hE.2.2.1.2.2.2) hE.2.1))
    have w1 : (sL ua ub uc ud k).1 % (sL ua ub uc ud k).2.1 < 2 ^ 63 := Nat.lt_of_le_of_lt (Nat.mod_le _ _) (hE.2.2.1.1)
    have w2 : (sL ua ub uc ud k).2.2.1 % (sL ua ub uc ud k).2.2.2 < 2 ^ 63 := Nat.lt_of_le_of_lt (Nat.mod_le _ _) (hE.2.2.1.2.2.1)
    refine lv_iload hx hb dX4_isLess_17 (lv_at hl 8 rfl) ?_
    refine lv_sipush (v := 200) hx hb dX4_isLess_19 (by decide) ?_
    refine lv_icmp_ge (tgt := 138) hx hb dX4_isLess_22 (by decide) (fun c_1 => ?_) (fun c_1 => ?_)
    · exact absurd c_1 (nI_ge (b := 200) hk (by decide))
    · have c_2 := i_nle c_1
      refine lv_lload hx hb dX4_isLess_25 (lv_at hl 5 rfl) ?_
      refine lv_lconst (v := 0) hx hb dX4_isLess_27 (by decide) ?_
      refine W.lcmp hx hb dX4_isLess_28 ?_
      refine lv_if_le (tgt := 138) hx hb dX4_isLess_29 (by decide) (fun c_3 => ?_) (fun c_3 => ?_)
      · exact absurd ((lg_cmp_le _ _).mp c_3) (lN_npos (hE.2.2.1.2.1) hE.1)
      · have c_4 := (not_congr (lg_cmp_le _ _)).mp c_3
        have c_5 := i_nleL c_4
        refine lv_lload hx hb dX4_isLess_32 (lv_at hl 7 rfl) ?_
        refine lv_lconst (v := 0) hx hb dX4_isLess_34 (by decide) ?_
        refine W.lcmp hx hb dX4_isLess_35 ?_
        refine lv_if_le (tgt := 138) hx hb dX4_isLess_36 (by decide) (fun c_6 => ?_) (fun c_6 => ?_)
        · exact absurd ((lg_cmp_le _ _).mp c_6) (lN_npos (hE.2.2.1.2.2.2) hE.2.1)
        · have c_7 := (not_congr (lg_cmp_le _ _)).mp c_6
          have c_8 := i_nleL c_7
          refine lv_lload hx hb dX4_isLess_39 (lv_at hl 4 rfl) ?_
          refine lv_lload hx hb dX4_isLess_41 (lv_at hl 5 rfl) ?_
          refine lv_ldiv hx hb dX4_isLess_43 (lN_pos (hE.2.2.1.2.1) hE.1) ?_
          rw [d1]
          refine lv_lstore (lv' := [(17, .long (lN ((sL ua ub uc ud k).1 / (sL ua ub uc ud k).2.1))), (0, .long (lN ua)), (2, .long (lN ub)), (4, .long (lN uc)), (6, .long (lN ud)), (8, .long (lN (sL ua ub uc ud k).1)), (10, .long (lN (sL ua ub uc ud k).2.1)), (12, .long (lN (sL ua ub uc ud k).2.2.1)), (14, .long (lN (sL ua ub uc ud k).2.2.2)), (16, .int (nI k))]) hx hb dX4_isLess_44 hl (by decide) rfl (fun ls hl => ?_)
          refine lv_lload hx hb dX4_isLess_46 (lv_at hl 7 rfl) ?_
          refine lv_lload hx hb dX4_isLess_48 (lv_at hl 8 rfl) ?_
          refine lv_ldiv hx hb dX4_isLess_50 (lN_pos (hE.2.2.1.2.2.2) hE.2.1) ?_
          rw [d2]
          refine lv_lstore (lv' := [(19, .long (lN ((sL ua ub uc ud k).2.2.1 / (sL ua ub uc ud k).2.2.2))), (17, .long (lN ((sL ua ub uc ud k).1 / (sL ua ub uc ud k).2.1))), (0, .long (lN ua)), (2, .long (lN ub)), (4, .long (lN uc)), (6, .long (lN ud)), (8, .long (lN (sL ua ub uc ud k).1)), (10, .long (lN (sL ua ub uc ud k).2.1)), (12, .long (lN (sL ua ub uc ud k).2.2.1)), (14, .long (lN (sL ua ub uc ud k).2.2.2)), (16, .int (nI k))]) hx hb dX4_isLess_51 hl (by decide) rfl (fun ls hl => ?_)
          refine lv_lload hx hb dX4_isLess_53 (lv_at hl 1 rfl) ?_
          refine lv_lload hx hb dX4_isLess_55 (lv_at hl 0 rfl) ?_
          refine W.lcmp hx hb dX4_isLess_57 ?_
          refine lv_if_eq (tgt := 75) hx hb dX4_isLess_58 (by decide) (fun c_9 => ?_) (fun c_9 => ?_)
          · have c_10 := (lg_cmp_eq _ _).mp c_9
            refine lv_lload hx hb dX4_isLess_75 (lv_at hl 6 rfl) ?_
            refine lv_lload hx hb dX4_isLess_77 (lv_at hl 7 rfl) ?_
            refine lv_lrem hx hb dX4_isLess_79 (lN_pos (hE.2.2.1.2.1) hE.1) ?_
            rw [r1]
            refine lv_lstore (lv' := [(21, .long (lN ((sL ua ub uc ud k).1 % (sL ua ub uc ud k).2.1))), (19, .long (lN ((sL ua ub uc ud k).2.2.1 / (sL ua ub uc ud k).2.2.2))), (17, .long (lN ((sL ua ub uc ud k).1 / (sL ua ub uc ud k).2.1))), (0, .long (lN ua)), (2, .long (lN ub)), (4, .long (lN uc)), (6, .long (lN ud)), (8, .long (lN (sL ua ub uc ud k).1)), (10, .long (lN (sL ua ub uc ud k).2.1)), (12, .long (lN (sL ua ub uc ud k).2.2.1)), (14, .long (lN (sL ua ub uc ud k).2.2.2)), (16, .int (nI k))]) hx hb dX4_isLess_80 hl (by decide) rfl (fun ls hl => ?_)
            refine lv_lload hx hb dX4_isLess_82 (lv_at hl 9 rfl) ?_
            refine lv_lload hx hb dX4_isLess_84 (lv_at hl 10 rfl) ?_
            refine lv_lrem hx hb dX4_isLess_86 (lN_pos (hE.2.2.1.2.2.2) hE.2.1) ?_
            rw [r2]
            refine lv_lstore (lv' := [(23, .long (lN ((sL ua ub uc ud k).2.2.1 % (sL ua ub uc ud k).2.2.2))), (21, .long (lN ((sL ua ub uc ud k).1 % (sL ua ub uc ud k).2.1))), (19, .long (lN ((sL ua ub uc ud k).2.2.1 / (sL ua ub uc ud k).2.2.2))), (17, .long (lN ((sL ua ub uc ud k).1 / (sL ua ub uc ud k).2.1))), (0, .long (lN ua)), (2, .long (lN ub)), (4, .long (lN uc)), (6, .long (lN ud)), (8, .long (lN (sL ua ub uc ud k).1)), (10, .long (lN (sL ua ub uc ud k).2.1)), (12, .long (lN (sL ua ub uc ud k).2.2.1)), (14, .long (lN (sL ua ub uc ud k).2.2.2)), (16, .int (nI k))]) hx hb dX4_isLess_87 hl (by decide) rfl (fun ls hl => ?_)
            refine lv_lload hx hb dX4_isLess_89 (lv_at hl 1 rfl) ?_
            refine lv_lconst (v := 0) hx hb dX4_isLess_91 (by decide) ?_
            refine W.lcmp hx hb dX4_isLess_92 ?_
            refine lv_if_eq (tgt := 103) hx hb dX4_isLess_93 (by decide) (fun c_11 => ?_) (fun c_11 => ?_)
            · have c_12 := (lg_cmp_eq _ _).mp c_11
              refine lv_lload hx hb dX4_isLess_103 (lv_at hl 0 rfl) ?_
              refine lv_lconst (v := 0) hx hb dX4_isLess_105 (by decide) ?_
              refine W.lcmp hx hb dX4_isLess_106 ?_
              refine lv_if_le (tgt := 114) hx hb dX4_isLess_107 (by decide) (fun c_13 => ?_) (fun c_13 => ?_)
              · have c_14 := (lg_cmp_le _ _).mp c_13
                have c_15 := i_leL c_14
                refine lv_iconst (v := 0) hx hb dX4_isLess_114 (by decide) ?_
                exact W.zret (v := 0) hx hb hr rfl (fun t9 ht9 hW9 => ⟨0, rfl, (by rw [decide_eq_false (LI_zero hE ((pk_lEQ v1 v2).mp c_10) (lN_le0 w2 c_14))]; rfl), ht9⟩) (fun _ h => by cases h) dX4_isLess_115
              · have c_16 := (not_congr (lg_cmp_le _ _)).mp c_13
                have c_17 := i_nleL c_16
                refine lv_iconst (v := 1) hx hb dX4_isLess_110 (by decide) ?_
                refine lv_goto (tgt := 115) hx hb dX4_isLess_111 (by decide) ?_
                exact W.zret (v := 1) hx hb hr rfl (fun t9 ht9 hW9 => ⟨1, rfl, (by rw [decide_eq_true (LI_pos hE ((pk_lEQ v1 v2).mp c_10) ((lN_0 w1).mp c_12) (lN_nle0 c_16))]; rfl), ht9⟩) (fun _ h => by cases h) dX4_isLess_115
            · have c_18 := (not_congr (lg_cmp_eq _ _)).mp c_11
              refine lv_lload hx hb dX4_isLess_96 (lv_at hl 0 rfl) ?_
              refine lv_lconst (v := 0) hx hb dX4_isLess_98 (by decide) ?_
              refine W.lcmp hx hb dX4_isLess_99 ?_
              refine lv_if_ne (tgt := 116) hx hb dX4_isLess_100 (by decide) (fun c_19 => ?_) (fun c_19 => ?_)
              · have c_20 := (not_congr (lg_cmp_eq _ _)).mp c_19
                refine lv_lload hx hb dX4_isLess_116 (lv_at hl 11 rfl) ?_
                refine lv_lstore (lv' := [(8, .long (lN (sL ua ub uc ud k).2.2.2)), (23, .long (lN ((sL ua ub uc ud k).2.2.1 % (sL ua ub uc ud k).2.2.2))), (21, .long (lN ((sL ua ub uc ud k).1 % (sL ua ub uc ud k).2.1))), (19, .long (lN ((sL ua ub uc ud k).2.2.1 / (sL ua ub uc ud k).2.2.2))), (17, .long (lN ((sL ua ub uc ud k).1 / (sL ua ub uc ud k).2.1))), (0, .long (lN ua)), (2, .long (lN ub)), (4, .long (lN uc)), (6, .long (lN ud)), (10, .long (lN (sL ua ub uc ud k).2.1)), (12, .long (lN (sL ua ub uc ud k).2.2.1)), (14, .long (lN (sL ua ub uc ud k).2.2.2)), (16, .int (nI k))]) hx hb dX4_isLess_118 hl (by decide) rfl (fun ls hl => ?_)
                refine lv_lload hx hb dX4_isLess_120 (lv_at hl 9 rfl) ?_
                refine lv_lstore (lv' := [(12, .long (lN (sL ua ub uc ud k).2.1)), (8, .long (lN (sL ua ub uc ud k).2.2.2)), (23, .long (lN ((sL ua ub uc ud k).2.2.1 % (sL ua ub uc ud k).2.2.2))), (21, .long (lN ((sL ua ub uc ud k).1 % (sL ua ub uc ud k).2.1))), (19, .long (lN ((sL ua ub uc ud k).2.2.1 / (sL ua ub uc ud k).2.2.2))), (17, .long (lN ((sL ua ub uc ud k).1 / (sL ua ub uc ud k).2.1))), (0, .long (lN ua)), (2, .long (lN ub)), (4, .long (lN uc)), (6, .long (lN ud)), (10, .long (lN (sL ua ub uc ud k).2.1)), (14, .long (lN (sL ua ub uc ud k).2.2.2)), (16, .int (nI k))]) hx hb dX4_isLess_122 hl (by decide) rfl (fun ls hl => ?_)
                refine lv_lload hx hb dX4_isLess_124 (lv_at hl 2 rfl) ?_
                refine lv_lstore (lv' := [(10, .long (lN ((sL ua ub uc ud k).2.2.1 % (sL ua ub uc ud k).2.2.2))), (12, .long (lN (sL ua ub uc ud k).2.1)), (8, .long (lN (sL ua ub uc ud k).2.2.2)), (23, .long (lN ((sL ua ub uc ud k).2.2.1 % (sL ua ub uc ud k).2.2.2))), (21, .long (lN ((sL ua ub uc ud k).1 % (sL ua ub uc ud k).2.1))), (19, .long (lN ((sL ua ub uc ud k).2.2.1 / (sL ua ub uc ud k).2.2.2))), (17, .long (lN ((sL ua ub uc ud k).1 / (sL ua ub uc ud k).2.1))), (0, .long (lN ua)), (2, .long (lN ub)), (4, .long (lN uc)), (6, .long (lN ud)), (14, .long (lN (sL ua ub uc ud k).2.2.2)), (16, .int (nI k))]) hx hb dX4_isLess_126 hl (by decide) rfl (fun ls hl => ?_)
                refine lv_lload hx hb dX4_isLess_128 (lv_at hl 4 rfl) ?_
                refine lv_lstore (lv' := [(14, .long (lN ((sL ua ub uc ud k).1 % (sL ua ub uc ud k).2.1))), (10, .long (lN ((sL ua ub uc ud k).2.2.1 % (sL ua ub uc ud k).2.2.2))), (12, .long (lN (sL ua ub uc ud k).2.1)), (8, .long (lN (sL ua ub uc ud k).2.2.2)), (23, .long (lN ((sL ua ub uc ud k).2.2.1 % (sL ua ub uc ud k).2.2.2))), (21, .long (lN ((sL ua ub uc ud k).1 % (sL ua ub uc ud k).2.1))), (19, .long (lN ((sL ua ub uc ud k).2.2.1 / (sL ua ub uc ud k).2.2.2))), (17, .long (lN ((sL ua ub uc ud k).1 / (sL ua ub uc ud k).2.1))), (0, .long (lN ua)), (2, .long (lN ub)), (4, .long (lN uc)), (6, .long (lN ud)), (16, .int (nI k))]) hx hb dX4_isLess_130 hl (by decide) rfl (fun ls hl => ?_)
                refine lv_iinc (v := ((nI k) + 1)) (lv' := [(16, .int ((nI k) + 1)), (14, .long (lN ((sL ua ub uc ud k).1 % (sL ua ub uc ud k).2.1))), (10, .long (lN ((sL ua ub uc ud k).2.2.1 % (sL ua ub uc ud k).2.2.2))), (12, .long (lN (sL ua ub uc ud k).2.1)), (8, .long (lN (sL ua ub uc ud k).2.2.2)), (23, .long (lN ((sL ua ub uc ud k).2.2.1 % (sL ua ub uc ud k).2.2.2))), (21, .long (lN ((sL ua ub uc ud k).1 % (sL ua ub uc ud k).2.1))), (19, .long (lN ((sL ua ub uc ud k).2.2.1 / (sL ua ub uc ud k).2.2.2))), (17, .long (lN ((sL ua ub uc ud k).1 / (sL ua ub uc ud k).2.1))), (0, .long (lN ua)), (2, .long (lN ub)), (4, .long (lN uc)), (6, .long (lN ud))]) hx hb dX4_isLess_132 hl (k := 12) rfl rfl (by decide) rfl (fun ls hl => ?_)
                refine lv_goto (tgt := 17) hx hb dX4_isLess_135 (by decide) ?_
                have h_21 : (lN (sL ua ub uc ud k).2.2.2) = (lN (sL ua ub uc ud (k + 1)).1) := rfl
                have h_22 : (lN ((sL ua ub uc ud k).2.2.1 % (sL ua ub uc ud k).2.2.2)) = (lN (sL ua ub uc ud (k + 1)).2.1) := rfl
                have h_23 : (lN (sL ua ub uc ud k).2.1) = (lN (sL ua ub uc ud (k + 1)).2.2.1) := rfl
                have h_24 : (lN ((sL ua ub uc ud k).1 % (sL ua ub uc ud k).2.1)) = (lN (sL ua ub uc ud (k + 1)).2.2.2) := rfl
                have h_25 : ((nI k) + 1) = (nI (k + 1)) := (nI_1 _)
                exact ih _ ⟨(lv_cast (lv_sub (l' := [(0, .long (lN ua)), (2, .long (lN ub)), (4, .long (lN uc)), (6, .long (lN ud)), (8, .long (lN (sL ua ub uc ud k).2.2.2)), (10, .long (lN ((sL ua ub uc ud k).2.2.1 % (sL ua ub uc ud k).2.2.2))), (12, .long (lN (sL ua ub uc ud k).2.1)), (14, .long (lN ((sL ua ub uc ud k).1 % (sL ua ub uc ud k).2.1))), (16, .int ((nI k) + 1))]) hl [9, 10, 11, 12, 4, 2, 3, 1, 0] rfl) (cg5 (fun z21 z22 z23 z24 z25 => [(0, .long (lN ua)), (2, .long (lN ub)), (4, .long (lN uc)), (6, .long (lN ud)), (8, .long z21), (10, .long z22), (12, .long z23), (14, .long z24), (16, .int z25)]) h_21 h_22 h_23 h_24 h_25)), (LI_s hE ((pk_lEQ v1 v2).mp c_10) (fun h9 => c_18 ((lN_0 w1).mpr h9)) (fun h9 => c_20 ((lN_0 w2).mpr h9)))⟩
              · have c_26 := (lg_cmp_eq _ _).mp c_19
                refine lv_lload hx hb dX4_isLess_103 (lv_at hl 0 rfl) ?_
                refine lv_lconst (v := 0) hx hb dX4_isLess_105 (by decide) ?_
                refine W.lcmp hx hb dX4_isLess_106 ?_
                refine lv_if_le (tgt := 114) hx hb dX4_isLess_107 (by decide) (fun c_27 => ?_) (fun c_27 => ?_)
                · have c_28 := (lg_cmp_le _ _).mp c_27
                  have c_29 := i_leL c_28
                  refine lv_iconst (v := 0) hx hb dX4_isLess_114 (by decide) ?_
                  exact W.zret (v := 0) hx hb hr rfl (fun t9 ht9 hW9 => ⟨0, rfl, (by rw [decide_eq_false (LI_zero hE ((pk_lEQ v1 v2).mp c_10) (lN_le0 w2 c_28))]; rfl), ht9⟩) (fun _ h => by cases h) dX4_isLess_115
                · exact absurd (Int64.le_of_eq c_26) ((not_congr (lg_cmp_le _ _)).mp c_27)
          · have c_30 := (not_congr (lg_cmp_eq _ _)).mp c_9
            refine lv_lload hx hb dX4_isLess_61 (lv_at hl 1 rfl) ?_
            refine lv_lload hx hb dX4_isLess_63 (lv_at hl 0 rfl) ?_
            refine W.lcmp hx hb dX4_isLess_65 ?_
            refine lv_if_ge (tgt := 73) hx hb dX4_isLess_66 (by decide) (fun c_31 => ?_) (fun c_31 => ?_)
            · have c_32 := (lg_cmp_ge _ _).mp c_31
              have c_33 := i_leL c_32
              refine lv_iconst (v := 0) hx hb dX4_isLess_73 (by decide) ?_
              exact W.zret (v := 0) hx hb hr rfl (fun t9 ht9 hW9 => ⟨0, rfl, (by rw [decide_eq_false (LI_ge hE (Nat.lt_of_le_of_ne ((pk_lLE v2 v1).mp c_32) (fun h9 => c_30 (congrArg lN h9.symm))))]; rfl), ht9⟩) (fun _ h => by cases h) dX4_isLess_74
            · have c_34 := (not_congr (lg_cmp_ge _ _)).mp c_31
              have c_35 := i_nleL c_34
              refine lv_iconst (v := 1) hx hb dX4_isLess_69 (by decide) ?_
              refine lv_goto (tgt := 74) hx hb dX4_isLess_70 (by decide) ?_
              exact W.zret (v := 1) hx hb hr rfl (fun t9 ht9 hW9 => ⟨1, rfl, (by rw [decide_eq_true (LI_lt hE (Nat.lt_of_not_le (fun h9 => c_34 ((pk_lLE v2 v1).mpr h9))))]; rfl), ht9⟩) (fun _ h => by cases h) dX4_isLess_74
set_option maxHeartbeats 4000000 in
set_option maxRecDepth 100000 in
/-- X5_isLess -/
theorem c_X5_isLess (l : Launch)  (ua : Nat) (ub : Nat) (uc : Nat) (ud : Nat) (ha : ua < 2 ^ 63) (hb2 : ub < 2 ^ 63) (hc2 : uc < 2 ^ 63) (hd2 : ud < 2 ^ 63) (hb0 : 0 < ub) (hd0 : 0 < ud) : Met l yX5_isLess wsX5_isLess ({ frames := 0, cells := 0, slots := 0, locals := 0 }) (va_Pc [.long (lN ua), .long (lN ub), .long (lN uc), .long (lN ud)] (fun _ => True)) (vp_Si (fun r => r = (bI (decide (ua * ud < uc * ub))))) 0 0 (fun _ => False) := by
  refine Met.ofW (cc := cX5_isLess) (maxL := 22) (ret := (some .boolean)) (by decide) rfl ?_
  intro p e s m args below meth c_ s₁ B hml hv
  obtain ⟨rfl, -⟩ := hv
  have hx := B.exec
  have hb := B.bytes
  have hr := B.returns
  have hts := atoms_spec (ws := wsX5_isLess) B.pre
  have hown : s.vm.findClass RX5 = some m.cls := findClass_of_methodNamed B.named
  have hlocks := B.notSynchronized
  have hl := lv_entry ([.long (lN ua), .long (lN ub), .long (lN uc), .long (lN ud)]) (n := 22) (Nat.le_of_ble_eq_true rfl)
  rw [lg_entry_eq]
  generalize (lg_sl ([.long (lN ua), .long (lN ub), .long (lN uc), .long (lN ud)]) ++ List.replicate (22 - (lg_sl ([.long (lN ua), .long (lN ub), .long (lN uc), .long (lN ud)])).length) Slot.unset).toArray = ls at hl ⊢
  have hl : lv_has ls 22 [(0, .long (lN ua)), (2, .long (lN ub)), (4, .long (lN uc)), (6, .long (lN ud))] := hl
  refine lv_lload_n hx hb dX5_isLess_0 rfl (lv_at hl 0 rfl) ?_
  refine lv_lstore (lv' := [(8, .long (lN ua)), (0, .long (lN ua)), (2, .long (lN ub)), (4, .long (lN uc)), (6, .long (lN ud))]) hx hb dX5_isLess_1 hl (by decide) rfl (fun ls hl => ?_)
  refine lv_lload_n hx hb dX5_isLess_3 rfl (lv_at hl 2 rfl) ?_
  refine lv_lstore (lv' := [(10, .long (lN ub)), (8, .long (lN ua)), (0, .long (lN ua)), (2, .long (lN ub)), (4, .long (lN uc)), (6, .long (lN ud))]) hx hb dX5_isLess_4 hl (by decide) rfl (fun ls hl => ?_)
  refine lv_lload hx hb dX5_isLess_6 (lv_at hl 4 rfl) ?_
  refine lv_lstore (lv' := [(12, .long (lN uc)), (10, .long (lN ub)), (8, .long (lN ua)), (0, .long (lN ua)), (2, .long (lN ub)), (4, .long (lN uc)), (6, .long (lN ud))]) hx hb dX5_isLess_8 hl (by decide) rfl (fun ls hl => ?_)
  refine lv_lload hx hb dX5_isLess_10 (lv_at hl 6 rfl) ?_
  refine lv_lstore (lv' := [(14, .long (lN ud)), (12, .long (lN uc)), (10, .long (lN ub)), (8, .long (lN ua)), (0, .long (lN ua)), (2, .long (lN ub)), (4, .long (lN uc)), (6, .long (lN ud))]) hx hb dX5_isLess_12 hl (by decide) rfl (fun ls hl => ?_)
  refine lpW (fun k ls => lv_has ls 22 [(0, .long (lN ua)), (2, .long (lN ub)), (4, .long (lN uc)), (6, .long (lN ud)), (8, .long (lN (sL ua ub uc ud k).1)), (10, .long (lN (sL ua ub uc ud k).2.1)), (12, .long (lN (sL ua ub uc ud k).2.2.1)), (14, .long (lN (sL ua ub uc ud k).2.2.2))] ∧ (LI ua ub uc ud k (sL ua ub uc ud k).1 (sL ua ub uc ud k).2.1 (sL ua ub uc ud k).2.2.1 (sL ua ub uc ud k).2.2.2)) 200 0 (Nat.zero_le _) ls ⟨(show lv_has ls 22 [(0, .long (lN ua)), (2, .long (lN ub)), (4, .long (lN uc)), (6, .long (lN ud)), (8, .long (lN (sL ua ub uc ud 0).1)), (10, .long (lN (sL ua ub uc ud 0).2.1)), (12, .long (lN (sL ua ub uc ud 0).2.2.1)), (14, .long (lN (sL ua ub uc ud 0).2.2.2))] from lv_sub hl [4, 5, 6, 7, 3, 2, 1, 0] rfl), (LI_0 ha hb2 hc2 hd2 hb0 hd0)⟩ ?_ ?_
  · intro ls ⟨hl, hE⟩
    have hl : lv_has ls 22 [(0, .long (lN ua)), (2, .long (lN ub)), (4, .long (lN uc)), (6, .long (lN ud)), (8, .long (lN (sL ua ub uc ud 200).1)), (10, .long (lN (sL ua ub uc ud 200).2.1)), (12, .long (lN (sL ua ub uc ud 200).2.2.1)), (14, .long (lN (sL ua ub uc ud 200).2.2.2))] := hl
    have hE : LI ua ub uc ud 200 (sL ua ub uc ud 200).1 (sL ua ub uc ud 200).2.1 (sL ua ub uc ud 200).2.2.1 (sL ua ub uc ud 200).2.2.2 := hE
    exact (LI_end hE).elim
  · intro k hk0 hk ih ls ⟨hl, hE⟩
    have hl : lv_has ls 22 [(0, .long (lN ua)), (2, .long (lN ub)), (4, .long (lN uc)), (6, .long (lN ud)), (8, .long (lN (sL ua ub uc ud k).1)), (10, .long (lN (sL ua ub uc ud k).2.1)), (12, .long (lN (sL ua ub uc ud k).2.2.1)), (14, .long (lN (sL ua ub uc ud k).2.2.2))] := hl
    have hE : LI ua ub uc ud k (sL ua ub uc ud k).1 (sL ua ub uc ud k).2.1 (sL ua ub uc ud k).2.2.1 (sL ua ub uc ud k).2.2.2 := hE
    have d1 : lN (sL ua ub uc ud k).1 / lN (sL ua ub uc ud k).2.1 = lN ((sL ua ub uc ud k).1 / (sL ua ub uc ud k).2.1) := (pk_lDiv (hE.2.2.1.1) hE.1 (hE.2.2.1.2.1))
    have d2 : lN (sL ua ub uc ud k).2.2.1 / lN (sL ua ub uc ud k).2.2.2 = lN ((sL ua ub uc ud k).2.2.1 / (sL ua ub uc ud k).2.2.2) := (pk_lDiv (hE.2.2.1.2.2.1) hE.2.1 (hE.2.2.1.2.2.2))
    have v1 : (sL ua ub uc ud k).1 / (sL ua ub uc ud k).2.1 < 2 ^ 63 := Nat.lt_of_le_of_lt (Nat.div_le_self _ _) (hE.2.2.1.1)
    have v2 : (sL ua ub uc ud k).2.2.1 / (sL ua ub uc ud k).2.2.2 < 2 ^ 63 := Nat.lt_of_le_of_lt (Nat.div_le_self _ _) (hE.2.2.1.2.2.1)
    have r1 : lN (sL ua ub uc ud k).1 - lN (sL ua ub uc ud k).1 / lN (sL ua ub uc ud k).2.1 * lN (sL ua ub uc ud k).2.1 = lN ((sL ua ub uc ud k).1 % (sL ua ub uc ud k).2.1) := (lN_rem (hE.2.2.1.1) (hE.2.2.1.2.1) (lN_pos (hE.2.2.1.2.1) hE.1))
    have r2 : lN (sL ua ub uc ud k).2.2.1 - lN (sL ua ub uc ud k).2.2.1 / lN (sL ua ub uc ud k).2.2.2 * lN (sL ua ub uc ud k).2.2.2 = lN ((sL ua ub uc ud k).2.2.1 % (sL ua ub uc ud k).2.2.2) := (lN_rem (hE.2.2.1.2.2.1) (hE.2.2.1.2.2.2) (lN_pos (hE.2.2.1.2.2.2) hE.2.1))
    have w1 : (sL ua ub uc ud k).1 % (sL ua ub uc ud k).2.1 < 2 ^ 63 := Nat.lt_of_le_of_lt (Nat.mod_le _ _) (hE.2.2.1.1)
    have w2 : (sL ua ub uc ud k).2.2.1 % (sL ua ub uc ud k).2.2.2 < 2 ^ 63 := Nat.lt_of_le_of_lt (Nat.mod_le _ _) (hE.2.2.1.2.2.1)
    refine lv_lload hx hb dX5_isLess_14 (lv_at hl 4 rfl) ?_
    refine lv_lload hx hb dX5_isLess_16 (lv_at hl 5 rfl) ?_
    refine lv_ldiv hx hb dX5_isLess_18 (lN_pos (hE.2.2.1.2.1) hE.1) ?_
    rw [d1]
    refine lv_lload hx hb dX5_isLess_19 (lv_at hl 6 rfl) ?_
    refine lv_lload hx hb dX5_isLess_21 (lv_at hl 7 rfl) ?_
    refine lv_ldiv hx hb dX5_isLess_23 (lN_pos (hE.2.2.1.2.2.2) hE.2.1) ?_
    rw [d2]
    refine W.lcmp hx hb dX5_isLess_24 ?_
    refine lv_if_ne (tgt := 99) hx hb dX5_isLess_25 (by decide) (fun c_1 => ?_) (fun c_1 => ?_)
    · have c_2 := (not_congr (lg_cmp_eq _ _)).mp c_1
      refine lv_lload hx hb dX5_isLess_99 (lv_at hl 4 rfl) ?_
      refine lv_lload hx hb dX5_isLess_101 (lv_at hl 5 rfl) ?_
      refine lv_ldiv hx hb dX5_isLess_103 (lN_pos (hE.2.2.1.2.1) hE.1) ?_
      rw [d1]
      refine lv_lload hx hb dX5_isLess_104 (lv_at hl 6 rfl) ?_
      refine lv_lload hx hb dX5_isLess_106 (lv_at hl 7 rfl) ?_
      refine lv_ldiv hx hb dX5_isLess_108 (lN_pos (hE.2.2.1.2.2.2) hE.2.1) ?_
      rw [d2]
      refine W.lcmp hx hb dX5_isLess_109 ?_
      refine lv_if_ge (tgt := 117) hx hb dX5_isLess_110 (by decide) (fun c_3 => ?_) (fun c_3 => ?_)
      · have c_4 := (lg_cmp_ge _ _).mp c_3
        have c_5 := i_leL c_4
        refine lv_iconst (v := 0) hx hb dX5_isLess_117 (by decide) ?_
        exact W.zret (v := 0) hx hb hr rfl (fun t9 ht9 hW9 => ⟨0, rfl, (by rw [decide_eq_false (LI_ge hE (Nat.lt_of_le_of_ne ((pk_lLE v2 v1).mp c_4) (fun h9 => c_2 (congrArg lN h9.symm))))]; rfl), ht9⟩) (fun _ h => by cases h) dX5_isLess_118
      · have c_6 := (not_congr (lg_cmp_ge _ _)).mp c_3
        have c_7 := i_nleL c_6
        refine lv_iconst (v := 1) hx hb dX5_isLess_113 (by decide) ?_
        refine lv_goto (tgt := 118) hx hb dX5_isLess_114 (by decide) ?_
        exact W.zret (v := 1) hx hb hr rfl (fun t9 ht9 hW9 => ⟨1, rfl, (by rw [decide_eq_true (LI_lt hE (Nat.lt_of_not_le (fun h9 => c_6 ((pk_lLE v2 v1).mpr h9))))]; rfl), ht9⟩) (fun _ h => by cases h) dX5_isLess_118
    · have c_8 := (lg_cmp_eq _ _).mp c_1
      refine lv_lload hx hb dX5_isLess_28 (lv_at hl 4 rfl) ?_
      refine lv_lload hx hb dX5_isLess_30 (lv_at hl 5 rfl) ?_
      refine lv_lrem hx hb dX5_isLess_32 (lN_pos (hE.2.2.1.2.1) hE.1) ?_
      rw [r1]
      refine lv_lstore (lv' := [(16, .long (lN ((sL ua ub uc ud k).1 % (sL ua ub uc ud k).2.1))), (0, .long (lN ua)), (2, .long (lN ub)), (4, .long (lN uc)), (6, .long (lN ud)), (8, .long (lN (sL ua ub uc ud k).1)), (10, .long (lN (sL ua ub uc ud k).2.1)), (12, .long (lN (sL ua ub uc ud k).2.2.1)), (14, .long (lN (sL ua ub uc ud k).2.2.2))]) hx hb dX5_isLess_33 hl (by decide) rfl (fun ls hl => ?_)
      refine lv_lload hx hb dX5_isLess_35 (lv_at hl 7 rfl) ?_
      refine lv_lload hx hb dX5_isLess_37 (lv_at hl 8 rfl) ?_
      refine lv_lrem hx hb dX5_isLess_39 (lN_pos (hE.2.2.1.2.2.2) hE.2.1) ?_
      rw [r2]
      refine lv_lstore (lv' := [(18, .long (lN ((sL ua ub uc ud k).2.2.1 % (sL ua ub uc ud k).2.2.2))), (16, .long (lN ((sL ua ub uc ud k).1 % (sL ua ub uc ud k).2.1))), (0, .long (lN ua)), (2, .long (lN ub)), (4, .long (lN uc)), (6, .long (lN ud)), (8, .long (lN (sL ua ub uc ud k).1)), (10, .long (lN (sL ua ub uc ud k).2.1)), (12, .long (lN (sL ua ub uc ud k).2.2.1)), (14, .long (lN (sL ua ub uc ud k).2.2.2))]) hx hb dX5_isLess_40 hl (by decide) rfl (fun ls hl => ?_)
      refine lv_lload hx hb dX5_isLess_42 (lv_at hl 1 rfl) ?_
      refine lv_lconst (v := 0) hx hb dX5_isLess_44 (by decide) ?_
      refine W.lcmp hx hb dX5_isLess_45 ?_
      refine lv_if_eq (tgt := 56) hx hb dX5_isLess_46 (by decide) (fun c_9 => ?_) (fun c_9 => ?_)
      · have c_10 := (lg_cmp_eq _ _).mp c_9
        refine lv_lload hx hb dX5_isLess_56 (lv_at hl 1 rfl) ?_
        refine lv_lconst (v := 0) hx hb dX5_isLess_58 (by decide) ?_
        refine W.lcmp hx hb dX5_isLess_59 ?_
        refine lv_if_ne (tgt := 74) hx hb dX5_isLess_60 (by decide) (fun c_11 => ?_) (fun c_11 => ?_)
        · exact absurd c_10 ((not_congr (lg_cmp_eq _ _)).mp c_11)
        · have c_12 := (lg_cmp_eq _ _).mp c_11
          refine lv_lload hx hb dX5_isLess_63 (lv_at hl 0 rfl) ?_
          refine lv_lconst (v := 0) hx hb dX5_isLess_65 (by decide) ?_
          refine W.lcmp hx hb dX5_isLess_66 ?_
          refine lv_if_le (tgt := 74) hx hb dX5_isLess_67 (by decide) (fun c_13 => ?_) (fun c_13 => ?_)
          · have c_14 := (lg_cmp_le _ _).mp c_13
            have c_15 := i_leL c_14
            refine lv_iconst (v := 0) hx hb dX5_isLess_74 (by decide) ?_
            exact W.zret (v := 0) hx hb hr rfl (fun t9 ht9 hW9 => ⟨0, rfl, (by rw [decide_eq_false (LI_zero hE ((pk_lEQ v1 v2).mp c_8) (lN_le0 w2 c_14))]; rfl), ht9⟩) (fun _ h => by cases h) dX5_isLess_75
          · have c_16 := (not_congr (lg_cmp_le _ _)).mp c_13
            have c_17 := i_nleL c_16
            refine lv_iconst (v := 1) hx hb dX5_isLess_70 (by decide) ?_
            refine lv_goto (tgt := 75) hx hb dX5_isLess_71 (by decide) ?_
            exact W.zret (v := 1) hx hb hr rfl (fun t9 ht9 hW9 => ⟨1, rfl, (by rw [decide_eq_true (LI_pos hE ((pk_lEQ v1 v2).mp c_8) ((lN_0 w1).mp c_10) (lN_nle0 c_16))]; rfl), ht9⟩) (fun _ h => by cases h) dX5_isLess_75
      · have c_18 := (not_congr (lg_cmp_eq _ _)).mp c_9
        refine lv_lload hx hb dX5_isLess_49 (lv_at hl 0 rfl) ?_
        refine lv_lconst (v := 0) hx hb dX5_isLess_51 (by decide) ?_
        refine W.lcmp hx hb dX5_isLess_52 ?_
        refine lv_if_ne (tgt := 76) hx hb dX5_isLess_53 (by decide) (fun c_19 => ?_) (fun c_19 => ?_)
        · have c_20 := (not_congr (lg_cmp_eq _ _)).mp c_19
          refine lv_lload hx hb dX5_isLess_76 (lv_at hl 9 rfl) ?_
          refine lv_lstore (lv' := [(8, .long (lN (sL ua ub uc ud k).2.2.2)), (18, .long (lN ((sL ua ub uc ud k).2.2.1 % (sL ua ub uc ud k).2.2.2))), (16, .long (lN ((sL ua ub uc ud k).1 % (sL ua ub uc ud k).2.1))), (0, .long (lN ua)), (2, .long (lN ub)), (4, .long (lN uc)), (6, .long (lN ud)), (10, .long (lN (sL ua ub uc ud k).2.1)), (12, .long (lN (sL ua ub uc ud k).2.2.1)), (14, .long (lN (sL ua ub uc ud k).2.2.2))]) hx hb dX5_isLess_78 hl (by decide) rfl (fun ls hl => ?_)
          refine lv_lload hx hb dX5_isLess_80 (lv_at hl 2 rfl) ?_
          refine lv_lstore (lv' := [(14, .long (lN ((sL ua ub uc ud k).1 % (sL ua ub uc ud k).2.1))), (8, .long (lN (sL ua ub uc ud k).2.2.2)), (18, .long (lN ((sL ua ub uc ud k).2.2.1 % (sL ua ub uc ud k).2.2.2))), (16, .long (lN ((sL ua ub uc ud k).1 % (sL ua ub uc ud k).2.1))), (0, .long (lN ua)), (2, .long (lN ub)), (4, .long (lN uc)), (6, .long (lN ud)), (10, .long (lN (sL ua ub uc ud k).2.1)), (12, .long (lN (sL ua ub uc ud k).2.2.1))]) hx hb dX5_isLess_82 hl (by decide) rfl (fun ls hl => ?_)
          refine lv_lload hx hb dX5_isLess_84 (lv_at hl 8 rfl) ?_
          refine lv_lstore (lv' := [(20, .long (lN (sL ua ub uc ud k).2.1)), (14, .long (lN ((sL ua ub uc ud k).1 % (sL ua ub uc ud k).2.1))), (8, .long (lN (sL ua ub uc ud k).2.2.2)), (18, .long (lN ((sL ua ub uc ud k).2.2.1 % (sL ua ub uc ud k).2.2.2))), (16, .long (lN ((sL ua ub uc ud k).1 % (sL ua ub uc ud k).2.1))), (0, .long (lN ua)), (2, .long (lN ub)), (4, .long (lN uc)), (6, .long (lN ud)), (10, .long (lN (sL ua ub uc ud k).2.1)), (12, .long (lN (sL ua ub uc ud k).2.2.1))]) hx hb dX5_isLess_86 hl (by decide) rfl (fun ls hl => ?_)
          refine lv_lload hx hb dX5_isLess_88 (lv_at hl 3 rfl) ?_
          refine lv_lstore (lv' := [(10, .long (lN ((sL ua ub uc ud k).2.2.1 % (sL ua ub uc ud k).2.2.2))), (20, .long (lN (sL ua ub uc ud k).2.1)), (14, .long (lN ((sL ua ub uc ud k).1 % (sL ua ub uc ud k).2.1))), (8, .long (lN (sL ua ub uc ud k).2.2.2)), (18, .long (lN ((sL ua ub uc ud k).2.2.1 % (sL ua ub uc ud k).2.2.2))), (16, .long (lN ((sL ua ub uc ud k).1 % (sL ua ub uc ud k).2.1))), (0, .long (lN ua)), (2, .long (lN ub)), (4, .long (lN uc)), (6, .long (lN ud)), (12, .long (lN (sL ua ub uc ud k).2.2.1))]) hx hb dX5_isLess_90 hl (by decide) rfl (fun ls hl => ?_)
          refine lv_lload hx hb dX5_isLess_92 (lv_at hl 1 rfl) ?_
          refine lv_lstore (lv' := [(12, .long (lN (sL ua ub uc ud k).2.1)), (10, .long (lN ((sL ua ub uc ud k).2.2.1 % (sL ua ub uc ud k).2.2.2))), (20, .long (lN (sL ua ub uc ud k).2.1)), (14, .long (lN ((sL ua ub uc ud k).1 % (sL ua ub uc ud k).2.1))), (8, .long (lN (sL ua ub uc ud k).2.2.2)), (18, .long (lN ((sL ua ub uc ud k).2.2.1 % (sL ua ub uc ud k).2.2.2))), (16, .long (lN ((sL ua ub uc ud k).1 % (sL ua ub uc ud k).2.1))), (0, .long (lN ua)), (2, .long (lN ub)), (4, .long (lN uc)), (6, .long (lN ud))]) hx hb dX5_isLess_94 hl (by decide) rfl (fun ls hl => ?_)
          refine lv_goto (tgt := 14) hx hb dX5_isLess_96 (by decide) ?_
          have h_21 : (lN (sL ua ub uc ud k).2.2.2) = (lN (sL ua ub uc ud (k + 1)).1) := rfl
          have h_22 : (lN ((sL ua ub uc ud k).2.2.1 % (sL ua ub uc ud k).2.2.2)) = (lN (sL ua ub uc ud (k + 1)).2.1) := rfl
          have h_23 : (lN (sL ua ub uc ud k).2.1) = (lN (sL ua ub uc ud (k + 1)).2.2.1) := rfl
          have h_24 : (lN ((sL ua ub uc ud k).1 % (sL ua ub uc ud k).2.1)) = (lN (sL ua ub uc ud (k + 1)).2.2.2) := rfl
          exact ih _ ⟨(lv_cast (lv_sub (l' := [(0, .long (lN ua)), (2, .long (lN ub)), (4, .long (lN uc)), (6, .long (lN ud)), (8, .long (lN (sL ua ub uc ud k).2.2.2)), (10, .long (lN ((sL ua ub uc ud k).2.2.1 % (sL ua ub uc ud k).2.2.2))), (12, .long (lN (sL ua ub uc ud k).2.1)), (14, .long (lN ((sL ua ub uc ud k).1 % (sL ua ub uc ud k).2.1)))]) hl [7, 8, 9, 10, 4, 1, 0, 3] rfl) (cg4 (fun z21 z22 z23 z24 => [(0, .long (lN ua)), (2, .long (lN ub)), (4, .long (lN uc)), (6, .long (lN ud)), (8, .long z21), (10, .long z22), (12, .long z23), (14, .long z24)]) h_21 h_22 h_23 h_24)), (LI_s hE ((pk_lEQ v1 v2).mp c_8) (fun h9 => c_18 ((lN_0 w1).mpr h9)) (fun h9 => c_20 ((lN_0 w2).mpr h9)))⟩
        · have c_25 := (lg_cmp_eq _ _).mp c_19
          refine lv_lload hx hb dX5_isLess_56 (lv_at hl 1 rfl) ?_
          refine lv_lconst (v := 0) hx hb dX5_isLess_58 (by decide) ?_
          refine W.lcmp hx hb dX5_isLess_59 ?_
          refine lv_if_ne (tgt := 74) hx hb dX5_isLess_60 (by decide) (fun c_26 => ?_) (fun c_26 => ?_)
          · have c_27 := (not_congr (lg_cmp_eq _ _)).mp c_26
            refine lv_iconst (v := 0) hx hb dX5_isLess_74 (by decide) ?_
            exact W.zret (v := 0) hx hb hr rfl (fun t9 ht9 hW9 => ⟨0, rfl, (by rw [decide_eq_false (LI_zero hE ((pk_lEQ v1 v2).mp c_8) ((lN_0 w2).mp c_25))]; rfl), ht9⟩) (fun _ h => by cases h) dX5_isLess_75
          · exact absurd ((lg_cmp_eq _ _).mp c_26) c_18
