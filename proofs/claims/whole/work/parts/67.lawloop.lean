set_option maxHeartbeats 4000000 in
set_option maxRecDepth 100000 in
theorem law_loop {p : Program} {l : Launch} {e : Env} {s : State} {m : MethodId} {below : List Frame} {meth : Method} {c_ : Code} {D : va_G} {cs : Nat → ClassId} {q : Nat → Nat} {b L : Nat} {xs : Nat → Int32} (hx : p.tables.exec = Jvm.exec) (hb : c_.code = cL_law) (hr : meth.sig.returnType = ret) (hlocks : meth.locks = false) (hml : c_.maxLocals = 4) (hown : s.vm.findClass RL = some m.cls) (hts : ∀ w ∈ wsL_law, w.before #[Value.ref b] s = true) (hX : va_X b L xs s s.heap) (hbl : b < s.heap.size) (hK : va_K D vwCl (ty3 cs) s) (hN : NN s) (hL : L ≤ 3072) : ∀ (k i : Nat), i ≤ L → L + 1 ≤ i + k → ∀ (F : Nat → Nat → Int32) (n c : Nat) (g : Int32) (up lo : Int64) (H : Heap) (locs : List Loc), Inv F n c → va_P D vwCl (LW q cs F n c g up lo) H → va_D (fun k => s.heap.size ≤ k) (LW q cs F n c g up lo) → va_S (fun k => s.heap.size ≤ k) s.heap H locs → ∀ (ls : Array Slot), lv_has ls 4 [(0, .ref b), (1, .ref (q 0)), (2, .ref (q 200)), (3, .int (nI i))] → W p l e room_1 s m #[Value.ref b] below meth c_ H locs 100 9404 (lw_Z below #[Value.ref b] s) (F0 m 18 ls []) := by
  have hbA : ¬ (fun k : Nat => s.heap.size ≤ k) b := Nat.not_le.mpr hbl
  intro k
  induction k with
  | zero => intro i h1 h2; exact absurd h2 (by omega)
  | succ k ih =>
    intro i hi hk F n c g up lo H locs hI hP hD hS ls hl
    refine lv_iload_n hx hb dL_law_18 rfl (lv_at hl 3 rfl) ?_
    refine lv_aload_n hx hb dL_law_19 rfl (lv_at hl 0 rfl) ?_
    refine va_slen hx hb hX hbl hbA hS dL_law_20 ?_
    refine lv_bipush (v := 6) hx hb dL_law_21 (by decide) ?_
    refine lv_isub hx hb dL_law_23 ?_
    refine lv_icmp_gt (tgt := 977) hx hb dL_law_24 (by decide) (fun c_1 => ?_) (fun c_1 => ?_)
    · refine lv_iconst (v := 1) hx hb dL_law_977 (by decide) ?_
      refine va_forget (fun q hq => hS.2.2 q hq) ?_
      refine W.widen (k := 600000) (n := 7302250) (Nat.le_of_ble_eq_true rfl) (Nat.le_of_ble_eq_true rfl) ?_
      exact lw_ret hx hb hr hlocks dL_law_978
    · have hle : i + 6 ≤ L := by
        have h : nI i ≤ nI L - nI 6 := i_nlt c_1
        have e1 : (nI L - nI 6).toInt = (nI L).toInt - (nI 6).toInt := by rw [pk_sub_toInt (by omega) (by decide), nI_toInt (by omega), nI_toInt (by decide)]
        rw [Int32.le_iff_toInt_le, e1, nI_toInt (by omega), nI_toInt (by omega), nI_toInt (by decide)] at h
        omega
      refine lv_aload_n hx hb dL_law_27 rfl (lv_at hl 0 rfl) ?_
      refine lv_iload_n hx hb dL_law_28 rfl (lv_at hl 3 rfl) ?_
      refine va_sld hx hb hX hbl hbA hS (vp_in_nI (by omega) (by omega)) dL_law_29 ?_
      refine lv_bipush (v := 31) hx hb dL_law_30 (by decide) ?_
      refine lv_iand hx hb dL_law_32 ?_
      have hF : LFix p s m meth c_ D cs q b L xs i ls := ⟨hx, hb, hml, hown, hts, hX, hbl, hK, hN, hle, hL, hl⟩
      have hC : LCont p l e s m b below meth c_ D cs q ls := by
        intro F n c g up lo H locs hI hP hD hS
        refine lv_iinc (v := nI i + 6) (lv' := [(3, .int (nI i + 6)), (0, .ref b), (1, .ref (q 0)), (2, .ref (q 200))]) hx hb dL_law_971 hl (k := 3) rfl rfl (by decide) rfl (fun ls hl => ?_)
        refine lv_goto (tgt := 18) hx hb dL_law_974 (by decide) ?_
        have e6 : nI i + 6 = nI (i + 6) := by rw [show (6 : Int32) = nI 6 from rfl, nI_add]
        rw [e6] at hl
        exact ih (i + 6) hle (by omega) F n c g up lo H locs hI hP hD hS ls (lv_sub hl [1, 2, 3, 0] rfl)
      generalize (xs (nI i).toNatClampNeg &&& 31) = w
      rcases Classical.em (w = 0) with w_0 | w_0
      · subst w_0
        refine lv_tableIn (tgt := 140) hx hb dL_law_33 (by decide) (by decide) (off := 107) (by decide) (by decide) ?_
        exact lw_thing hF hC hI hP hD hS
      rcases Classical.em (w = 1) with w_1 | w_1
      · subst w_1
        refine lv_tableIn (tgt := 193) hx hb dL_law_33 (by decide) (by decide) (off := 160) (by decide) (by decide) ?_
        exact lw_promise hF hC hI hP hD hS
      rcases Classical.em (w = 2) with w_2 | w_2
      · subst w_2
        refine lv_tableIn (tgt := 236) hx hb dL_law_33 (by decide) (by decide) (off := 203) (by decide) (by decide) ?_
        exact lw_again hF hC hI hP hD hS
      rcases Classical.em (w = 3) with w_3 | w_3
      · subst w_3
        refine lv_tableIn (tgt := 259) hx hb dL_law_33 (by decide) (by decide) (off := 226) (by decide) (by decide) ?_
        exact lw_promised hF hC hI hP hD hS
      rcases Classical.em (w = 4) with w_4 | w_4
      · subst w_4
        refine lv_tableIn (tgt := 292) hx hb dL_law_33 (by decide) (by decide) (off := 259) (by decide) (by decide) ?_
        exact lw_last hF hC hI hP hD hS
      rcases Classical.em (w = 5) with w_5 | w_5
      · subst w_5
        refine lv_tableIn (tgt := 315) hx hb dL_law_33 (by decide) (by decide) (off := 282) (by decide) (by decide) ?_
        exact lw_claim hF hC hI hP hD hS
      rcases Classical.em (w = 6) with w_6 | w_6
      · subst w_6
        refine lv_tableIn (tgt := 378) hx hb dL_law_33 (by decide) (by decide) (off := 345) (by decide) (by decide) ?_
        exact lw_about hF hC hI hP hD hS
      rcases Classical.em (w = 7) with w_7 | w_7
      · subst w_7
        refine lv_tableIn (tgt := 411) hx hb dL_law_33 (by decide) (by decide) (off := 378) (by decide) (by decide) ?_
        exact lw_table hF hC hI hP hD hS
      rcases Classical.em (w = 8) with w_8 | w_8
      · subst w_8
        refine lv_tableIn (tgt := 454) hx hb dL_law_33 (by decide) (by decide) (off := 421) (by decide) (by decide) ?_
        exact lw_exposed hF hC hI hP hD hS
      rcases Classical.em (w = 9) with w_9 | w_9
      · subst w_9
        refine lv_tableIn (tgt := 487) hx hb dL_law_33 (by decide) (by decide) (off := 454) (by decide) (by decide) ?_
        exact lw_rate hF hC hI hP hD hS
      rcases Classical.em (w = 10) with w_10 | w_10
      · subst w_10
        refine lv_tableIn (tgt := 530) hx hb dL_law_33 (by decide) (by decide) (off := 497) (by decide) (by decide) ?_
        exact lw_delays hF hC hI hP hD hS
      rcases Classical.em (w = 11) with w_11 | w_11
      · subst w_11
        refine lv_tableIn (tgt := 563) hx hb dL_law_33 (by decide) (by decide) (off := 530) (by decide) (by decide) ?_
        exact lw_undone hF hC hI hP hD hS
      rcases Classical.em (w = 12) with w_12 | w_12
      · subst w_12
        refine lv_tableIn (tgt := 596) hx hb dL_law_33 (by decide) (by decide) (off := 563) (by decide) (by decide) ?_
        exact lw_chance hF hC hI hP hD hS
      rcases Classical.em (w = 13) with w_13 | w_13
      · subst w_13
        refine lv_tableIn (tgt := 650) hx hb dL_law_33 (by decide) (by decide) (off := 617) (by decide) (by decide) ?_
        exact lw_oddest hF hC hI hP hD hS
      rcases Classical.em (w = 14) with w_14 | w_14
      · subst w_14
        refine lv_tableIn (tgt := 683) hx hb dL_law_33 (by decide) (by decide) (off := 650) (by decide) (by decide) ?_
        exact lw_under hF hC hI hP hD hS
      rcases Classical.em (w = 15) with w_15 | w_15
      · subst w_15
        refine lv_tableIn (tgt := 716) hx hb dL_law_33 (by decide) (by decide) (off := 683) (by decide) (by decide) ?_
        exact lw_maker hF hC hI hP hD hS
      rcases Classical.em (w = 16) with w_16 | w_16
      · subst w_16
        refine lv_tableIn (tgt := 759) hx hb dL_law_33 (by decide) (by decide) (off := 726) (by decide) (by decide) ?_
        exact lw_payer hF hC hI hP hD hS
      rcases Classical.em (w = 17) with w_17 | w_17
      · subst w_17
        refine lv_tableIn (tgt := 782) hx hb dL_law_33 (by decide) (by decide) (off := 749) (by decide) (by decide) ?_
        exact lw_pays hF hC hI hP hD hS
      rcases Classical.em (w = 18) with w_18 | w_18
      · subst w_18
        refine lv_tableIn (tgt := 805) hx hb dL_law_33 (by decide) (by decide) (off := 772) (by decide) (by decide) ?_
        exact lw_left hF hC hI hP hD hS
      rcases Classical.em (w = 19) with w_19 | w_19
      · subst w_19
        refine lv_tableIn (tgt := 818) hx hb dL_law_33 (by decide) (by decide) (off := 785) (by decide) (by decide) ?_
        exact lw_called hF hC hI hP hD hS
      rcases Classical.em (w = 20) with w_20 | w_20
      · subst w_20
        refine lv_tableIn (tgt := 871) hx hb dL_law_33 (by decide) (by decide) (off := 838) (by decide) (by decide) ?_
        exact lw_calledAt hF hC hI hP hD hS
      rcases Classical.em (w = 21) with w_21 | w_21
      · subst w_21
        refine lv_tableIn (tgt := 934) hx hb dL_law_33 (by decide) (by decide) (off := 901) (by decide) (by decide) ?_
        exact lw_count hF hC hI hP hD hS
      rcases Classical.em (w = 22) with w_22 | w_22
      · subst w_22
        refine lv_tableIn (tgt := 957) hx hb dL_law_33 (by decide) (by decide) (off := 924) (by decide) (by decide) ?_
        exact lw_digest hF hC hI hP hD hS
      refine lv_tableOut (tgt := 971) hx hb dL_law_33 (sw_out (lo := 0) (hi := 22) (by decide) (by decide) (by intro j h1 h2; rcases (by omega : j = 0 ∨ j = 1 ∨ j = 2 ∨ j = 3 ∨ j = 4 ∨ j = 5 ∨ j = 6 ∨ j = 7 ∨ j = 8 ∨ j = 9 ∨ j = 10 ∨ j = 11 ∨ j = 12 ∨ j = 13 ∨ j = 14 ∨ j = 15 ∨ j = 16 ∨ j = 17 ∨ j = 18 ∨ j = 19 ∨ j = 20 ∨ j = 21 ∨ j = 22) with rfl | rfl | rfl | rfl | rfl | rfl | rfl | rfl | rfl | rfl | rfl | rfl | rfl | rfl | rfl | rfl | rfl | rfl | rfl | rfl | rfl | rfl | rfl <;> assumption)) (by decide) ?_
      exact hC F n c g up lo H locs hI hP hD hS
