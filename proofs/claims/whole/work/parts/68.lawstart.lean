def wsNest : List Cond := [Cond.methodLinkNest RX1 21 yX4_isPart RX4, Cond.methodLinkNest RX2 49 yX4_hasBit RX4, Cond.methodLinkNest RX0 45 yX4_hasBit RX4, Cond.methodLinkNest RX4 18 yX0_init RX4, Cond.fieldLinkNest RX4 84 RX2 "sold" "[I" RX4, Cond.fieldLinkNest RX4 60 RX2 "landMonths" "[I" RX4, Cond.fieldLinkNest RX4 64 RX2 "landMiles" "[I" RX4, Cond.fieldLinkNest RX4 190 RX2 "size" "I" RX4, Cond.fieldLinkNest RX4 218 RX0 "part" "[I" RX4, Cond.fieldLinkNest RX4 221 RX0 "cost" "[I" RX4, Cond.fieldLinkNest RX4 215 RX0 "judged" "[I" RX4, Cond.fieldLinkNest RX4 94 RX0 "size" "I" RX4, Cond.fieldLinkNest RX4 150 RX1 "above" "[I" RX4, Cond.fieldLinkNest RX4 156 RX1 "maker" "[I" RX4, Cond.fieldLinkNest RX4 159 RX1 "share" "[I" RX4]
set_option maxRecDepth 20000 in
theorem li_wsNest : ∀ w ∈ wsNest, w ∈ lw_tbl := li_p wsNest [360, 314, 321, 79, 52, 56, 58, 60, 85, 89, 92, 94, 119, 121, 123] (by decide +kernel)
def wsArr : List Cond := [Cond.arrayClass .int, Cond.arrayOver (.array .long), Cond.arrayClass .long]
set_option maxRecDepth 20000 in
theorem li_wsArr : ∀ w ∈ wsArr, w ∈ lw_tbl := li_p wsArr [76, 138, 143] (by decide +kernel)
theorem va_D_l {A : Nat → Prop} {a b : va_W} (h : va_D A (a ++ b)) : va_D A a := ⟨fun i j p q hi hj hpq => h.1 i j p q (by rw [List.getElem?_append_left (List.getElem?_eq_some_iff.mp hi).1]; exact hi) (by rw [List.getElem?_append_left (List.getElem?_eq_some_iff.mp hj).1]; exact hj) hpq, fun k q hk => h.2 k q (by rw [List.getElem?_append_left (List.getElem?_eq_some_iff.mp hk).1]; exact hk)⟩
theorem ap_r {a b : va_W} {k : Nat} : (a ++ b)[a.length + k]? = b[k]? := by rw [List.getElem?_append_right (Nat.le_add_right _ _), Nat.add_sub_cancel_left]
theorem ap_l {a b : va_W} {k : Nat} {q : Nat × va_E} (h : a[k]? = some q) : (a ++ b)[k]? = some q := by rw [List.getElem?_append_left (List.getElem?_eq_some_iff.mp h).1]; exact h
theorem va_D_r {A : Nat → Prop} {a b : va_W} (h : va_D A (a ++ b)) : va_D A b := ⟨fun i j p q hi hj hpq => by
  have := h.1 (a.length + i) (a.length + j) p q (ap_r.trans hi) (ap_r.trans hj) hpq
  omega, fun k q hk => h.2 (a.length + k) q (ap_r.trans hk)⟩
theorem va_D_x {A : Nat → Prop} {a b : va_W} (h : va_D A (a ++ b)) {i j : Nat} {x y : Nat × va_E} (hx : a[i]? = some x) (hy : b[j]? = some y) (e : x.1 = y.1) : False := by
  have h1 := h.1 i (a.length + j) x y (ap_l hx) (ap_r.trans hy) e
  have h2 := (List.getElem?_eq_some_iff.mp hx).1
  omega
theorem va_D_swap {A : Nat → Prop} {a w m : va_W} (h : va_D A (a ++ (w ++ m))) : va_D A (a ++ (m ++ w)) := by
  refine va_D.app (va_D_l h) (va_D.app (va_D_r (va_D_r h)) (va_D_l (va_D_r h)) (fun i j x y hx hy e => va_D_x (va_D_r h) hy hx e.symm)) (fun i j x y hx hy e => ?_)
  rcases Nat.lt_or_ge j m.length with hj | hj
  · rw [List.getElem?_append_left hj] at hy
    exact va_D_x h hx (ap_r.trans hy) e
  · rw [List.getElem?_append_right hj] at hy
    exact va_D_x h hx (ap_l hy) e
theorem wW_q {q u : Nat → Nat} {cs : Nat → ClassId} (h : ∀ k, k < 200 → q k = u k) : wW q cs = wW u cs := by
  have e1 : (fun i => if i < 61 then some (q (50 + i)) else none) = (fun i => if i < 61 then some (u (50 + i)) else none) := funext fun i => by
    by_cases hi : i < 61
    · rw [if_pos hi, if_pos hi, h _ (by omega)]
    · rw [if_neg hi, if_neg hi]
  have e2 : (List.range 61).map (fun i => ((q (50 + i), .inl (cs 1, 61, .inr (.inl (fun j => lN (chs i j))))) : Nat × va_E)) = (List.range 61).map (fun i => ((u (50 + i), .inl (cs 1, 61, .inr (.inl (fun j => lN (chs i j))))) : Nat × va_E)) := List.map_congr_left (fun i hi => by rw [h _ (by have := List.mem_range.mp hi; omega)])
  show ([(q 4, .inr (3, [.ref (q 40)])), (q 40, .inl (cs 2, 61, .inr (.inr (.inr (.inr (fun i => if i < 61 then some (q (50 + i)) else none))))))] : va_W) ++ (List.range 61).map (fun i => ((q (50 + i), .inl (cs 1, 61, .inr (.inl (fun j => lN (chs i j))))) : Nat × va_E)) = _
  rw [e1, e2, h 4 (by decide), h 40 (by decide)]
set_option maxHeartbeats 4000000 in
set_option maxRecDepth 100000 in
/-- the law, from its entry -/
theorem whole_start {p : Program} {e : Env} {s : State} {m : MethodId} {below : List Frame} {meth : Method} {c : Code} (l : Launch) (hflags : l.flags = flags0) {b L : Nat} {xs : Nat → Int32} (hL : L ≤ 3072) (C0 : lw_At p s m meth c b L xs) : W p l e room_1 s m #[Value.ref b] below meth c s.heap [] 0 0 (lw_Z below #[Value.ref b] s) (entryFrame m ([Value.ref b] : List Value).toArray 4) := by
  obtain ⟨hx, hb, hr, hml, hown, hts0, hX, hbl, hlocks, hgv⟩ := id C0
  have hb : c.code = cL_law := hb
  have hown : s.vm.findClass RL = some m.cls := hown
  have hts : ∀ w ∈ wsL_law, w.before #[Value.ref b] s = true := fun w h => hts0 w (wsL_law_in w h)
  have hA : ∀ q : Nat, s.heap.size ≤ q → (fun q : Nat => s.heap.size ≤ q) q := fun _ h => h
  have hN : NN s := ⟨va_Nw.of rfl (hts0 _ (li_wsNest _ (List.mem_of_getElem? (i := 0) rfl))), va_Nw.of rfl (hts0 _ (li_wsNest _ (List.mem_of_getElem? (i := 1) rfl))), va_Nw.of rfl (hts0 _ (li_wsNest _ (List.mem_of_getElem? (i := 2) rfl))), va_Nw.of rfl (hts0 _ (li_wsNest _ (List.mem_of_getElem? (i := 3) rfl))), va_Nw.of rfl (hts0 _ (li_wsNest _ (List.mem_of_getElem? (i := 4) rfl))), va_Nw.of rfl (hts0 _ (li_wsNest _ (List.mem_of_getElem? (i := 5) rfl))), va_Nw.of rfl (hts0 _ (li_wsNest _ (List.mem_of_getElem? (i := 6) rfl))), va_Nw.of rfl (hts0 _ (li_wsNest _ (List.mem_of_getElem? (i := 7) rfl))), va_Nw.of rfl (hts0 _ (li_wsNest _ (List.mem_of_getElem? (i := 8) rfl))), va_Nw.of rfl (hts0 _ (li_wsNest _ (List.mem_of_getElem? (i := 9) rfl))), va_Nw.of rfl (hts0 _ (li_wsNest _ (List.mem_of_getElem? (i := 10) rfl))), va_Nw.of rfl (hts0 _ (li_wsNest _ (List.mem_of_getElem? (i := 11) rfl))), va_Nw.of rfl (hts0 _ (li_wsNest _ (List.mem_of_getElem? (i := 12) rfl))), va_Nw.of rfl (hts0 _ (li_wsNest _ (List.mem_of_getElem? (i := 13) rfl))), va_Nw.of rfl (hts0 _ (li_wsNest _ (List.mem_of_getElem? (i := 14) rfl)))⟩
  have hO : va_AOA .long s := va_AOA.of (hts0 (Cond.arrayOver (.array .long)) (li_wsArr _ (List.mem_of_getElem? (i := 1) rfl)))
  obtain ⟨d0, j0, kn0⟩ := u_known (C := RX0) (T := TX0) (N := 8) (n := 8) hts0 inX0 (hts0 (Cond.instantiable RX0 8) (li_wsL_law_r1 _ (List.mem_of_getElem? (i := 17) rfl)))
  obtain ⟨d1, j1, kn1⟩ := u_known (C := RX1) (T := TX1) (N := 3) (n := 3) hts0 inX1 (hts0 (Cond.instantiable RX1 3) (li_wsL_law_r1 _ (List.mem_of_getElem? (i := 21) rfl)))
  obtain ⟨d2, j2, kn2⟩ := u_known (C := RX2) (T := TX2) (N := 7) (n := 7) hts0 inX2 (hts0 (Cond.instantiable RX2 7) (li_wsL_law_r1 _ (List.mem_of_getElem? (i := 13) rfl)))
  obtain ⟨d3, j3, kn3⟩ := u_known (C := RX3) (T := TX3) (N := 1) (n := 1) hts0 inX3 (hts0 (Cond.instantiable RX3 1) (li_wsL_law_r2 _ (List.mem_of_getElem? (i := 1) rfl)))
  obtain ⟨d4, j4, kn4⟩ := u_known (C := RX4) (T := TX4) (N := 5) (n := 5) hts0 inX4 (hts0 (Cond.instantiable RX4 5) (li_wsL_law_r1 _ (List.mem_of_getElem? (i := 1) rfl)))
  obtain ⟨d5, j5, kn5⟩ := u_known (C := RX5) (T := TX5) (N := 21) (n := 21) hts0 inX5 (hts0 (Cond.instantiable RX5 21) (li_wsL_law_r1 _ (List.mem_of_getElem? (i := 4) rfl)))
  obtain ⟨a0, ka0, ca0, f0, g0, h0⟩ := Cond.arrayClass_spec (hts0 (Cond.arrayClass .int) (li_wsArr _ (List.mem_of_getElem? (i := 0) rfl)))
  obtain ⟨a1, ka1, ca1, f1, g1, h1⟩ := Cond.arrayClass_spec (hts0 (Cond.arrayClass .long) (li_wsArr _ (List.mem_of_getElem? (i := 2) rfl)))
  obtain ⟨ca2, a2, ka2, -, -, g2, h2, f2⟩ := aoa_spec (hts0 (Cond.arrayOver (.array .long)) (li_wsArr _ (List.mem_of_getElem? (i := 1) rfl)))
  obtain ⟨D, cs, hK⟩ : ∃ (D : va_G) (cs : Nat → ClassId), va_K D vwCl (ty3 cs) s := by
    refine ⟨(fun k => if k = 0 then d0 else if k = 1 then d1 else if k = 2 then d2 else if k = 3 then d3 else if k = 4 then d4 else d5, fun k => if k = 0 then j0 else if k = 1 then j1 else if k = 2 then j2 else if k = 3 then j3 else if k = 4 then j4 else j5), fun k => if k = 0 then a0 else if k = 1 then a1 else a2, fun k q hq => ?_, fun k q hq => ?_⟩
    · match k, hq with
      | 0, hq => cases hq; exact kn0
      | 1, hq => cases hq; exact kn1
      | 2, hq => cases hq; exact kn2
      | 3, hq => cases hq; exact kn3
      | 4, hq => cases hq; exact kn4
      | 5, hq => cases hq; exact kn5
      | k + 6, hq => simp [vwCl] at hq
    · match k, hq with
      | 0, hq => cases hq; exact ⟨fun N z => ⟨(fun k h => by cases h), ka0, g0, ca0, h0⟩, f0⟩
      | 1, hq => cases hq; exact ⟨fun N z => ⟨(fun k h => by cases h), ka1, g1, ca1, h1⟩, f1⟩
      | 2, hq => cases hq; exact ⟨fun N z => ⟨(fun k h => by cases h), ka2, g2, ca2, h2⟩, f2⟩
      | k + 3, hq => simp at hq
  clear kn0 kn1 kn2 kn3 kn4 kn5
  have hS : va_S (fun q : Nat => s.heap.size ≤ q) s.heap s.heap [] := va_S.rf
  have hP : va_P D vwCl [] s.heap := fun k q h => by simp at h
  have hD : va_D (fun q : Nat => s.heap.size ≤ q) [] := ⟨fun i j p q h => by simp at h, fun k q h => by simp at h⟩
  have hl := lv_entry ([.ref b]) (n := 4) (Nat.le_of_ble_eq_true rfl)
  rw [lg_entry_eq]
  generalize (lg_sl ([.ref b]) ++ List.replicate (4 - (lg_sl ([.ref b])).length) Slot.unset).toArray = ls at hl ⊢
  have hl : lv_has ls 4 [(0, .ref b)] := hl
  refine va_new (ci := 4) (fs := [.null, .null, .null, .null, .int 0]) (C := RX4) (T := TX4) (N := 5) hx hb hts0 inX4 tyX4 tyX4_ok hown (hts0 (Cond.classLink RL 7 RX4) (li_wsL_law_r1 _ (List.mem_of_getElem? (i := 0) rfl))) (hts0 (Cond.instantiable RX4 5) (li_wsL_law_r1 _ (List.mem_of_getElem? (i := 1) rfl))) (hts0 (Cond.initialized RX4) (li_wsL_law_r1 _ (List.mem_of_getElem? (i := 2) rfl))) hK hP hD hS hA rfl (fun j hj => by rcases (show j = 0 ∨ j = 1 ∨ j = 2 ∨ j = 3 ∨ j = 4 by omega) with rfl | rfl | rfl | rfl | rfl <;> rfl) (Nat.le_of_ble_eq_true rfl) (Nat.le_of_ble_eq_true rfl) dL_law_0 (fun b1 H hP hD hS => ?_)
  refine lv_dup hx hb dL_law_3 rfl ?_
  have hP : va_P D vwCl (([] : va_W) ++ [(b1, .inr (4, [.null, .null, .null, .null, .int 0]))]) H := hP
  have hD : va_D (fun q : Nat => s.heap.size ≤ q) (([] : va_W) ++ [(b1, .inr (4, [.null, .null, .null, .null, .int 0]))]) := hD
  refine ctJ (b := b1) (ci := 4) (kk := 0) (fs := [.null, .null, .null, .null, .int 0]) (w1 := fun u => (xW u cs FZ 0 0 1)) (wr := ([] : va_W)) (va_runI (As := []) (rest := [.ref b1]) ⟨hx, hb, hml, hown, hts⟩ (c_X4_init l D cs b1 H.size) (cwI 0 hts gL_law_X4_init rfl rfl rfl (hts0 (Cond.initialized RX4) (li_wsL_law_r1 _ (List.mem_of_getElem? (i := 2) rfl))) (hts0 (Cond.methodLink RL 9 yX4_init) (li_wsL_law_r1 _ (List.mem_of_getElem? (i := 6) rfl))) (hts0 (Cond.instanceMethod yX4_init) (li_wsL_law_r1 _ (List.mem_of_getElem? (i := 7) rfl))) rfl (by decide +kernel) ⟨Nat.le_of_ble_eq_true rfl, Nat.le_of_ble_eq_true rfl⟩) ⟨mpreA.blind, fun U hU hW => ⟨rfl, by rw [hU], by rw [hU]; exact va_P_r hP, va_K.moved hW.alike hK, NN.warm hW hN, va_D_1, va_AOA.moved hW.alike hO⟩⟩ rfl rfl hl.1 rfl (lv_room (Nat.le_of_ble_eq_true rfl)) dL_law_4 ⟨Nat.le_of_ble_eq_true rfl, Nat.le_of_ble_eq_true rfl⟩) hP hD hS hA (fun u1 H locs hu hPn hDn hSn => ?_)
  subst hu
  have hP := hPn
  have hD := hDn
  have hS := hSn
  clear hPn hDn hSn
  have hP : va_P D vwCl (([] : va_W) ++ (xW u1 cs FZ 0 0 1)) H := hP
  have hD : va_D (fun q : Nat => s.heap.size ≤ q) (([] : va_W) ++ (xW u1 cs FZ 0 0 1)) := hD
  have hP : va_P D vwCl (xW u1 cs FZ 0 0 1) H := hP
  have hD : va_D (fun q : Nat => s.heap.size ≤ q) (xW u1 cs FZ 0 0 1) := hD
  refine lv_astore_n (lv' := [(1, .ref (u1 0)), (0, .ref b)]) hx hb dL_law_7 rfl hl (by decide) rfl (fun ls hl => ?_)
  refine va_new (ci := 5) (fs := [.null, .null, .int 0, .null, .null, .null, .null, .int 0, .int 0, .null, .null, .null, .null, .null, .null, .null, .long 0, .long 0, .null, .null, .null]) (C := RX5) (T := TX5) (N := 21) hx hb hts0 inX5 tyX5 tyX5_ok hown (hts0 (Cond.classLink RL 10 RX5) (li_wsL_law_r1 _ (List.mem_of_getElem? (i := 3) rfl))) (hts0 (Cond.instantiable RX5 21) (li_wsL_law_r1 _ (List.mem_of_getElem? (i := 4) rfl))) (hts0 (Cond.initialized RX5) (li_wsL_law_r1 _ (List.mem_of_getElem? (i := 5) rfl))) hK hP hD hS hA rfl (fun j hj => by rcases (show j = 0 ∨ j = 1 ∨ j = 2 ∨ j = 3 ∨ j = 4 ∨ j = 5 ∨ j = 6 ∨ j = 7 ∨ j = 8 ∨ j = 9 ∨ j = 10 ∨ j = 11 ∨ j = 12 ∨ j = 13 ∨ j = 14 ∨ j = 15 ∨ j = 16 ∨ j = 17 ∨ j = 18 ∨ j = 19 ∨ j = 20 by omega) with rfl | rfl | rfl | rfl | rfl | rfl | rfl | rfl | rfl | rfl | rfl | rfl | rfl | rfl | rfl | rfl | rfl | rfl | rfl | rfl | rfl <;> rfl) (Nat.le_of_ble_eq_true rfl) (Nat.le_of_ble_eq_true rfl) dL_law_8 (fun b2 H hP hD hS => ?_)
  refine lv_dup hx hb dL_law_11 rfl ?_
  have hP : va_P D vwCl ((xW u1 cs FZ 0 0 1) ++ [(b2, .inr (5, [.null, .null, .int 0, .null, .null, .null, .null, .int 0, .int 0, .null, .null, .null, .null, .null, .null, .null, .long 0, .long 0, .null, .null, .null]))]) H := hP
  have hD : va_D (fun q : Nat => s.heap.size ≤ q) ((xW u1 cs FZ 0 0 1) ++ [(b2, .inr (5, [.null, .null, .int 0, .null, .null, .null, .null, .int 0, .int 0, .null, .null, .null, .null, .null, .null, .null, .long 0, .long 0, .null, .null, .null]))]) := hD
  refine ctJ (b := b2) (ci := 5) (kk := 200) (fs := [.null, .null, .int 0, .null, .null, .null, .null, .int 0, .int 0, .null, .null, .null, .null, .null, .null, .null, .long 0, .long 0, .null, .null, .null]) (w1 := fun u => (mW u cs FZ 0 0 1 0 0)) (wr := (xW u1 cs FZ 0 0 1)) (va_runI (As := []) (rest := [.ref b2]) ⟨hx, hb, hml, hown, hts⟩ (c_X5_init l D cs b2 H.size) (cwI 0 hts gL_law_X5_init rfl rfl rfl (hts0 (Cond.initialized RX5) (li_wsL_law_r1 _ (List.mem_of_getElem? (i := 5) rfl))) (hts0 (Cond.methodLink RL 12 yX5_init) (li_wsL_law_r3 _ (List.mem_of_getElem? (i := 19) rfl))) (hts0 (Cond.instanceMethod yX5_init) (li_wsL_law_r3 _ (List.mem_of_getElem? (i := 20) rfl))) rfl (by decide +kernel) ⟨Nat.le_of_ble_eq_true rfl, Nat.le_of_ble_eq_true rfl⟩) ⟨mpre.blind, fun U hU hW => ⟨rfl, by rw [hU], by rw [hU]; exact va_P_r hP, va_K.moved hW.alike hK, NN.warm hW hN, va_D_1⟩⟩ rfl rfl hl.1 rfl (lv_room (Nat.le_of_ble_eq_true rfl)) dL_law_12 ⟨Nat.le_of_ble_eq_true rfl, Nat.le_of_ble_eq_true rfl⟩) hP hD hS hA (fun u2 H locs hu hPn hDn hSn => ?_)
  subst hu
  have hP := hPn
  have hD := hDn
  have hS := hSn
  clear hPn hDn hSn
  have hP : va_P D vwCl ((xW u1 cs FZ 0 0 1) ++ (mW u2 cs FZ 0 0 1 0 0)) H := hP
  have hD : va_D (fun q : Nat => s.heap.size ≤ q) ((xW u1 cs FZ 0 0 1) ++ (mW u2 cs FZ 0 0 1 0 0)) := hD
  refine lv_astore_n (lv' := [(2, .ref (u2 200)), (1, .ref (u1 0)), (0, .ref b)]) hx hb dL_law_15 rfl hl (by decide) rfl (fun ls hl => ?_)
  refine lv_iconst (v := 0) hx hb dL_law_16 (by decide) ?_
  refine lv_istore_n (lv' := [(3, .int 0), (2, .ref (u2 200)), (1, .ref (u1 0)), (0, .ref b)]) hx hb dL_law_17 rfl hl (by decide) rfl (fun ls hl => ?_)
  refine W.widen (k := 100) (n := 9404) (Nat.le_of_ble_eq_true rfl) (Nat.le_of_ble_eq_true rfl) ?_
  have hw : wW (fun k => if k < 200 then u1 k else u2 k) cs = wW u1 cs := wW_q (fun k hk => if_pos hk)
  have e4 : x4W (fun k => if k < 200 then u1 k else u2 k) cs FZ 0 0 1 = x4W u1 cs FZ 0 0 1 := rfl
  have e5 : mW (fun k => if k < 200 then u1 k else u2 k) cs FZ 0 0 1 0 0 = mW u2 cs FZ 0 0 1 0 0 := rfl
  have ex : xW u1 cs FZ 0 0 1 ++ mW u2 cs FZ 0 0 1 0 0 = x4W u1 cs FZ 0 0 1 ++ (wW u1 cs ++ mW u2 cs FZ 0 0 1 0 0) := by
    show (x4W u1 cs FZ 0 0 1 ++ wW u1 cs) ++ mW u2 cs FZ 0 0 1 0 0 = _
    exact List.append_assoc _ _ _
  rw [ex] at hP hD
  have hPq : va_P D vwCl (LW (fun k => if k < 200 then u1 k else u2 k) cs FZ 0 0 1 0 0) H := by
    show va_P D vwCl (x4W _ cs FZ 0 0 1 ++ (mW _ cs FZ 0 0 1 0 0 ++ wW _ cs)) H
    rw [e4, e5, hw]
    exact va_P.app (va_P_l hP) (va_P.app (va_P_r (va_P_r hP)) (va_P_l (va_P_r hP)))
  have hDq : va_D (fun q : Nat => s.heap.size ≤ q) (LW (fun k => if k < 200 then u1 k else u2 k) cs FZ 0 0 1 0 0) := by
    show va_D (fun q : Nat => s.heap.size ≤ q) (x4W _ cs FZ 0 0 1 ++ (mW _ cs FZ 0 0 1 0 0 ++ wW _ cs))
    rw [e4, e5, hw]
    exact va_D_swap hD
  exact law_loop (q := fun k => if k < 200 then u1 k else u2 k) hx hb hr hlocks hml hown hts hX hbl hK hN hL (L + 1) 0 (Nat.zero_le L) (by omega) FZ 0 0 1 0 0 H _ inv_0 hPq hDq hS ls (lv_sub hl [3, 2, 1, 0] rfl)
