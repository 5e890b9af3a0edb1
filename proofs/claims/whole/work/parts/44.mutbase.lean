/-! changes in place -/
def setAll : va_W → List Nat → va_W → va_W
  | ws, i :: is, x :: xs => setAll (ws.set i x) is xs
  | ws, _, _ => ws
theorem setAll_fst : ∀ (is : List Nat) (w1 ws : va_W), (∀ (j i : Nat) (x : Nat × va_E), is[j]? = some i → w1[j]? = some x → ∃ q, ws[i]? = some q ∧ q.1 = x.1) → (setAll ws is w1).map Prod.fst = ws.map Prod.fst
  | [], w1, ws, _ => by cases w1 <;> rfl
  | i :: is, [], ws, _ => rfl
  | i :: is, x :: xs, ws, h => by
    obtain ⟨q, hq, e⟩ := h 0 i x rfl rfl
    have hl := (List.getElem?_eq_some_iff.mp hq).1
    have hm : (ws.set i x).map Prod.fst = ws.map Prod.fst := by
      apply List.ext_getElem?
      intro k
      rw [List.getElem?_map, List.getElem?_map]
      by_cases hk : i = k
      · subst hk; rw [List.getElem?_set_self hl, hq]; simp [e]
      · rw [List.getElem?_set_ne hk]
    show (setAll (ws.set i x) is xs).map Prod.fst = _
    rw [setAll_fst is xs (ws.set i x) (fun j i2 y h1 h2 => ?_), hm]
    obtain ⟨q2, hq2, e2⟩ := h (j + 1) i2 y h1 h2
    by_cases hk : i = i2
    · subst hk
      rw [hq2] at hq
      cases hq
      exact ⟨x, List.getElem?_set_self hl, by rw [← e]; exact e2⟩
    · exact ⟨q2, by rw [List.getElem?_set_ne hk]; exact hq2, e2⟩
theorem setAll_get : ∀ (is : List Nat) (w1 ws : va_W) (k : Nat) (q : Nat × va_E), (setAll ws is w1)[k]? = some q → (∃ j : Nat, is[j]? = some k ∧ w1[j]? = some q) ∨ (ws[k]? = some q ∧ (k ∉ is ∨ w1.length < is.length))
  | [], w1, ws, k, q, h => Or.inr ⟨by cases w1 <;> exact h, Or.inl List.not_mem_nil⟩
  | i :: is, [], ws, k, q, h => Or.inr ⟨h, Or.inr (by simp)⟩
  | i :: is, x :: xs, ws, k, q, h => by
    rcases setAll_get is xs (ws.set i x) k q h with ⟨j, h1, h2⟩ | ⟨h1, h2⟩
    · exact Or.inl ⟨j + 1, h1, h2⟩
    · by_cases hk : i = k
      · subst hk
        have hl : i < (ws.set i x).length := (List.getElem?_eq_some_iff.mp h1).1
        rw [List.length_set] at hl
        rw [List.getElem?_set_self hl] at h1
        cases h1
        exact Or.inl ⟨0, rfl, rfl⟩
      · rw [List.getElem?_set_ne hk] at h1
        refine Or.inr ⟨h1, ?_⟩
        rcases h2 with h2 | h2
        · exact Or.inl (fun h3 => by rcases List.mem_cons.mp h3 with e | e; exact hk e.symm; exact h2 e)
        · exact Or.inr (by simp; exact h2)
theorem va_D_fst {A : Nat → Prop} {a b : va_W} (h : va_D A a) (e : b.map Prod.fst = a.map Prod.fst) : va_D A b := by
  have key : ∀ (k : Nat) (q : Nat × va_E), b[k]? = some q → ∃ q0, a[k]? = some q0 ∧ q0.1 = q.1 := by
    intro k q hk
    have h1 : (b.map Prod.fst)[k]? = some q.1 := by rw [List.getElem?_map, hk]; rfl
    rw [e, List.getElem?_map] at h1
    cases ha : a[k]? with
    | none => rw [ha] at h1; cases h1
    | some q0 => rw [ha] at h1; exact ⟨q0, rfl, Option.some.inj h1⟩
  refine ⟨fun i j x y hi hj hxy => ?_, fun k q hk => ?_⟩
  · obtain ⟨x0, h1, h2⟩ := key i x hi
    obtain ⟨y0, h3, h4⟩ := key j y hj
    exact h.1 i j x0 y0 h1 h3 (h2.trans (hxy.trans h4.symm))
  · obtain ⟨q0, h1, h2⟩ := key k q hk
    rw [← h2]; exact h.2 k q0 h1
theorem va_repl {A0 : Nat → Prop} {D : va_G} {cl : List vw_C} {ws wc w1 : va_W} {H H1 : Heap} (hP : va_P D cl ws H) (hD : va_D A0 ws) (isC : List Nat) (hC : isC.map (fun i => ws[i]?) = wc.map some) (hadr : w1.map Prod.fst = wc.map Prod.fst)
    (hk : ∀ q : Nat, q < H.size → ¬ va_A wc H.size q → H1[q]? = H[q]?) (hP1 : va_P D cl w1 H1) : va_P D cl (setAll ws isC w1) H1 ∧ va_D A0 (setAll ws isC w1) := by
  have hlen : wc.length = isC.length := by have := congrArg List.length hC; simpa using this.symm
  have hlen1 : w1.length = wc.length := by have := congrArg List.length hadr; simpa using this
  have at' : ∀ (j : Nat) (q : Nat × va_E), wc[j]? = some q → ∃ i, isC[j]? = some i ∧ ws[i]? = some q := by
    intro j q hq
    have h1 : (isC.map (fun i => ws[i]?))[j]? = some (some q) := by rw [hC, List.getElem?_map, hq]; rfl
    rw [List.getElem?_map] at h1
    cases hi : isC[j]? with
    | none => rw [hi] at h1; cases h1
    | some i => rw [hi] at h1; exact ⟨i, rfl, Option.some.inj h1⟩
  have w1c : ∀ (j : Nat) (x : Nat × va_E), w1[j]? = some x → ∃ q, wc[j]? = some q ∧ q.1 = x.1 := by
    intro j x hx
    have h1 : (w1.map Prod.fst)[j]? = some x.1 := by rw [List.getElem?_map, hx]; rfl
    rw [hadr, List.getElem?_map] at h1
    cases ha : wc[j]? with
    | none => rw [ha] at h1; cases h1
    | some q0 => rw [ha] at h1; exact ⟨q0, rfl, Option.some.inj h1⟩
  refine ⟨fun k q hq => ?_, va_D_fst hD (setAll_fst isC w1 ws (fun j i x h1 h2 => ?_))⟩
  · rcases setAll_get isC w1 ws k q hq with ⟨j, -, h2⟩ | ⟨h1, h2⟩
    · exact hP1 j q h2
    · have hni : k ∉ isC := by
        rcases h2 with h2 | h2
        · exact h2
        · omega
      refine (hP k q h1).kept (hk q.1 (hP k q h1).lt (fun h => ?_))
      rcases h with ⟨k2, e, h⟩ | h
      · obtain ⟨i, h3, h4⟩ := at' k2 (q.1, e) h
        have hij := hD.1 k i q (q.1, e) h1 h4 rfl
        subst hij
        exact hni (List.mem_of_getElem? h3)
      · have := (hP k q h1).lt
        omega
  · obtain ⟨q, hq, e⟩ := w1c j x h2
    obtain ⟨i2, h3, h4⟩ := at' j q hq
    rw [h1] at h3
    cases h3
    exact ⟨q, h4, e⟩
/-- the start of a method that changes its world -/
def mpre (D : va_G) (cs : Nat → ClassId) (ws : va_W) (sz : Nat) (U : State) : Prop := U.heap.size = sz ∧ va_P D vwCl ws U.heap ∧ va_K D vwCl (ty3 cs) U ∧ NN U ∧ va_D (fun _ => True) ws
theorem mpre.blind {D : va_G} {cs : Nat → ClassId} {ws : va_W} {sz : Nat} {av : List Value} : FrameBlind (va_Pc av (mpre D cs ws sz)) := by
  intro a U g mk h
  obtain ⟨h0, hz, hP, hK, hN, hD⟩ := h
  exact ⟨h0, hz, hP, va_K.moved (u := U) (U := U.calling g mk a) (Vm.Alike.refl U.vm) hK, NN.same (u := U) (U := U.calling g mk a) rfl hN, hD⟩
theorem va_D.free {A : Nat → Prop} {ws : va_W} (h : va_D A ws) : va_D (fun _ => True) ws := ⟨h.1, fun _ _ _ => trivial⟩
theorem va_sub_D {A0 : Nat → Prop} {ws wc : va_W} (hD : va_D A0 ws) (isC : List Nat) (hC : isC.map (fun i => ws[i]?) = wc.map some) (hn : va_nd isC = true) : va_D (fun _ => True) wc := by
  have at' : ∀ (j : Nat) (q : Nat × va_E), wc[j]? = some q → ∃ i, isC[j]? = some i ∧ ws[i]? = some q := by
    intro j q hq
    have h1 : (isC.map (fun i => ws[i]?))[j]? = some (some q) := by rw [hC, List.getElem?_map, hq]; rfl
    rw [List.getElem?_map] at h1
    cases hi : isC[j]? with
    | none => rw [hi] at h1; cases h1
    | some i => rw [hi] at h1; exact ⟨i, rfl, Option.some.inj h1⟩
  refine ⟨fun i j p q hi hj hpq => ?_, fun _ _ _ => trivial⟩
  obtain ⟨a, h1, h2⟩ := at' i p hi
  obtain ⟨b, h3, h4⟩ := at' j q hj
  have e := hD.1 a b p q h2 h4 hpq
  subst e
  exact va_nd_inj isC hn i j a h1 h3
section MU
variable {p : Program} {l : Launch} {e : Env} {R : Room} {s : State} {m : MethodId} {args : Array Value} {below : List Frame} {meth : Method} {c : Code} {H : Heap} {locs : List Loc} {cells slots : Nat} {Q : State → Prop}
variable {cc bytes : ByteArray} {pc nL maxL n index : Nat} {ls : Array Slot} {ret : Option FieldType} {Ts wy : List Cond} {rm : Room} {own C host : String} {y : MethodName} {b : Addr} {As rest st0 : List Value} {D : va_G} {cs : Nat → ClassId} {wc w1 ws : va_W} {ci N : Nat} {fs : List Value} {T : u_T} {A : Nat → Prop} {H0 : Heap}
theorem muVi {v : Int32} (S : CallFix p m c cc nL s args Ts own) (hM : Met l y wy rm (va_Pc (.ref b :: As) (mpre D cs wc H.size)) (va_Qi (fun r (_ : Unit) => r = v) (fun _ t => va_P D vwCl w1 t.heap) (va_A wc H.size)) 0 0 (va_A wc H.size)) (cw : CallW R s args own C index y bytes maxL ret wy rm 0 0 n) (hP : va_P D vwCl ws H) (hD : va_D A ws) (hS : va_S A H0 H locs) (hA : ∀ q, H0.size ≤ q → A q) (hK : va_K D vwCl (ty3 cs) s) (hN : NN s) (isC : List Nat) (hC : isC.map (fun i => ws[i]?) = wc.map some) (hn9 : va_nd isC = true) (hPc : va_P D vwCl wc H) (hadr : w1.map Prod.fst = wc.map Prod.fst) (q0 : Nat) (he : wc[q0]? = some (b, .inr (ci, fs))) (hc : vwCl[ci]? = some (C, T, N)) (hn : As.length = n) (hsize : ls.size = nL) (hst : st0 = As.reverse ++ .ref b :: rest) (hW : (rest.map fun v => v.category).sum ≤ 8) (hdg : decode cc pc = .ok (.invokevirtual index, 3)) (hcl : cells ≤ R.cells ∧ slots ≤ R.slots)
    (k : ∀ (H1 : Heap) (locs1 : List Loc), va_P D vwCl (setAll ws isC w1) H1 → va_D A (setAll ws isC w1) → va_S A H0 H1 locs1 → W p l e R s m args below meth c H1 locs1 cells slots Q (F0 m (pc + 3) ls (.int v :: rest))) : W p l e R s m args below meth c H locs cells slots Q (F0 m pc ls st0) := by
  subst hst
  have hF := va_free (wc := wc) hD hS hA isC hC
  refine va_calli (va_runV (g := F0 m pc ls (As.reverse ++ .ref b :: rest)) S hM cw ⟨mpre.blind, va_recv hK hPc hc he, fun U hU hW => ⟨rfl, by rw [hU], by rw [hU]; exact hPc, va_K.moved hW.alike hK, NN.warm hW hN, va_sub_D hD isC hC hn9⟩⟩ rfl hn hsize rfl (lv_room hW) hdg hcl) hS (fun q _ h => hF q h) hF (fun r u t H1 locs1 ht hvm hw hB hz1 hk1 hS1 => ?_)
  subst hw
  rw [ht] at hB
  obtain ⟨h1, h2⟩ := va_repl hP hD isC hC hadr hk1 hB
  exact k H1 locs1 h1 h2 hS1
theorem iastK {cl : List vw_C} {tys : List (ClassId × FieldType)} {a : Nat} (hexec : p.tables.exec = Jvm.exec) (hb : c.code = cc) (hK : va_K D cl tys s) (hP : va_P D cl ws H) (hD : va_D A ws) (hS : va_S A H0 H locs) (q0 t0 : Nat) {cA : ClassId} {n : Nat} {f : Nat → Int32} (ha : ws[q0]? = some (a, .inl (cA, n, .inl f))) (ht : tys[t0]? = some (cA, .int)) {i x : Int32} (j : Nat) (hin : vp_in i n) (hj : i.toNatClampNeg = j) (hdg : decode cc pc = .ok (.iastore, 1))
    (kk : ∀ (H1 : Heap) (locs1 : List Loc), va_P D cl (ws.set q0 (a, .inl (cA, n, .inl (upd f j x)))) H1 → va_D A (ws.set q0 (a, .inl (cA, n, .inl (upd f j x)))) → va_S A H0 H1 locs1 → W p l e R s m args below meth c H1 locs1 cells slots Q (F0 m (pc + 1) ls rest)) : W p l e R s m args below meth c H locs cells slots Q (F0 m pc ls (.int x :: .int i :: .ref a :: rest)) := by
  subst hj
  exact va_iast hexec hb hK hP hD hS q0 t0 ha ht hin hdg kk
theorem lastK {cl : List vw_C} {tys : List (ClassId × FieldType)} {a : Nat} (hexec : p.tables.exec = Jvm.exec) (hb : c.code = cc) (hK : va_K D cl tys s) (hP : va_P D cl ws H) (hD : va_D A ws) (hS : va_S A H0 H locs) (q0 t0 : Nat) {cA : ClassId} {n : Nat} {f : Nat → Int64} (ha : ws[q0]? = some (a, .inl (cA, n, .inr (.inl f)))) (ht : tys[t0]? = some (cA, .long)) {i : Int32} {x : Int64} (j : Nat) (hin : vp_in i n) (hj : i.toNatClampNeg = j) (hdg : decode cc pc = .ok (.lastore, 1))
    (kk : ∀ (H1 : Heap) (locs1 : List Loc), va_P D cl (ws.set q0 (a, .inl (cA, n, .inr (.inl (vp_updL f j x))))) H1 → va_D A (ws.set q0 (a, .inl (cA, n, .inr (.inl (vp_updL f j x))))) → va_S A H0 H1 locs1 → W p l e R s m args below meth c H1 locs1 cells slots Q (F0 m (pc + 1) ls rest)) : W p l e R s m args below meth c H locs cells slots Q (F0 m pc ls (.long x :: .int i :: .ref a :: rest)) := by
  subst hj
  exact va_last hexec hb hK hP hD hS q0 t0 ha ht hin hdg kk
theorem newI (hexec : p.tables.exec = Jvm.exec) (hb : c.code = cc) (harr : (Cond.arrayClass .int).before args s = true) (hK : va_K D vwCl (ty3 cs) s) (hP : va_P D vwCl ws H) (hD : va_D A ws) (hS : va_S A H0 H locs) (hA : ∀ q, H0.size ≤ q → A q) {n : Int32} (N' : Nat) (hn : ¬ n < 0) (hN : n.toNatClampNeg = N') (hbytes : N' * 4 ≤ 536870912) (hcells : cells + 1 ≤ R.cells) (hslots : slots + N' ≤ R.slots) (hdg : decode cc pc = .ok (.newarray .int, 2))
    (kk : ∀ (q : Nat) (H1 : Heap), va_P D vwCl (ws ++ [(q, .inl (cs 0, N', .inl (fun _ => 0)))]) H1 → va_D A (ws ++ [(q, .inl (cs 0, N', .inl (fun _ => 0)))]) → va_S A H0 H1 locs → W p l e R s m args below meth c H1 locs (cells + 1) (slots + N') Q (F0 m (pc + 2) ls (.ref q :: rest))) : W p l e R s m args below meth c H locs cells slots Q (F0 m pc ls (.int n :: rest)) := by
  refine va_newa (atype := .int) (ty := .int) (a0 := (N', .inl (fun _ => 0))) hexec hb harr rfl hK hP hD hS hA (fun _ => rfl) hn hN hbytes hcells hslots hdg (fun q cA H1 hK1 hP1 hD1 hS1 => ?_)
  have e1 : s.vm.findClass ("[" ++ (FieldType.int).toString) = some cA := (hK1.2 3 (cA, .int) rfl).2
  have e2 : s.vm.findClass ("[" ++ (FieldType.int).toString) = some (cs 0) := (hK.2 0 (cs 0, .int) rfl).2
  obtain rfl : cA = cs 0 := Option.some.inj (e1.symm.trans e2)
  exact kk q H1 hP1 hD1 hS1
theorem newL (hexec : p.tables.exec = Jvm.exec) (hb : c.code = cc) (harr : (Cond.arrayClass .long).before args s = true) (hK : va_K D vwCl (ty3 cs) s) (hP : va_P D vwCl ws H) (hD : va_D A ws) (hS : va_S A H0 H locs) (hA : ∀ q, H0.size ≤ q → A q) {n : Int32} (N' : Nat) (hn : ¬ n < 0) (hN : n.toNatClampNeg = N') (hbytes : N' * 8 ≤ 536870912) (hcells : cells + 1 ≤ R.cells) (hslots : slots + N' ≤ R.slots) (hdg : decode cc pc = .ok (.newarray .long, 2))
    (kk : ∀ (q : Nat) (H1 : Heap), va_P D vwCl (ws ++ [(q, .inl (cs 1, N', .inr (.inl (fun _ => 0))))]) H1 → va_D A (ws ++ [(q, .inl (cs 1, N', .inr (.inl (fun _ => 0))))]) → va_S A H0 H1 locs → W p l e R s m args below meth c H1 locs (cells + 1) (slots + N') Q (F0 m (pc + 2) ls (.ref q :: rest))) : W p l e R s m args below meth c H locs cells slots Q (F0 m pc ls (.int n :: rest)) := by
  refine va_newa (atype := .long) (ty := .long) (a0 := (N', .inr (.inl (fun _ => 0)))) hexec hb harr rfl hK hP hD hS hA (fun _ => rfl) hn hN hbytes hcells hslots hdg (fun q cA H1 hK1 hP1 hD1 hS1 => ?_)
  have e1 : s.vm.findClass ("[" ++ (FieldType.long).toString) = some cA := (hK1.2 3 (cA, .long) rfl).2
  have e2 : s.vm.findClass ("[" ++ (FieldType.long).toString) = some (cs 1) := (hK.2 1 (cs 1, .long) rfl).2
  obtain rfl : cA = cs 1 := Option.some.inj (e1.symm.trans e2)
  exact kk q H1 hP1 hD1 hS1
theorem lpH {st : List Value} (I : Nat → Heap → List Loc → Array Slot → Prop) (N k0 : Nat) (hk : k0 ≤ N) (ls : Array Slot) (h0 : I k0 H locs ls) (hend : ∀ H locs ls, I N H locs ls → W p l e R s m args below meth c H locs cells slots Q (F0 m pc ls st)) (hstep : ∀ k, k0 ≤ k → k < N → (∀ H locs ls, I (k + 1) H locs ls → W p l e R s m args below meth c H locs cells slots Q (F0 m pc ls st)) → ∀ H locs ls, I k H locs ls → W p l e R s m args below meth c H locs cells slots Q (F0 m pc ls st)) : W p l e R s m args below meth c H locs cells slots Q (F0 m pc ls st) := by
  have h : ∀ (f k : Nat), k0 ≤ k → k + f = N → ∀ H locs ls, I k H locs ls → W p l e R s m args below meth c H locs cells slots Q (F0 m pc ls st) := by
    intro f
    induction f with
    | zero => intro k _ hk H locs ls h; rw [Nat.add_zero] at hk; subst hk; exact hend H locs ls h
    | succ f ih => intro k h1 hk H locs ls h; exact hstep k h1 (by omega) (fun H locs ls h => ih (k + 1) (by omega) (by omega) H locs ls h) H locs ls h
  exact h (N - k0) k0 (Nat.le_refl _) (by omega) H locs ls h0
end MU
