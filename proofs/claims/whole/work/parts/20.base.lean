/-! the base of this claim: the nest's words, worlds, calls that change nothing -/
/-- the words of nest mates: no list of words holds them -/
def NN (U : State) : Prop := va_Nw (.methodLinkNest RX1 21 yX4_isPart RX4) U ∧ va_Nw (.methodLinkNest RX2 49 yX4_hasBit RX4) U ∧ va_Nw (.methodLinkNest RX0 45 yX4_hasBit RX4) U ∧ va_Nw (.methodLinkNest RX4 18 yX0_init RX4) U ∧ va_Nw (.fieldLinkNest RX4 84 RX2 "sold" "[I" RX4) U ∧ va_Nw (.fieldLinkNest RX4 60 RX2 "landMonths" "[I" RX4) U ∧ va_Nw (.fieldLinkNest RX4 64 RX2 "landMiles" "[I" RX4) U ∧ va_Nw (.fieldLinkNest RX4 190 RX2 "size" "I" RX4) U ∧ va_Nw (.fieldLinkNest RX4 218 RX0 "part" "[I" RX4) U ∧ va_Nw (.fieldLinkNest RX4 221 RX0 "cost" "[I" RX4) U ∧ va_Nw (.fieldLinkNest RX4 215 RX0 "judged" "[I" RX4) U ∧ va_Nw (.fieldLinkNest RX4 94 RX0 "size" "I" RX4) U ∧ va_Nw (.fieldLinkNest RX4 150 RX1 "above" "[I" RX4) U ∧ va_Nw (.fieldLinkNest RX4 156 RX1 "maker" "[I" RX4) U ∧ va_Nw (.fieldLinkNest RX4 159 RX1 "share" "[I" RX4) U
theorem NN.warm {s U : State} (hW : s.WarmedH U.vm) (h : NN s) : NN U := by
  obtain ⟨h0, h1, h2, h3, h4, h5, h6, h7, h8, h9, h10, h11, h12, h13, h14⟩ := h
  exact ⟨h0.warmM hW, h1.warmM hW, h2.warmM hW, h3.warmM hW, h4.warmF hW, h5.warmF hW, h6.warmF hW, h7.warmF hW, h8.warmF hW, h9.warmF hW, h10.warmF hW, h11.warmF hW, h12.warmF hW, h13.warmF hW, h14.warmF hW⟩
theorem NN.same {u U : State} (e : u.vm = U.vm) (h : NN u) : NN U := by
  obtain ⟨h0, h1, h2, h3, h4, h5, h6, h7, h8, h9, h10, h11, h12, h13, h14⟩ := h
  exact ⟨h0.same rfl e, h1.same rfl e, h2.same rfl e, h3.same rfl e, h4.same rfl e, h5.same rfl e, h6.same rfl e, h7.same rfl e, h8.same rfl e, h9.same rfl e, h10.same rfl e, h11.same rfl e, h12.same rfl e, h13.same rfl e, h14.same rfl e⟩
/-- the array classes: int[], long[], long[][] -/
abbrev ty3 (cs : Nat → ClassId) : List (ClassId × FieldType) := [(cs 0, .int), (cs 1, .long), (cs 2, .array .long)]
/-- a world, and what the tables say -/
def pw (D : va_G) (cs : Nat → ClassId) (ws : va_W) (U : State) : Prop := va_P D vwCl ws U.heap ∧ va_K D vwCl (ty3 cs) U ∧ NN U
theorem pw.blind {D : va_G} {cs : Nat → ClassId} {ws : va_W} {av : List Value} : FrameBlind (va_Pc av (pw D cs ws)) := by
  intro a U g mk h
  obtain ⟨h0, hP, hK, hN⟩ := h
  exact ⟨h0, hP, va_K.moved (u := U) (U := U.calling g mk a) (Vm.Alike.refl U.vm) hK, NN.same (u := U) (U := U.calling g mk a) rfl hN⟩
theorem tr.blind {av : List Value} : FrameBlind (va_Pc av (fun _ => True)) := fun _ _ _ _ h => ⟨h.1, trivial⟩
theorem pw.go {D : va_G} {cs : Nat → ClassId} {ws : va_W} {s U : State} {H : Heap} (hU : U.heap = H) (hW : s.WarmedH U.vm) (hP : va_P D vwCl ws H) (hK : va_K D vwCl (ty3 cs) s) (hN : NN s) : pw D cs ws U := ⟨by rw [hU]; exact hP, va_K.moved hW.alike hK, NN.warm hW hN⟩
theorem va_P_l {D : va_G} {cl : List vw_C} {a b : va_W} {H : Heap} (h : va_P D cl (a ++ b) H) : va_P D cl a H := fun k q hk => h k q (by rw [List.getElem?_append_left (List.getElem?_eq_some_iff.mp hk).1]; exact hk)
theorem va_P_r {D : va_G} {cl : List vw_C} {a b : va_W} {H : Heap} (h : va_P D cl (a ++ b) H) : va_P D cl b H := fun k q hk => h (a.length + k) q (by rw [List.getElem?_append_right (Nat.le_add_right _ _), Nat.add_sub_cancel_left]; exact hk)
section RO
variable {p : Program} {l : Launch} {e : Env} {R : Room} {s : State} {m : MethodId} {args : Array Value} {below : List Frame} {meth : Method} {c : Code} {H : Heap} {locs : List Loc} {cells slots : Nat} {Q : State → Prop}
variable {cc bytes : ByteArray} {pc nL maxL n index : Nat} {ls : Array Slot} {ret : Option FieldType} {Ts wy : List Cond} {rm : Room} {own C host : String} {y : MethodName} {b : Addr} {As rest st0 : List Value} {D : va_G} {cs : Nat → ClassId} {wc : va_W} {ci N : Nat} {fs : List Value} {T : u_T}
theorem va_Run.cr {mc ms : Nat} {g : JFrame} {Qa : State → Outcome → State → Prop} {free : Addr → Prop} (h : va_Run p l e R s m args below meth c H locs cells slots mc ms g rest Qa free) : CallRun p l e R s m args below meth c H locs cells slots mc ms g rest Qa free := by
  intro T hT X
  obtain ⟨v, st₀, t, T', L, h0, X', hL, e1, e2, hq, st⟩ := h T hT X
  exact ⟨v, st₀, t, T', L, h0, X', hL, e1, hq, st⟩
theorem roVi {v : Int32} (S : CallFix p m c cc nL s args Ts own) (hM : Met l y wy rm (va_Pc (.ref b :: As) (pw D cs wc)) (vp_Si (fun r => r = v)) 0 0 (fun _ => False)) (cw : CallW R s args own C index y bytes maxL ret wy rm 0 0 n) (hP : va_P D vwCl wc H) (hK : va_K D vwCl (ty3 cs) s) (hN : NN s) (q0 : Nat) (he : wc[q0]? = some (b, .inr (ci, fs))) (hc : vwCl[ci]? = some (C, T, N)) (hn : As.length = n) (hsize : ls.size = nL) (hst : st0 = As.reverse ++ .ref b :: rest) (hW : (rest.map fun v => v.category).sum ≤ 8) (hdg : decode cc pc = .ok (.invokevirtual index, 3)) (hcl : cells ≤ R.cells ∧ slots ≤ R.slots)
    (k : W p l e R s m args below meth c H locs cells slots Q (F0 m (pc + 3) ls (.int v :: rest))) : W p l e R s m args below meth c H locs cells slots Q (F0 m pc ls st0) := by
  subst hst
  exact vp_callSi (W.runV (g := F0 m pc ls (As.reverse ++ .ref b :: rest)) S hM cw ⟨pw.blind, va_recv hK hP hc he, fun U hU hW => ⟨rfl, pw.go hU hW hP hK hN⟩⟩ rfl hn hsize rfl (lv_room hW) hdg hcl) (fun r hr => by subst hr; exact k)
theorem roVl {v : Int64} (S : CallFix p m c cc nL s args Ts own) (hM : Met l y wy rm (va_Pc (.ref b :: As) (pw D cs wc)) (vp_Sl (fun r => r = v)) 0 0 (fun _ => False)) (cw : CallW R s args own C index y bytes maxL ret wy rm 0 0 n) (hP : va_P D vwCl wc H) (hK : va_K D vwCl (ty3 cs) s) (hN : NN s) (q0 : Nat) (he : wc[q0]? = some (b, .inr (ci, fs))) (hc : vwCl[ci]? = some (C, T, N)) (hn : As.length = n) (hsize : ls.size = nL) (hst : st0 = As.reverse ++ .ref b :: rest) (hW : (rest.map fun v => v.category).sum ≤ 8) (hdg : decode cc pc = .ok (.invokevirtual index, 3)) (hcl : cells ≤ R.cells ∧ slots ≤ R.slots)
    (k : W p l e R s m args below meth c H locs cells slots Q (F0 m (pc + 3) ls (.long v :: rest))) : W p l e R s m args below meth c H locs cells slots Q (F0 m pc ls st0) := by
  subst hst
  exact vp_callSl (W.runV (g := F0 m pc ls (As.reverse ++ .ref b :: rest)) S hM cw ⟨pw.blind, va_recv hK hP hc he, fun U hU hW => ⟨rfl, pw.go hU hW hP hK hN⟩⟩ rfl hn hsize rfl (lv_room hW) hdg hcl) (fun r hr => by subst hr; exact k)
theorem roSi {v : Int32} (S : CallFix p m c cc nL s args Ts own) (hM : Met l y wy rm (va_Pc As (fun _ => True)) (vp_Si (fun r => r = v)) 0 0 (fun _ => False)) (cw : CallB R s args own index y bytes maxL ret wy rm 0 0 n ∧ (Cond.static y).before args s = true) (hn : As.length = n) (hsize : ls.size = nL) (hst : st0 = As.reverse ++ rest) (hW : (rest.map fun v => v.category).sum ≤ 8) (hdg : decode cc pc = .ok (.invokestatic index, 3)) (hcl : cells ≤ R.cells ∧ slots ≤ R.slots)
    (k : W p l e R s m args below meth c H locs cells slots Q (F0 m (pc + 3) ls (.int v :: rest))) : W p l e R s m args below meth c H locs cells slots Q (F0 m pc ls st0) := by
  subst hst
  exact vp_callSi (W.runS (g := F0 m pc ls (As.reverse ++ rest)) S hM cw ⟨tr.blind, fun U _ _ => ⟨rfl, trivial⟩⟩ rfl hn hsize rfl (lv_room hW) hdg hcl) (fun r hr => by subst hr; exact k)
theorem roSl {v : Int64} (S : CallFix p m c cc nL s args Ts own) (hM : Met l y wy rm (va_Pc As (fun _ => True)) (vp_Sl (fun r => r = v)) 0 0 (fun _ => False)) (cw : CallB R s args own index y bytes maxL ret wy rm 0 0 n ∧ (Cond.static y).before args s = true) (hn : As.length = n) (hsize : ls.size = nL) (hst : st0 = As.reverse ++ rest) (hW : (rest.map fun v => v.category).sum ≤ 8) (hdg : decode cc pc = .ok (.invokestatic index, 3)) (hcl : cells ≤ R.cells ∧ slots ≤ R.slots)
    (k : W p l e R s m args below meth c H locs cells slots Q (F0 m (pc + 3) ls (.long v :: rest))) : W p l e R s m args below meth c H locs cells slots Q (F0 m pc ls st0) := by
  subst hst
  exact vp_callSl (W.runS (g := F0 m pc ls (As.reverse ++ rest)) S hM cw ⟨tr.blind, fun U _ _ => ⟨rfl, trivial⟩⟩ rfl hn hsize rfl (lv_room hW) hdg hcl) (fun r hr => by subst hr; exact k)
theorem roNi {v : Int32} (S : CallFix p m c cc nL s args Ts own) (hM : Met l y wy rm (va_Pc As (fun _ => True)) (vp_Si (fun r => r = v)) 0 0 (fun _ => False)) (cw : va_CN R s args own index y host bytes maxL ret wy rm 0 0 n) (hst9 : (Cond.static y).before args s = true) (hn : As.length = n) (hsize : ls.size = nL) (hst : st0 = As.reverse ++ rest) (hW : (rest.map fun v => v.category).sum ≤ 8) (hdg : decode cc pc = .ok (.invokestatic index, 3)) (hcl : cells ≤ R.cells ∧ slots ≤ R.slots)
    (k : W p l e R s m args below meth c H locs cells slots Q (F0 m (pc + 3) ls (.int v :: rest))) : W p l e R s m args below meth c H locs cells slots Q (F0 m pc ls st0) := by
  subst hst
  exact vp_callSi (va_Run.cr (va_runSN (g := F0 m pc ls (As.reverse ++ rest)) S hM ⟨cw, hst9, trivial⟩ ⟨tr.blind, fun U _ _ => ⟨rfl, trivial⟩⟩ rfl hn hsize rfl (lv_room hW) hdg hcl)) (fun r hr => by subst hr; exact k)
/-- an element, its index by its place -/
theorem iaK {D : va_G} {cl : List vw_C} {tys : List (ClassId × FieldType)} {ws : va_W} {a : Nat} (hexec : p.tables.exec = Jvm.exec) (hb : c.code = cc) (hK : va_K D cl tys s) (hP : va_P D cl ws H) (q0 t0 : Nat) {cA : ClassId} {n : Nat} {f : Nat → Int32} (ha : ws[q0]? = some (a, .inl (cA, n, .inl f))) (ht : tys[t0]? = some (cA, .int)) {i : Int32} (j : Nat) {v : Int32} (hin : vp_in i n) (hj : i.toNatClampNeg = j) (hv : f j = v) (hdg : decode cc pc = .ok (.iaload, 1))
    (kk : W p l e R s m args below meth c H locs cells slots Q (F0 m (pc + 1) ls (.int v :: rest))) : W p l e R s m args below meth c H locs cells slots Q (F0 m pc ls (.int i :: .ref a :: rest)) := by
  subst hj; subst hv
  exact va_iald hexec hb hK hP q0 t0 ha ht hin hdg kk
theorem laK {D : va_G} {cl : List vw_C} {tys : List (ClassId × FieldType)} {ws : va_W} {a : Nat} (hexec : p.tables.exec = Jvm.exec) (hb : c.code = cc) (hK : va_K D cl tys s) (hP : va_P D cl ws H) (q0 t0 : Nat) {cA : ClassId} {n : Nat} {f : Nat → Int64} (ha : ws[q0]? = some (a, .inl (cA, n, .inr (.inl f)))) (ht : tys[t0]? = some (cA, .long)) {i : Int32} (j : Nat) {v : Int64} (hin : vp_in i n) (hj : i.toNatClampNeg = j) (hv : f j = v) (hdg : decode cc pc = .ok (.laload, 1))
    (kk : W p l e R s m args below meth c H locs cells slots Q (F0 m (pc + 1) ls (.long v :: rest))) : W p l e R s m args below meth c H locs cells slots Q (F0 m pc ls (.int i :: .ref a :: rest)) := by
  subst hj; subst hv
  exact va_lald hexec hb hK hP q0 t0 ha ht hin hdg kk
end RO
/-- a loop that counts up -/
theorem lpU {P : Array Slot → Prop} (I : Nat → Array Slot → Prop) (N k0 : Nat) (hk : k0 ≤ N) (ls : Array Slot) (h0 : I k0 ls) (hend : ∀ ls, I N ls → P ls) (hstep : ∀ k, k0 ≤ k → k < N → (∀ ls, I (k + 1) ls → P ls) → ∀ ls, I k ls → P ls) : P ls := by
  have h : ∀ (f k : Nat), k0 ≤ k → k + f = N → ∀ ls, I k ls → P ls := by
    intro f
    induction f with
    | zero => intro k _ hk ls h; rw [Nat.add_zero] at hk; subst hk; exact hend ls h
    | succ f ih => intro k h1 hk ls h; exact hstep k h1 (by omega) (fun ls h => ih (k + 1) (by omega) (by omega) ls h) ls h
  exact h (N - k0) k0 (Nat.le_refl _) (by omega) ls h0
theorem lpW {p : Program} {l : Launch} {e : Env} {R : Room} {s : State} {m : MethodId} {args : Array Value} {below : List Frame} {meth : Method} {c : Code} {H : Heap} {locs : List Loc} {cells slots : Nat} {Q : State → Prop} {pc : Nat} {st : List Value} (I : Nat → Array Slot → Prop) (N k0 : Nat) (hk : k0 ≤ N) (ls : Array Slot) (h0 : I k0 ls) (hend : ∀ ls, I N ls → W p l e R s m args below meth c H locs cells slots Q (F0 m pc ls st)) (hstep : ∀ k, k0 ≤ k → k < N → (∀ ls, I (k + 1) ls → W p l e R s m args below meth c H locs cells slots Q (F0 m pc ls st)) → ∀ ls, I k ls → W p l e R s m args below meth c H locs cells slots Q (F0 m pc ls st)) : W p l e R s m args below meth c H locs cells slots Q (F0 m pc ls st) := lpU (P := fun ls => W p l e R s m args below meth c H locs cells slots Q (F0 m pc ls st)) I N k0 hk ls h0 hend hstep
theorem lv_cast {ls : Array Slot} {nL : Nat} {a b : List (Nat × Value)} (h : lv_has ls nL a) (e : a = b) : lv_has ls nL b := e ▸ h
/-! Bool as an int -/
def bI (b : Bool) : Int32 := if b = true then 1 else 0
theorem bI_t {b : Bool} (h : ¬ bI b = 0) : b = true := by cases b <;> simp_all [bI]
theorem bI_f {b : Bool} (h : bI b = 0) : b = false := by cases b <;> simp_all [bI]
theorem bI_n (b : Bool) : narrow .boolean (.int (bI b)) = .int (bI b) := by cases b <;> rfl
theorem bI_1 : bI true = 1 := rfl
theorem bI_0 : bI false = 0 := rfl
/-- between two bounds -/
def rg (x lo hi : Int32) : Bool := decide (lo ≤ x) && decide (x ≤ hi)
/-- how many, a sum, whether any -/
def ctI (p : Nat → Bool) : Nat → Int32
  | 0 => 0
  | k + 1 => if p k = true then ctI p k + 1 else ctI p k
def smI (f : Nat → Int32) : Nat → Int32
  | 0 => 0
  | k + 1 => smI f k + f k
def anyB (p : Nat → Bool) : Nat → Bool
  | 0 => false
  | k + 1 => anyB p k || p k
abbrev ix (x : Int32) : Nat := x.toNatClampNeg
/-! the worlds -/
abbrev oW (q : Nat → Nat) (g : Int32) : va_W := [(q 0, .inr (4, [.ref (q 1), .ref (q 2), .ref (q 3), .ref (q 4), .int g]))]
abbrev tW (q : Nat → Nat) (cs : Nat → ClassId) (F : Nat → Nat → Int32) (n : Nat) : va_W := [(q 1, .inr (2, [.ref (q 10), .ref (q 11), .ref (q 12), .ref (q 13), .ref (q 14), .ref (q 15), .int (nI n)])), (q 10, .inl (cs 0, 60, .inl (F 0))), (q 11, .inl (cs 0, 60, .inl (F 1))), (q 12, .inl (cs 0, 60, .inl (F 2))), (q 13, .inl (cs 0, 60, .inl (F 3))), (q 14, .inl (cs 0, 4, .inl (F 4))), (q 15, .inl (cs 0, 4, .inl (F 5)))]
abbrev cW (q : Nat → Nat) (cs : Nat → ClassId) (F : Nat → Nat → Int32) (c : Nat) : va_W := [(q 2, .inr (0, [.ref (q 20), .ref (q 21), .ref (q 22), .ref (q 23), .ref (q 24), .ref (q 25), .ref (q 26), .int (nI c)])), (q 20, .inl (cs 0, 100, .inl (F 6))), (q 21, .inl (cs 0, 100, .inl (F 7))), (q 22, .inl (cs 0, 100, .inl (F 8))), (q 23, .inl (cs 0, 100, .inl (F 9))), (q 24, .inl (cs 0, 100, .inl (F 10))), (q 25, .inl (cs 0, 100, .inl (F 15))), (q 26, .inl (cs 0, 100, .inl (F 11)))]
abbrev pW (q : Nat → Nat) (cs : Nat → ClassId) (F : Nat → Nat → Int32) : va_W := [(q 3, .inr (1, [.ref (q 30), .ref (q 31), .ref (q 32)])), (q 30, .inl (cs 0, 10, .inl (F 12))), (q 31, .inl (cs 0, 10, .inl (F 13))), (q 32, .inl (cs 0, 10, .inl (F 14)))]
def chs : Nat → Nat → Nat
  | _, 0 => 1
  | 0, _ + 1 => 0
  | n + 1, k + 1 => chs n k + chs n (k + 1)
def wyF : Nat → Int64 := fun i => if i < 3721 then lN (chs (i / 61) (i % 61)) else 0
abbrev mW (q : Nat → Nat) (cs : Nat → ClassId) (F : Nat → Nat → Int32) (n c : Nat) (g : Int32) (up lo : Int64) : va_W := [(q 200, .inr (5, [.ref (q 201), .ref (q 202), .int (nI n), .ref (q 203), .ref (q 204), .ref (q 205), .ref (q 206), .int g, .int (nI c), .ref (q 207), .ref (q 208), .ref (q 209), .ref (q 210), .ref (q 211), .ref (q 212), .ref (q 213), .long up, .long lo, .ref (q 214), .ref (q 215), .ref (q 216)])), (q 201, .inl (cs 0, 4, .inl (F 4))), (q 202, .inl (cs 0, 4, .inl (F 5))), (q 203, .inl (cs 0, 60, .inl (F 0))), (q 204, .inl (cs 0, 60, .inl (F 1))), (q 205, .inl (cs 0, 60, .inl (F 2))), (q 206, .inl (cs 0, 60, .inl (F 3))), (q 207, .inl (cs 0, 100, .inl (F 6))), (q 208, .inl (cs 0, 100, .inl (F 7))), (q 209, .inl (cs 0, 100, .inl (F 8))), (q 210, .inl (cs 0, 100, .inl (F 9))), (q 211, .inl (cs 0, 100, .inl (F 10))), (q 212, .inl (cs 0, 100, .inl (F 11))), (q 213, .inl (cs 1, 3721, .inr (.inl wyF))), (q 214, .inl (cs 0, 10, .inl (F 12))), (q 215, .inl (cs 0, 10, .inl (F 13))), (q 216, .inl (cs 0, 10, .inl (F 14)))]
abbrev wW (q : Nat → Nat) (cs : Nat → ClassId) : va_W := [(q 4, .inr (3, [.ref (q 40)])), (q 40, .inl (cs 2, 61, .inr (.inr (.inr (.inr (fun i => if i < 61 then some (q (50 + i)) else none))))))] ++ (List.range 61).map (fun i => (q (50 + i), .inl (cs 1, 61, .inr (.inl (fun j => lN (chs i j))))))
abbrev xW (q : Nat → Nat) (cs : Nat → ClassId) (F : Nat → Nat → Int32) (n c : Nat) (g : Int32) : va_W := oW q g ++ (tW q cs F n ++ (cW q cs F c ++ (pW q cs F ++ wW q cs)))
