def R_law : String := "UnderPromiseLaw"
def lw_P (b : Addr) (xs : List Int32) (args : Array Value) (s : State) : Prop := args = #[.ref b] ∧ s.IntsAt b xs ∧ xs.length ≤ 3072 ∧ (Jvm.Cond.and given_1 narrow_1).before args s = true
def lw_Q (_ : Array Value) (s : State) (o : Outcome) (t : State) : Prop := o = .returned (some (.int 1)) ∧ Framed s o t [] 600000 7302250
def lw_Z (below : List Frame) (a : Array Value) (s : State) : State → Prop := fun t => ∃ o, t.status = .running ∧ Ended t below o ∧ lw_Q a s o t
/-- the law's own end, with 1 on the stack, nothing written that was there before, its room as the claim has it -/
theorem lw_ret {p : Program} {l : Launch} {e : Env} {s : State} {m : MethodId} {below : List Frame} {meth : Method} {c : Code} {b : Nat} (hx : p.tables.exec = Jvm.exec) (hb : c.code = code) (hr : meth.sig.returnType = ret) (hlocks : meth.locks = false) {pc : Nat} {H : Heap} {ls : Array Slot} (hdg : decode code pc = .ok (.ireturn, 1)) : W p l e room_1 s m #[Value.ref b] below meth c H [] 600000 7302250 (lw_Z below #[Value.ref b] s) (F0 m pc ls [.int 1]) := by
  intro T hT X
  obtain ⟨fs, hret, hrun, hended, hW, hframe⟩ := X.leave (v := some (.int 1)) (hlocks := hlocks) (fun h => by rw [hr] at h; cases h)
  have hmeth' : T.vm.method? m = some meth := X.method'
  refine ⟨T.setFrames fs, ?_, .returned (some (.int 1)), hrun, hended, rfl, ⟨_, rfl⟩, hW, hframe⟩
  jvm_step X.here [X.here.top, hx, hb, hdg, hmeth', hr, ret, narrow_b1]
  (try refine ⟨rfl, ?_⟩); (try refine ⟨rfl, ?_⟩)
  first | (intro acts; rw [hret _ acts rfl rfl rfl]) | rw [hret _ _ rfl rfl rfl]
  exact Steps.refl _
/-- what holds at the law's entry: the machine, the code, the tables' words (any of lw_tbl by 'hts w (by decide +kernel)'), the script of L ints xs at the cell b, what the Statement gives of the start (any of its parts by flat_of_before) -/
def lw_At (p : Program) (s : State) (m : MethodId) (meth : Method) (c : Code) (b L : Nat) (xs : Nat → Int32) : Prop :=
  p.tables.exec = Jvm.exec ∧ c.code = code ∧ meth.sig.returnType = ret ∧ c.maxLocals = 4 ∧ s.vm.findClass R_law = some m.cls ∧ (∀ w ∈ lw_tbl, w.before #[Value.ref b] s = true) ∧ va_X b L xs s s.heap ∧ b < s.heap.size ∧ meth.locks = false ∧ (Jvm.Cond.and given_1 narrow_1).before #[Value.ref b] s = true
/-! the law: its world, what stays through its loop -/
section MU2
variable {p : Program} {l : Launch} {e : Env} {R : Room} {s : State} {m : MethodId} {args : Array Value} {below : List Frame} {meth : Method} {c : Code} {H : Heap} {locs : List Loc} {cells slots : Nat} {Q : State → Prop}
variable {cc bytes : ByteArray} {pc nL maxL n index : Nat} {ls : Array Slot} {ret : Option FieldType} {Ts wy : List Cond} {rm : Room} {own C host : String} {y : MethodName} {b : Addr} {As rest st0 : List Value} {D : va_G} {cs : Nat → ClassId} {wc w1 ws : va_W} {ci N : Nat} {fs : List Value} {T : u_T} {A : Nat → Prop} {H0 : Heap}
theorem muVi2 {v : Int32} {w2 : Int64 × Int64 → va_W} (S : CallFix p m c cc nL s args Ts own) (hM : Met l y wy rm (va_Pc (.ref b :: As) (mpre D cs wc H.size)) (va_Qi (fun r (_ : Int64 × Int64) => r = v) (fun u t => va_P D vwCl (w2 u) t.heap) (va_A wc H.size)) 0 0 (va_A wc H.size)) (cw : CallW R s args own C index y bytes maxL ret wy rm 0 0 n) (hP : va_P D vwCl ws H) (hD : va_D A ws) (hS : va_S A H0 H locs) (hA : ∀ q, H0.size ≤ q → A q) (hK : va_K D vwCl (ty3 cs) s) (hN : NN s) (isC : List Nat) (hC : isC.map (fun i => ws[i]?) = wc.map some) (hn9 : va_nd isC = true) (hPc : va_P D vwCl wc H) (hadr : ∀ u, (w2 u).map Prod.fst = wc.map Prod.fst) (q0 : Nat) (he : wc[q0]? = some (b, .inr (ci, fs))) (hc : vwCl[ci]? = some (C, T, N)) (hn : As.length = n) (hsize : ls.size = nL) (hst : st0 = As.reverse ++ .ref b :: rest) (hW : (rest.map fun v => v.category).sum ≤ 8) (hdg : decode cc pc = .ok (.invokevirtual index, 3)) (hcl : cells ≤ R.cells ∧ slots ≤ R.slots)
    (k : ∀ (u : Int64 × Int64) (H1 : Heap) (locs1 : List Loc), va_P D vwCl (setAll ws isC (w2 u)) H1 → va_D A (setAll ws isC (w2 u)) → va_S A H0 H1 locs1 → W p l e R s m args below meth c H1 locs1 cells slots Q (F0 m (pc + 3) ls (.int v :: rest))) : W p l e R s m args below meth c H locs cells slots Q (F0 m pc ls st0) := by
  subst hst
  have hF := va_free (wc := wc) hD hS hA isC hC
  refine va_calli (va_runV (g := F0 m pc ls (As.reverse ++ .ref b :: rest)) S hM cw ⟨mpre.blind, va_recv hK hPc hc he, fun U hU hW => ⟨rfl, by rw [hU], by rw [hU]; exact hPc, va_K.moved hW.alike hK, NN.warm hW hN, va_sub_D hD isC hC hn9⟩⟩ rfl hn hsize rfl (lv_room hW) hdg hcl) hS (fun q _ h => hF q h) hF (fun r u t H1 locs1 ht hvm hw hB hz1 hk1 hS1 => ?_)
  subst hw
  rw [ht] at hB
  obtain ⟨h1, h2⟩ := va_repl hP hD isC hC (hadr u) hk1 hB
  exact k u H1 locs1 h1 h2 hS1
theorem muVl2 {v : Int64} {w2 : Int64 × Int64 → va_W} (S : CallFix p m c cc nL s args Ts own) (hM : Met l y wy rm (va_Pc (.ref b :: As) (mpre D cs wc H.size)) (va_Ql (fun r (_ : Int64 × Int64) => r = v) (fun u t => va_P D vwCl (w2 u) t.heap) (va_A wc H.size)) 0 0 (va_A wc H.size)) (cw : CallW R s args own C index y bytes maxL ret wy rm 0 0 n) (hP : va_P D vwCl ws H) (hD : va_D A ws) (hS : va_S A H0 H locs) (hA : ∀ q, H0.size ≤ q → A q) (hK : va_K D vwCl (ty3 cs) s) (hN : NN s) (isC : List Nat) (hC : isC.map (fun i => ws[i]?) = wc.map some) (hn9 : va_nd isC = true) (hPc : va_P D vwCl wc H) (hadr : ∀ u, (w2 u).map Prod.fst = wc.map Prod.fst) (q0 : Nat) (he : wc[q0]? = some (b, .inr (ci, fs))) (hc : vwCl[ci]? = some (C, T, N)) (hn : As.length = n) (hsize : ls.size = nL) (hst : st0 = As.reverse ++ .ref b :: rest) (hW : (rest.map fun v => v.category).sum ≤ 8) (hdg : decode cc pc = .ok (.invokevirtual index, 3)) (hcl : cells ≤ R.cells ∧ slots ≤ R.slots)
    (k : ∀ (u : Int64 × Int64) (H1 : Heap) (locs1 : List Loc), va_P D vwCl (setAll ws isC (w2 u)) H1 → va_D A (setAll ws isC (w2 u)) → va_S A H0 H1 locs1 → W p l e R s m args below meth c H1 locs1 cells slots Q (F0 m (pc + 3) ls (.long v :: rest))) : W p l e R s m args below meth c H locs cells slots Q (F0 m pc ls st0) := by
  subst hst
  have hF := va_free (wc := wc) hD hS hA isC hC
  refine va_calll (va_runV (g := F0 m pc ls (As.reverse ++ .ref b :: rest)) S hM cw ⟨mpre.blind, va_recv hK hPc hc he, fun U hU hW => ⟨rfl, by rw [hU], by rw [hU]; exact hPc, va_K.moved hW.alike hK, NN.warm hW hN, va_sub_D hD isC hC hn9⟩⟩ rfl hn hsize rfl (lv_room hW) hdg hcl) hS (fun q _ h => hF q h) hF (fun r u t H1 locs1 ht hvm hw hB hz1 hk1 hS1 => ?_)
  subst hw
  rw [ht] at hB
  obtain ⟨h1, h2⟩ := va_repl hP hD isC hC (hadr u) hk1 hB
  exact k u H1 locs1 h1 h2 hS1
end MU2
abbrev LW (q : Nat → Nat) (cs : Nat → ClassId) (F : Nat → Nat → Int32) (n c : Nat) (g : Int32) (up lo : Int64) : va_W := x4W q cs F n c g ++ (mW q cs F n c g up lo ++ wW q cs)
theorem lwX {D : va_G} {q : Nat → Nat} {cs : Nat → ClassId} {F F2 : Nat → Nat → Int32} {n c n2 c2 : Nat} {g g2 : Int32} {up lo : Int64} {H : Heap} (h : va_P D vwCl (x4W q cs F n c g ++ (mW q cs F2 n2 c2 g2 up lo ++ wW q cs)) H) : va_P D vwCl (xW q cs F n c g) H := by
  have h1 : va_P D vwCl (x4W q cs F n c g ++ wW q cs) H := va_P.app (va_P_l h) (va_P_r (va_P_r h))
  exact h1
theorem lw_in1 {i L : Nat} (h : i + 6 ≤ L) (hL : L ≤ 3072) : vp_in (nI i + 1) L := by
  rw [nI_1]; exact vp_in_nI (by omega) (by omega)
theorem lw_in2 {i L : Nat} (h : i + 6 ≤ L) (hL : L ≤ 3072) : vp_in (nI i + 2) L := by
  rw [show (2 : Int32) = nI 2 from rfl, nI_add]; exact vp_in_nI (by omega) (by omega)
theorem lw_in3 {i L : Nat} (h : i + 6 ≤ L) (hL : L ≤ 3072) : vp_in (nI i + 3) L := by
  rw [show (3 : Int32) = nI 3 from rfl, nI_add]; exact vp_in_nI (by omega) (by omega)
theorem lw_in4 {i L : Nat} (h : i + 6 ≤ L) (hL : L ≤ 3072) : vp_in (nI i + 4) L := by
  rw [show (4 : Int32) = nI 4 from rfl, nI_add]; exact vp_in_nI (by omega) (by omega)
theorem lw_in5 {i L : Nat} (h : i + 6 ≤ L) (hL : L ≤ 3072) : vp_in (nI i + 5) L := by
  rw [show (5 : Int32) = nI 5 from rfl, nI_add]; exact vp_in_nI (by omega) (by omega)
def LFix (p : Program) (s : State) (m : MethodId) (meth : Method) (c_ : Code) (D : va_G) (cs : Nat → ClassId) (q : Nat → Nat) (b L : Nat) (xs : Nat → Int32) (i : Nat) (ls : Array Slot) : Prop := p.tables.exec = Jvm.exec ∧ c_.code = cL_law ∧ c_.maxLocals = 4 ∧ s.vm.findClass RL = some m.cls ∧ (∀ w ∈ wsL_law, w.before #[Value.ref b] s = true) ∧ va_X b L xs s s.heap ∧ b < s.heap.size ∧ va_K D vwCl (ty3 cs) s ∧ NN s ∧ i + 6 ≤ L ∧ L ≤ 3072 ∧ lv_has ls 4 [(0, .ref b), (1, .ref (q 0)), (2, .ref (q 200)), (3, .int (nI i))]
def LCont (p : Program) (l : Launch) (e : Env) (s : State) (m : MethodId) (b : Nat) (below : List Frame) (meth : Method) (c_ : Code) (D : va_G) (cs : Nat → ClassId) (q : Nat → Nat) (ls : Array Slot) : Prop := ∀ (F : Nat → Nat → Int32) (n c : Nat) (g : Int32) (up lo : Int64) (H : Heap) (locs : List Loc), Inv F n c → va_P D vwCl (LW q cs F n c g up lo) H → va_D (fun k => s.heap.size ≤ k) (LW q cs F n c g up lo) → va_S (fun k => s.heap.size ≤ k) s.heap H locs → W p l e room_1 s m #[Value.ref b] below meth c_ H locs 100 9404 (lw_Z below #[Value.ref b] s) (F0 m 971 ls [])
