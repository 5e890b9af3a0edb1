/-! the law's world, in its pieces -/
theorem sA : ∀ (w w1 pre Z : va_W), w.length = w1.length → setAll (pre ++ (w ++ Z)) (List.range' pre.length w.length) w1 = pre ++ (w1 ++ Z)
  | [], [], pre, Z, _ => by simp [setAll]
  | [], _ :: _, _, _, h => by simp at h
  | _ :: _, [], _, _, h => by simp at h
  | x :: w, y :: w1, pre, Z, h => by
    have hl : w.length = w1.length := by simpa using h
    have ih := sA w w1 (pre ++ [y]) Z hl
    have e : (pre ++ ((x :: w) ++ Z)).set pre.length y = (pre ++ [y]) ++ (w ++ Z) := by simp
    have e2 : (pre ++ [y]).length = pre.length + 1 := by simp
    rw [e2] at ih
    rw [List.length_cons, List.range'_succ, setAll, e, ih]
    simp
theorem cA : ∀ (w pre Z : va_W), (List.range' pre.length w.length).map (fun i => (pre ++ (w ++ Z))[i]?) = w.map some
  | [], _, _ => rfl
  | x :: w, pre, Z => by
    have ih := cA w (pre ++ [x]) Z
    have e2 : (pre ++ [x]).length = pre.length + 1 := by simp
    have e : (pre ++ [x]) ++ (w ++ Z) = pre ++ ((x :: w) ++ Z) := by simp
    rw [e2, e] at ih
    rw [List.length_cons, List.range'_succ, List.map_cons, ih]
    simp
theorem len4 {q : Nat → Nat} {cs : Nat → ClassId} {F : Nat → Nat → Int32} {n c : Nat} {g : Int32} : (x4W q cs F n c g).length = 20 := rfl
theorem len5 {q : Nat → Nat} {cs : Nat → ClassId} {F : Nat → Nat → Int32} {n c : Nat} {g : Int32} {up lo : Int64} : (mW q cs F n c g up lo).length = 17 := rfl
theorem sx4 {q : Nat → Nat} {cs : Nat → ClassId} {F F2 : Nat → Nat → Int32} {n c n2 c2 : Nat} {g g2 : Int32} (Z : va_W) : setAll (x4W q cs F n c g ++ Z) (List.range' 0 20) (x4W q cs F2 n2 c2 g2) = x4W q cs F2 n2 c2 g2 ++ Z := by
  have h := sA (x4W q cs F n c g) (x4W q cs F2 n2 c2 g2) [] Z (len4.trans len4.symm)
  rw [len4, List.nil_append, List.nil_append] at h
  exact h
theorem cx4 {q : Nat → Nat} {cs : Nat → ClassId} {F : Nat → Nat → Int32} {n c : Nat} {g : Int32} (Z : va_W) : (List.range' 0 20).map (fun i => (x4W q cs F n c g ++ Z)[i]?) = (x4W q cs F n c g).map some := by
  have h := cA (x4W q cs F n c g) [] Z
  rw [len4] at h
  exact h
theorem sm5 {q : Nat → Nat} {cs : Nat → ClassId} {F F1 F2 : Nat → Nat → Int32} {n c n1 c1 n2 c2 : Nat} {g g1 g2 : Int32} {up lo u1 l1 : Int64} (Z : va_W) : setAll (x4W q cs F1 n1 c1 g1 ++ (mW q cs F n c g up lo ++ Z)) (List.range' 20 17) (mW q cs F2 n2 c2 g2 u1 l1) = x4W q cs F1 n1 c1 g1 ++ (mW q cs F2 n2 c2 g2 u1 l1 ++ Z) := by
  have h := sA (mW q cs F n c g up lo) (mW q cs F2 n2 c2 g2 u1 l1) (x4W q cs F1 n1 c1 g1) Z (len5.trans len5.symm)
  rw [len4, len5] at h
  exact h
theorem cm5 {q : Nat → Nat} {cs : Nat → ClassId} {F F1 : Nat → Nat → Int32} {n c n1 c1 : Nat} {g g1 : Int32} {up lo : Int64} (Z : va_W) : (List.range' 20 17).map (fun i => (x4W q cs F1 n1 c1 g1 ++ (mW q cs F n c g up lo ++ Z))[i]?) = (mW q cs F n c g up lo).map some := by
  have h := cA (mW q cs F n c g up lo) (x4W q cs F1 n1 c1 g1) Z
  rw [len4, len5] at h
  exact h
section LAW
variable {p : Program} {l : Launch} {e : Env} {s : State} {m : MethodId} {below : List Frame} {meth : Method} {c_ : Code} {D : va_G} {cs : Nat → ClassId} {q : Nat → Nat} {b L : Nat} {xs : Nat → Int32} {i : Nat} {ls : Array Slot}
set_option maxHeartbeats 4000000 in
set_option maxRecDepth 100000 in
/-- the law calls thing -/
theorem lw_thing (hF : LFix p s m meth c_ D cs q b L xs i ls) (K : LCont p l e s m b below meth c_ D cs q ls) {F : Nat → Nat → Int32} {n c : Nat} {g : Int32} {up lo : Int64} {H : Heap} {locs : List Loc} (hI : Inv F n c) (hP : va_P D vwCl (LW q cs F n c g up lo) H) (hD : va_D (fun k => s.heap.size ≤ k) (LW q cs F n c g up lo)) (hS : va_S (fun k => s.heap.size ≤ k) s.heap H locs) : W p l e room_1 s m #[Value.ref b] below meth c_ H locs 100 9404 (lw_Z below #[Value.ref b] s) (F0 m 140 ls []) := by
  obtain ⟨hx, hb, hml, hown, hts, hX, hbl, hK, hN, hi, hL, hl⟩ := hF
  have hA : ∀ k : Nat, s.heap.size ≤ k → (fun k : Nat => s.heap.size ≤ k) k := fun _ h => h
  have hbA : ¬ (fun k : Nat => s.heap.size ≤ k) b := Nat.not_le.mpr hbl
  refine lv_aload_n hx hb dL_law_140 rfl (lv_at hl 1 rfl) ?_
  refine lv_aload_n hx hb dL_law_141 rfl (lv_at hl 0 rfl) ?_
  refine lv_iload_n hx hb dL_law_142 rfl (lv_at hl 3 rfl) ?_
  refine lv_iconst (v := 1) hx hb dL_law_143 (by decide) ?_
  refine lv_iadd hx hb dL_law_144 ?_
  refine va_sld hx hb hX hbl hbA hS (lw_in1 hi hL) dL_law_145 ?_
  refine lv_aload_n hx hb dL_law_146 rfl (lv_at hl 0 rfl) ?_
  refine lv_iload_n hx hb dL_law_147 rfl (lv_at hl 3 rfl) ?_
  refine lv_iconst (v := 2) hx hb dL_law_148 (by decide) ?_
  refine lv_iadd hx hb dL_law_149 ?_
  refine va_sld hx hb hX hbl hbA hS (lw_in2 hi hL) dL_law_150 ?_
  refine lv_aload_n hx hb dL_law_151 rfl (lv_at hl 0 rfl) ?_
  refine lv_iload_n hx hb dL_law_152 rfl (lv_at hl 3 rfl) ?_
  refine lv_iconst (v := 3) hx hb dL_law_153 (by decide) ?_
  refine lv_iadd hx hb dL_law_154 ?_
  refine va_sld hx hb hX hbl hbA hS (lw_in3 hi hL) dL_law_155 ?_
  refine lv_aload_n hx hb dL_law_156 rfl (lv_at hl 0 rfl) ?_
  refine lv_iload_n hx hb dL_law_157 rfl (lv_at hl 3 rfl) ?_
  refine lv_iconst (v := 4) hx hb dL_law_158 (by decide) ?_
  refine lv_iadd hx hb dL_law_159 ?_
  refine va_sld hx hb hX hbl hbA hS (lw_in4 hi hL) dL_law_160 ?_
  refine muVi (As := [.int (xs (nI i + 1).toNatClampNeg), .int (xs (nI i + 2).toNatClampNeg), .int (xs (nI i + 3).toNatClampNeg), .int (xs (nI i + 4).toNatClampNeg)]) (rest := []) (v := aThing n (xs (nI i + 1).toNatClampNeg) (xs (nI i + 2).toNatClampNeg) (xs (nI i + 3).toNatClampNeg) (xs (nI i + 4).toNatClampNeg)) (wc := x4W q cs F n c g) (w1 := x4W q cs (adF (okT (xs (nI i + 1).toNatClampNeg) (xs (nI i + 2).toNatClampNeg) (xs (nI i + 3).toNatClampNeg) (xs (nI i + 4).toNatClampNeg) && decide (n < 60)) F n (xs (nI i + 1).toNatClampNeg) (xs (nI i + 2).toNatClampNeg) (xs (nI i + 3).toNatClampNeg) (xs (nI i + 4).toNatClampNeg)) (adN (okT (xs (nI i + 1).toNatClampNeg) (xs (nI i + 2).toNatClampNeg) (xs (nI i + 3).toNatClampNeg) (xs (nI i + 4).toNatClampNeg) && decide (n < 60)) n) c g) ⟨hx, hb, hml, hown, hts⟩ (c_X4_thing l D cs q F n c g _ (xs (nI i + 1).toNatClampNeg) (xs (nI i + 2).toNatClampNeg) (xs (nI i + 3).toNatClampNeg) (xs (nI i + 4).toNatClampNeg) hI) (cwV 4 hts gL_law_X4_thing rfl rfl rfl (by decide +kernel) ⟨Nat.le_of_ble_eq_true rfl, Nat.le_of_ble_eq_true rfl⟩) hP hD hS hA hK hN (List.range' 0 20) (cx4 _) (by decide) (va_P_l hP) rfl 0 rfl rfl rfl hl.1 rfl (Nat.le_of_ble_eq_true rfl) dL_law_161 ⟨Nat.le_of_ble_eq_true rfl, Nat.le_of_ble_eq_true rfl⟩ (fun H locs hP hD hS => ?_)
  have hP : va_P D vwCl (x4W q cs (adF (okT (xs (nI i + 1).toNatClampNeg) (xs (nI i + 2).toNatClampNeg) (xs (nI i + 3).toNatClampNeg) (xs (nI i + 4).toNatClampNeg) && decide (n < 60)) F n (xs (nI i + 1).toNatClampNeg) (xs (nI i + 2).toNatClampNeg) (xs (nI i + 3).toNatClampNeg) (xs (nI i + 4).toNatClampNeg)) (adN (okT (xs (nI i + 1).toNatClampNeg) (xs (nI i + 2).toNatClampNeg) (xs (nI i + 3).toNatClampNeg) (xs (nI i + 4).toNatClampNeg) && decide (n < 60)) n) c g ++ (mW q cs F n c g up lo ++ wW q cs)) H := by rw [sx4] at hP; exact hP
  have hD : va_D (fun k => s.heap.size ≤ k) (x4W q cs (adF (okT (xs (nI i + 1).toNatClampNeg) (xs (nI i + 2).toNatClampNeg) (xs (nI i + 3).toNatClampNeg) (xs (nI i + 4).toNatClampNeg) && decide (n < 60)) F n (xs (nI i + 1).toNatClampNeg) (xs (nI i + 2).toNatClampNeg) (xs (nI i + 3).toNatClampNeg) (xs (nI i + 4).toNatClampNeg)) (adN (okT (xs (nI i + 1).toNatClampNeg) (xs (nI i + 2).toNatClampNeg) (xs (nI i + 3).toNatClampNeg) (xs (nI i + 4).toNatClampNeg) && decide (n < 60)) n) c g ++ (mW q cs F n c g up lo ++ wW q cs)) := by rw [sx4] at hD; exact hD
  refine lv_aload_n hx hb dL_law_164 rfl (lv_at hl 2 rfl) ?_
  refine lv_aload_n hx hb dL_law_165 rfl (lv_at hl 0 rfl) ?_
  refine lv_iload_n hx hb dL_law_166 rfl (lv_at hl 3 rfl) ?_
  refine lv_iconst (v := 1) hx hb dL_law_167 (by decide) ?_
  refine lv_iadd hx hb dL_law_168 ?_
  refine va_sld hx hb hX hbl hbA hS (lw_in1 hi hL) dL_law_169 ?_
  refine lv_aload_n hx hb dL_law_170 rfl (lv_at hl 0 rfl) ?_
  refine lv_iload_n hx hb dL_law_171 rfl (lv_at hl 3 rfl) ?_
  refine lv_iconst (v := 2) hx hb dL_law_172 (by decide) ?_
  refine lv_iadd hx hb dL_law_173 ?_
  refine va_sld hx hb hX hbl hbA hS (lw_in2 hi hL) dL_law_174 ?_
  refine lv_aload_n hx hb dL_law_175 rfl (lv_at hl 0 rfl) ?_
  refine lv_iload_n hx hb dL_law_176 rfl (lv_at hl 3 rfl) ?_
  refine lv_iconst (v := 3) hx hb dL_law_177 (by decide) ?_
  refine lv_iadd hx hb dL_law_178 ?_
  refine va_sld hx hb hX hbl hbA hS (lw_in3 hi hL) dL_law_179 ?_
  refine lv_aload_n hx hb dL_law_180 rfl (lv_at hl 0 rfl) ?_
  refine lv_iload_n hx hb dL_law_181 rfl (lv_at hl 3 rfl) ?_
  refine lv_iconst (v := 4) hx hb dL_law_182 (by decide) ?_
  refine lv_iadd hx hb dL_law_183 ?_
  refine va_sld hx hb hX hbl hbA hS (lw_in4 hi hL) dL_law_184 ?_
  refine muVi (As := [.int (xs (nI i + 1).toNatClampNeg), .int (xs (nI i + 2).toNatClampNeg), .int (xs (nI i + 3).toNatClampNeg), .int (xs (nI i + 4).toNatClampNeg)]) (rest := [.int (aThing n (xs (nI i + 1).toNatClampNeg) (xs (nI i + 2).toNatClampNeg) (xs (nI i + 3).toNatClampNeg) (xs (nI i + 4).toNatClampNeg))]) (v := aThing n (xs (nI i + 1).toNatClampNeg) (xs (nI i + 2).toNatClampNeg) (xs (nI i + 3).toNatClampNeg) (xs (nI i + 4).toNatClampNeg)) (wc := mW q cs F n c g up lo) (w1 := mW q cs (adF (okT (xs (nI i + 1).toNatClampNeg) (xs (nI i + 2).toNatClampNeg) (xs (nI i + 3).toNatClampNeg) (xs (nI i + 4).toNatClampNeg) && decide (n < 60)) F n (xs (nI i + 1).toNatClampNeg) (xs (nI i + 2).toNatClampNeg) (xs (nI i + 3).toNatClampNeg) (xs (nI i + 4).toNatClampNeg)) (adN (okT (xs (nI i + 1).toNatClampNeg) (xs (nI i + 2).toNatClampNeg) (xs (nI i + 3).toNatClampNeg) (xs (nI i + 4).toNatClampNeg) && decide (n < 60)) n) c g up lo) ⟨hx, hb, hml, hown, hts⟩ (c_X5_thing l D cs q F n c g up lo _ (xs (nI i + 1).toNatClampNeg) (xs (nI i + 2).toNatClampNeg) (xs (nI i + 3).toNatClampNeg) (xs (nI i + 4).toNatClampNeg) hI) (cwV 4 hts gL_law_X5_thing rfl rfl rfl (by decide +kernel) ⟨Nat.le_of_ble_eq_true rfl, Nat.le_of_ble_eq_true rfl⟩) hP hD hS hA hK hN (List.range' 20 17) (cm5 _) (by decide) (va_P_l (va_P_r hP)) rfl 0 rfl rfl rfl hl.1 rfl (Nat.le_of_ble_eq_true rfl) dL_law_185 ⟨Nat.le_of_ble_eq_true rfl, Nat.le_of_ble_eq_true rfl⟩ (fun H locs hP hD hS => ?_)
  have hP : va_P D vwCl (LW q cs (adF (okT (xs (nI i + 1).toNatClampNeg) (xs (nI i + 2).toNatClampNeg) (xs (nI i + 3).toNatClampNeg) (xs (nI i + 4).toNatClampNeg) && decide (n < 60)) F n (xs (nI i + 1).toNatClampNeg) (xs (nI i + 2).toNatClampNeg) (xs (nI i + 3).toNatClampNeg) (xs (nI i + 4).toNatClampNeg)) (adN (okT (xs (nI i + 1).toNatClampNeg) (xs (nI i + 2).toNatClampNeg) (xs (nI i + 3).toNatClampNeg) (xs (nI i + 4).toNatClampNeg) && decide (n < 60)) n) c g up lo) H := by rw [sm5] at hP; exact hP
  have hD : va_D (fun k => s.heap.size ≤ k) (LW q cs (adF (okT (xs (nI i + 1).toNatClampNeg) (xs (nI i + 2).toNatClampNeg) (xs (nI i + 3).toNatClampNeg) (xs (nI i + 4).toNatClampNeg) && decide (n < 60)) F n (xs (nI i + 1).toNatClampNeg) (xs (nI i + 2).toNatClampNeg) (xs (nI i + 3).toNatClampNeg) (xs (nI i + 4).toNatClampNeg)) (adN (okT (xs (nI i + 1).toNatClampNeg) (xs (nI i + 2).toNatClampNeg) (xs (nI i + 3).toNatClampNeg) (xs (nI i + 4).toNatClampNeg) && decide (n < 60)) n) c g up lo) := by rw [sm5] at hD; exact hD
  refine lv_icmp_eq (tgt := 971) hx hb dL_law_188 (by decide) (fun c_1 => ?_) (fun c_1 => ?_)
  · exact K _ _ _ _ _ _ H locs (hI.ad _ _ _ _) hP hD hS
  · exact absurd (by first | exact rfl | exact (rfl).symm) c_1
set_option maxHeartbeats 4000000 in
set_option maxRecDepth 100000 in
/-- the law calls promise -/
theorem lw_promise (hF : LFix p s m meth c_ D cs q b L xs i ls) (K : LCont p l e s m b below meth c_ D cs q ls) {F : Nat → Nat → Int32} {n c : Nat} {g : Int32} {up lo : Int64} {H : Heap} {locs : List Loc} (hI : Inv F n c) (hP : va_P D vwCl (LW q cs F n c g up lo) H) (hD : va_D (fun k => s.heap.size ≤ k) (LW q cs F n c g up lo)) (hS : va_S (fun k => s.heap.size ≤ k) s.heap H locs) : W p l e room_1 s m #[Value.ref b] below meth c_ H locs 100 9404 (lw_Z below #[Value.ref b] s) (F0 m 193 ls []) := by
  obtain ⟨hx, hb, hml, hown, hts, hX, hbl, hK, hN, hi, hL, hl⟩ := hF
  have hA : ∀ k : Nat, s.heap.size ≤ k → (fun k : Nat => s.heap.size ≤ k) k := fun _ h => h
  have hbA : ¬ (fun k : Nat => s.heap.size ≤ k) b := Nat.not_le.mpr hbl
  refine lv_aload_n hx hb dL_law_193 rfl (lv_at hl 1 rfl) ?_
  refine lv_aload_n hx hb dL_law_194 rfl (lv_at hl 0 rfl) ?_
  refine lv_iload_n hx hb dL_law_195 rfl (lv_at hl 3 rfl) ?_
  refine lv_iconst (v := 1) hx hb dL_law_196 (by decide) ?_
  refine lv_iadd hx hb dL_law_197 ?_
  refine va_sld hx hb hX hbl hbA hS (lw_in1 hi hL) dL_law_198 ?_
  refine lv_aload_n hx hb dL_law_199 rfl (lv_at hl 0 rfl) ?_
  refine lv_iload_n hx hb dL_law_200 rfl (lv_at hl 3 rfl) ?_
  refine lv_iconst (v := 2) hx hb dL_law_201 (by decide) ?_
  refine lv_iadd hx hb dL_law_202 ?_
  refine va_sld hx hb hX hbl hbA hS (lw_in2 hi hL) dL_law_203 ?_
  refine lv_aload_n hx hb dL_law_204 rfl (lv_at hl 0 rfl) ?_
  refine lv_iload_n hx hb dL_law_205 rfl (lv_at hl 3 rfl) ?_
  refine lv_iconst (v := 3) hx hb dL_law_206 (by decide) ?_
  refine lv_iadd hx hb dL_law_207 ?_
  refine va_sld hx hb hX hbl hbA hS (lw_in3 hi hL) dL_law_208 ?_
  refine muVi (As := [.int (xs (nI i + 1).toNatClampNeg), .int (xs (nI i + 2).toNatClampNeg), .int (xs (nI i + 3).toNatClampNeg)]) (rest := []) (v := if okP (xs (nI i + 1).toNatClampNeg) (xs (nI i + 2).toNatClampNeg) (xs (nI i + 3).toNatClampNeg) = true then 1 else -2) (wc := x4W q cs F n c g) (w1 := x4W q cs (prF (okP (xs (nI i + 1).toNatClampNeg) (xs (nI i + 2).toNatClampNeg) (xs (nI i + 3).toNatClampNeg)) F (xs (nI i + 1).toNatClampNeg) (xs (nI i + 2).toNatClampNeg) (xs (nI i + 3).toNatClampNeg)) n c g) ⟨hx, hb, hml, hown, hts⟩ (c_X4_promise l D cs q F n c g _ (xs (nI i + 1).toNatClampNeg) (xs (nI i + 2).toNatClampNeg) (xs (nI i + 3).toNatClampNeg) hI) (cwV 3 hts gL_law_X4_promise rfl rfl rfl (by decide +kernel) ⟨Nat.le_of_ble_eq_true rfl, Nat.le_of_ble_eq_true rfl⟩) hP hD hS hA hK hN (List.range' 0 20) (cx4 _) (by decide) (va_P_l hP) rfl 0 rfl rfl rfl hl.1 rfl (Nat.le_of_ble_eq_true rfl) dL_law_209 ⟨Nat.le_of_ble_eq_true rfl, Nat.le_of_ble_eq_true rfl⟩ (fun H locs hP hD hS => ?_)
  have hP : va_P D vwCl (x4W q cs (prF (okP (xs (nI i + 1).toNatClampNeg) (xs (nI i + 2).toNatClampNeg) (xs (nI i + 3).toNatClampNeg)) F (xs (nI i + 1).toNatClampNeg) (xs (nI i + 2).toNatClampNeg) (xs (nI i + 3).toNatClampNeg)) n c g ++ (mW q cs F n c g up lo ++ wW q cs)) H := by rw [sx4] at hP; exact hP
  have hD : va_D (fun k => s.heap.size ≤ k) (x4W q cs (prF (okP (xs (nI i + 1).toNatClampNeg) (xs (nI i + 2).toNatClampNeg) (xs (nI i + 3).toNatClampNeg)) F (xs (nI i + 1).toNatClampNeg) (xs (nI i + 2).toNatClampNeg) (xs (nI i + 3).toNatClampNeg)) n c g ++ (mW q cs F n c g up lo ++ wW q cs)) := by rw [sx4] at hD; exact hD
  refine lv_aload_n hx hb dL_law_212 rfl (lv_at hl 2 rfl) ?_
  refine lv_aload_n hx hb dL_law_213 rfl (lv_at hl 0 rfl) ?_
  refine lv_iload_n hx hb dL_law_214 rfl (lv_at hl 3 rfl) ?_
  refine lv_iconst (v := 1) hx hb dL_law_215 (by decide) ?_
  refine lv_iadd hx hb dL_law_216 ?_
  refine va_sld hx hb hX hbl hbA hS (lw_in1 hi hL) dL_law_217 ?_
  refine lv_aload_n hx hb dL_law_218 rfl (lv_at hl 0 rfl) ?_
  refine lv_iload_n hx hb dL_law_219 rfl (lv_at hl 3 rfl) ?_
  refine lv_iconst (v := 2) hx hb dL_law_220 (by decide) ?_
  refine lv_iadd hx hb dL_law_221 ?_
  refine va_sld hx hb hX hbl hbA hS (lw_in2 hi hL) dL_law_222 ?_
  refine lv_aload_n hx hb dL_law_223 rfl (lv_at hl 0 rfl) ?_
  refine lv_iload_n hx hb dL_law_224 rfl (lv_at hl 3 rfl) ?_
  refine lv_iconst (v := 3) hx hb dL_law_225 (by decide) ?_
  refine lv_iadd hx hb dL_law_226 ?_
  refine va_sld hx hb hX hbl hbA hS (lw_in3 hi hL) dL_law_227 ?_
  refine muVi (As := [.int (xs (nI i + 1).toNatClampNeg), .int (xs (nI i + 2).toNatClampNeg), .int (xs (nI i + 3).toNatClampNeg)]) (rest := [.int (if okP (xs (nI i + 1).toNatClampNeg) (xs (nI i + 2).toNatClampNeg) (xs (nI i + 3).toNatClampNeg) = true then 1 else -2)]) (v := if okP (xs (nI i + 1).toNatClampNeg) (xs (nI i + 2).toNatClampNeg) (xs (nI i + 3).toNatClampNeg) = true then 1 else -2) (wc := mW q cs F n c g up lo) (w1 := mW q cs (prF (okP (xs (nI i + 1).toNatClampNeg) (xs (nI i + 2).toNatClampNeg) (xs (nI i + 3).toNatClampNeg)) F (xs (nI i + 1).toNatClampNeg) (xs (nI i + 2).toNatClampNeg) (xs (nI i + 3).toNatClampNeg)) n c g up lo) ⟨hx, hb, hml, hown, hts⟩ (c_X5_promise l D cs q F n c g up lo _ (xs (nI i + 1).toNatClampNeg) (xs (nI i + 2).toNatClampNeg) (xs (nI i + 3).toNatClampNeg) hI) (cwV 3 hts gL_law_X5_promise rfl rfl rfl (by decide +kernel) ⟨Nat.le_of_ble_eq_true rfl, Nat.le_of_ble_eq_true rfl⟩) hP hD hS hA hK hN (List.range' 20 17) (cm5 _) (by decide) (va_P_l (va_P_r hP)) rfl 0 rfl rfl rfl hl.1 rfl (Nat.le_of_ble_eq_true rfl) dL_law_228 ⟨Nat.le_of_ble_eq_true rfl, Nat.le_of_ble_eq_true rfl⟩ (fun H locs hP hD hS => ?_)
  have hP : va_P D vwCl (LW q cs (prF (okP (xs (nI i + 1).toNatClampNeg) (xs (nI i + 2).toNatClampNeg) (xs (nI i + 3).toNatClampNeg)) F (xs (nI i + 1).toNatClampNeg) (xs (nI i + 2).toNatClampNeg) (xs (nI i + 3).toNatClampNeg)) n c g up lo) H := by rw [sm5] at hP; exact hP
  have hD : va_D (fun k => s.heap.size ≤ k) (LW q cs (prF (okP (xs (nI i + 1).toNatClampNeg) (xs (nI i + 2).toNatClampNeg) (xs (nI i + 3).toNatClampNeg)) F (xs (nI i + 1).toNatClampNeg) (xs (nI i + 2).toNatClampNeg) (xs (nI i + 3).toNatClampNeg)) n c g up lo) := by rw [sm5] at hD; exact hD
  refine lv_icmp_eq (tgt := 971) hx hb dL_law_231 (by decide) (fun c_1 => ?_) (fun c_1 => ?_)
  · exact K _ _ _ _ _ _ H locs (hI.pr _ _ _) hP hD hS
  · exact absurd (by first | exact rfl | exact (rfl).symm) c_1
set_option maxHeartbeats 4000000 in
set_option maxRecDepth 100000 in
/-- the law calls again -/
theorem lw_again (hF : LFix p s m meth c_ D cs q b L xs i ls) (K : LCont p l e s m b below meth c_ D cs q ls) {F : Nat → Nat → Int32} {n c : Nat} {g : Int32} {up lo : Int64} {H : Heap} {locs : List Loc} (hI : Inv F n c) (hP : va_P D vwCl (LW q cs F n c g up lo) H) (hD : va_D (fun k => s.heap.size ≤ k) (LW q cs F n c g up lo)) (hS : va_S (fun k => s.heap.size ≤ k) s.heap H locs) : W p l e room_1 s m #[Value.ref b] below meth c_ H locs 100 9404 (lw_Z below #[Value.ref b] s) (F0 m 236 ls []) := by
  obtain ⟨hx, hb, hml, hown, hts, hX, hbl, hK, hN, hi, hL, hl⟩ := hF
  have hA : ∀ k : Nat, s.heap.size ≤ k → (fun k : Nat => s.heap.size ≤ k) k := fun _ h => h
  have hbA : ¬ (fun k : Nat => s.heap.size ≤ k) b := Nat.not_le.mpr hbl
  refine lv_aload_n hx hb dL_law_236 rfl (lv_at hl 1 rfl) ?_
  refine lv_aload_n hx hb dL_law_237 rfl (lv_at hl 0 rfl) ?_
  refine lv_iload_n hx hb dL_law_238 rfl (lv_at hl 3 rfl) ?_
  refine lv_iconst (v := 1) hx hb dL_law_239 (by decide) ?_
  refine lv_iadd hx hb dL_law_240 ?_
  refine va_sld hx hb hX hbl hbA hS (lw_in1 hi hL) dL_law_241 ?_
  refine muVi (As := [.int (xs (nI i + 1).toNatClampNeg)]) (rest := []) (v := if rg (xs (nI i + 1).toNatClampNeg) 0 12 = true then g else -2) (wc := x4W q cs F n c g) (w1 := x4W q cs F n c (agG (rg (xs (nI i + 1).toNatClampNeg) 0 12) g (xs (nI i + 1).toNatClampNeg))) ⟨hx, hb, hml, hown, hts⟩ (c_X4_again l D cs q F n c g _ (xs (nI i + 1).toNatClampNeg) hI) (cwV 1 hts gL_law_X4_again rfl rfl rfl (by decide +kernel) ⟨Nat.le_of_ble_eq_true rfl, Nat.le_of_ble_eq_true rfl⟩) hP hD hS hA hK hN (List.range' 0 20) (cx4 _) (by decide) (va_P_l hP) rfl 0 rfl rfl rfl hl.1 rfl (Nat.le_of_ble_eq_true rfl) dL_law_242 ⟨Nat.le_of_ble_eq_true rfl, Nat.le_of_ble_eq_true rfl⟩ (fun H locs hP hD hS => ?_)
  have hP : va_P D vwCl (x4W q cs F n c (agG (rg (xs (nI i + 1).toNatClampNeg) 0 12) g (xs (nI i + 1).toNatClampNeg)) ++ (mW q cs F n c g up lo ++ wW q cs)) H := by rw [sx4] at hP; exact hP
  have hD : va_D (fun k => s.heap.size ≤ k) (x4W q cs F n c (agG (rg (xs (nI i + 1).toNatClampNeg) 0 12) g (xs (nI i + 1).toNatClampNeg)) ++ (mW q cs F n c g up lo ++ wW q cs)) := by rw [sx4] at hD; exact hD
  refine lv_aload_n hx hb dL_law_245 rfl (lv_at hl 2 rfl) ?_
  refine lv_aload_n hx hb dL_law_246 rfl (lv_at hl 0 rfl) ?_
  refine lv_iload_n hx hb dL_law_247 rfl (lv_at hl 3 rfl) ?_
  refine lv_iconst (v := 1) hx hb dL_law_248 (by decide) ?_
  refine lv_iadd hx hb dL_law_249 ?_
  refine va_sld hx hb hX hbl hbA hS (lw_in1 hi hL) dL_law_250 ?_
  refine muVi (As := [.int (xs (nI i + 1).toNatClampNeg)]) (rest := [.int (if rg (xs (nI i + 1).toNatClampNeg) 0 12 = true then g else -2)]) (v := if rg (xs (nI i + 1).toNatClampNeg) 0 12 = true then g else -2) (wc := mW q cs F n c g up lo) (w1 := mW q cs F n c (agG (rg (xs (nI i + 1).toNatClampNeg) 0 12) g (xs (nI i + 1).toNatClampNeg)) up lo) ⟨hx, hb, hml, hown, hts⟩ (c_X5_again l D cs q F n c g up lo _ (xs (nI i + 1).toNatClampNeg) hI) (cwV 1 hts gL_law_X5_again rfl rfl rfl (by decide +kernel) ⟨Nat.le_of_ble_eq_true rfl, Nat.le_of_ble_eq_true rfl⟩) hP hD hS hA hK hN (List.range' 20 17) (cm5 _) (by decide) (va_P_l (va_P_r hP)) rfl 0 rfl rfl rfl hl.1 rfl (Nat.le_of_ble_eq_true rfl) dL_law_251 ⟨Nat.le_of_ble_eq_true rfl, Nat.le_of_ble_eq_true rfl⟩ (fun H locs hP hD hS => ?_)
  have hP : va_P D vwCl (LW q cs F n c (agG (rg (xs (nI i + 1).toNatClampNeg) 0 12) g (xs (nI i + 1).toNatClampNeg)) up lo) H := by rw [sm5] at hP; exact hP
  have hD : va_D (fun k => s.heap.size ≤ k) (LW q cs F n c (agG (rg (xs (nI i + 1).toNatClampNeg) 0 12) g (xs (nI i + 1).toNatClampNeg)) up lo) := by rw [sm5] at hD; exact hD
  refine lv_icmp_eq (tgt := 971) hx hb dL_law_254 (by decide) (fun c_1 => ?_) (fun c_1 => ?_)
  · exact K _ _ _ _ _ _ H locs (hI) hP hD hS
  · exact absurd (by first | exact rfl | exact (rfl).symm) c_1
set_option maxHeartbeats 4000000 in
set_option maxRecDepth 100000 in
/-- the law calls claim -/
theorem lw_claim (hF : LFix p s m meth c_ D cs q b L xs i ls) (K : LCont p l e s m b below meth c_ D cs q ls) {F : Nat → Nat → Int32} {n c : Nat} {g : Int32} {up lo : Int64} {H : Heap} {locs : List Loc} (hI : Inv F n c) (hP : va_P D vwCl (LW q cs F n c g up lo) H) (hD : va_D (fun k => s.heap.size ≤ k) (LW q cs F n c g up lo)) (hS : va_S (fun k => s.heap.size ≤ k) s.heap H locs) : W p l e room_1 s m #[Value.ref b] below meth c_ H locs 100 9404 (lw_Z below #[Value.ref b] s) (F0 m 315 ls []) := by
  obtain ⟨hx, hb, hml, hown, hts, hX, hbl, hK, hN, hi, hL, hl⟩ := hF
  have hA : ∀ k : Nat, s.heap.size ≤ k → (fun k : Nat => s.heap.size ≤ k) k := fun _ h => h
  have hbA : ¬ (fun k : Nat => s.heap.size ≤ k) b := Nat.not_le.mpr hbl
  refine lv_aload_n hx hb dL_law_315 rfl (lv_at hl 1 rfl) ?_
  refine lv_aload_n hx hb dL_law_316 rfl (lv_at hl 0 rfl) ?_
  refine lv_iload_n hx hb dL_law_317 rfl (lv_at hl 3 rfl) ?_
  refine lv_iconst (v := 1) hx hb dL_law_318 (by decide) ?_
  refine lv_iadd hx hb dL_law_319 ?_
  refine va_sld hx hb hX hbl hbA hS (lw_in1 hi hL) dL_law_320 ?_
  refine lv_aload_n hx hb dL_law_321 rfl (lv_at hl 0 rfl) ?_
  refine lv_iload_n hx hb dL_law_322 rfl (lv_at hl 3 rfl) ?_
  refine lv_iconst (v := 2) hx hb dL_law_323 (by decide) ?_
  refine lv_iadd hx hb dL_law_324 ?_
  refine va_sld hx hb hX hbl hbA hS (lw_in2 hi hL) dL_law_325 ?_
  refine lv_aload_n hx hb dL_law_326 rfl (lv_at hl 0 rfl) ?_
  refine lv_iload_n hx hb dL_law_327 rfl (lv_at hl 3 rfl) ?_
  refine lv_iconst (v := 3) hx hb dL_law_328 (by decide) ?_
  refine lv_iadd hx hb dL_law_329 ?_
  refine va_sld hx hb hX hbl hbA hS (lw_in3 hi hL) dL_law_330 ?_
  refine lv_aload_n hx hb dL_law_331 rfl (lv_at hl 0 rfl) ?_
  refine lv_iload_n hx hb dL_law_332 rfl (lv_at hl 3 rfl) ?_
  refine lv_iconst (v := 4) hx hb dL_law_333 (by decide) ?_
  refine lv_iadd hx hb dL_law_334 ?_
  refine va_sld hx hb hX hbl hbA hS (lw_in4 hi hL) dL_law_335 ?_
  refine lv_aload_n hx hb dL_law_336 rfl (lv_at hl 0 rfl) ?_
  refine lv_iload_n hx hb dL_law_337 rfl (lv_at hl 3 rfl) ?_
  refine lv_iconst (v := 5) hx hb dL_law_338 (by decide) ?_
  refine lv_iadd hx hb dL_law_339 ?_
  refine va_sld hx hb hX hbl hbA hS (lw_in5 hi hL) dL_law_340 ?_
  refine muVi (As := [.int (xs (nI i + 1).toNatClampNeg), .int (xs (nI i + 2).toNatClampNeg), .int (xs (nI i + 3).toNatClampNeg), .int (xs (nI i + 4).toNatClampNeg), .int (xs (nI i + 5).toNatClampNeg)]) (rest := []) (v := aClaim F n c g (xs (nI i + 1).toNatClampNeg) (xs (nI i + 2).toNatClampNeg) (xs (nI i + 3).toNatClampNeg) (xs (nI i + 4).toNatClampNeg) (xs (nI i + 5).toNatClampNeg)) (wc := x4W q cs F n c g) (w1 := x4W q cs (clF (okC n (xs (nI i + 1).toNatClampNeg) (xs (nI i + 2).toNatClampNeg) (xs (nI i + 3).toNatClampNeg) (xs (nI i + 4).toNatClampNeg) (xs (nI i + 5).toNatClampNeg) && decide (c < 100)) F c (xs (nI i + 1).toNatClampNeg) (xs (nI i + 2).toNatClampNeg) (xs (nI i + 3).toNatClampNeg) (xs (nI i + 4).toNatClampNeg) (xs (nI i + 5).toNatClampNeg) ((xs (nI i + 3).toNatClampNeg) - F 1 (ix (xs (nI i + 1).toNatClampNeg))) (sJudge F c g (ix (xs (nI i + 1).toNatClampNeg)) (xs (nI i + 2).toNatClampNeg) (xs (nI i + 3).toNatClampNeg))) n (adN (okC n (xs (nI i + 1).toNatClampNeg) (xs (nI i + 2).toNatClampNeg) (xs (nI i + 3).toNatClampNeg) (xs (nI i + 4).toNatClampNeg) (xs (nI i + 5).toNatClampNeg) && decide (c < 100)) c) g) ⟨hx, hb, hml, hown, hts⟩ (c_X4_claim l D cs q F n c g _ (xs (nI i + 1).toNatClampNeg) (xs (nI i + 2).toNatClampNeg) (xs (nI i + 3).toNatClampNeg) (xs (nI i + 4).toNatClampNeg) (xs (nI i + 5).toNatClampNeg) hI) (cwV 5 hts gL_law_X4_claim rfl rfl rfl (by decide +kernel) ⟨Nat.le_of_ble_eq_true rfl, Nat.le_of_ble_eq_true rfl⟩) hP hD hS hA hK hN (List.range' 0 20) (cx4 _) (by decide) (va_P_l hP) rfl 0 rfl rfl rfl hl.1 rfl (Nat.le_of_ble_eq_true rfl) dL_law_341 ⟨Nat.le_of_ble_eq_true rfl, Nat.le_of_ble_eq_true rfl⟩ (fun H locs hP hD hS => ?_)
  have hP : va_P D vwCl (x4W q cs (clF (okC n (xs (nI i + 1).toNatClampNeg) (xs (nI i + 2).toNatClampNeg) (xs (nI i + 3).toNatClampNeg) (xs (nI i + 4).toNatClampNeg) (xs (nI i + 5).toNatClampNeg) && decide (c < 100)) F c (xs (nI i + 1).toNatClampNeg) (xs (nI i + 2).toNatClampNeg) (xs (nI i + 3).toNatClampNeg) (xs (nI i + 4).toNatClampNeg) (xs (nI i + 5).toNatClampNeg) ((xs (nI i + 3).toNatClampNeg) - F 1 (ix (xs (nI i + 1).toNatClampNeg))) (sJudge F c g (ix (xs (nI i + 1).toNatClampNeg)) (xs (nI i + 2).toNatClampNeg) (xs (nI i + 3).toNatClampNeg))) n (adN (okC n (xs (nI i + 1).toNatClampNeg) (xs (nI i + 2).toNatClampNeg) (xs (nI i + 3).toNatClampNeg) (xs (nI i + 4).toNatClampNeg) (xs (nI i + 5).toNatClampNeg) && decide (c < 100)) c) g ++ (mW q cs F n c g up lo ++ wW q cs)) H := by rw [sx4] at hP; exact hP
  have hD : va_D (fun k => s.heap.size ≤ k) (x4W q cs (clF (okC n (xs (nI i + 1).toNatClampNeg) (xs (nI i + 2).toNatClampNeg) (xs (nI i + 3).toNatClampNeg) (xs (nI i + 4).toNatClampNeg) (xs (nI i + 5).toNatClampNeg) && decide (c < 100)) F c (xs (nI i + 1).toNatClampNeg) (xs (nI i + 2).toNatClampNeg) (xs (nI i + 3).toNatClampNeg) (xs (nI i + 4).toNatClampNeg) (xs (nI i + 5).toNatClampNeg) ((xs (nI i + 3).toNatClampNeg) - F 1 (ix (xs (nI i + 1).toNatClampNeg))) (sJudge F c g (ix (xs (nI i + 1).toNatClampNeg)) (xs (nI i + 2).toNatClampNeg) (xs (nI i + 3).toNatClampNeg))) n (adN (okC n (xs (nI i + 1).toNatClampNeg) (xs (nI i + 2).toNatClampNeg) (xs (nI i + 3).toNatClampNeg) (xs (nI i + 4).toNatClampNeg) (xs (nI i + 5).toNatClampNeg) && decide (c < 100)) c) g ++ (mW q cs F n c g up lo ++ wW q cs)) := by rw [sx4] at hD; exact hD
  refine lv_aload_n hx hb dL_law_344 rfl (lv_at hl 2 rfl) ?_
  refine lv_aload_n hx hb dL_law_345 rfl (lv_at hl 0 rfl) ?_
  refine lv_iload_n hx hb dL_law_346 rfl (lv_at hl 3 rfl) ?_
  refine lv_iconst (v := 1) hx hb dL_law_347 (by decide) ?_
  refine lv_iadd hx hb dL_law_348 ?_
  refine va_sld hx hb hX hbl hbA hS (lw_in1 hi hL) dL_law_349 ?_
  refine lv_aload_n hx hb dL_law_350 rfl (lv_at hl 0 rfl) ?_
  refine lv_iload_n hx hb dL_law_351 rfl (lv_at hl 3 rfl) ?_
  refine lv_iconst (v := 2) hx hb dL_law_352 (by decide) ?_
  refine lv_iadd hx hb dL_law_353 ?_
  refine va_sld hx hb hX hbl hbA hS (lw_in2 hi hL) dL_law_354 ?_
  refine lv_aload_n hx hb dL_law_355 rfl (lv_at hl 0 rfl) ?_
  refine lv_iload_n hx hb dL_law_356 rfl (lv_at hl 3 rfl) ?_
  refine lv_iconst (v := 3) hx hb dL_law_357 (by decide) ?_
  refine lv_iadd hx hb dL_law_358 ?_
  refine va_sld hx hb hX hbl hbA hS (lw_in3 hi hL) dL_law_359 ?_
  refine lv_aload_n hx hb dL_law_360 rfl (lv_at hl 0 rfl) ?_
  refine lv_iload_n hx hb dL_law_361 rfl (lv_at hl 3 rfl) ?_
  refine lv_iconst (v := 4) hx hb dL_law_362 (by decide) ?_
  refine lv_iadd hx hb dL_law_363 ?_
  refine va_sld hx hb hX hbl hbA hS (lw_in4 hi hL) dL_law_364 ?_
  refine lv_aload_n hx hb dL_law_365 rfl (lv_at hl 0 rfl) ?_
  refine lv_iload_n hx hb dL_law_366 rfl (lv_at hl 3 rfl) ?_
  refine lv_iconst (v := 5) hx hb dL_law_367 (by decide) ?_
  refine lv_iadd hx hb dL_law_368 ?_
  refine va_sld hx hb hX hbl hbA hS (lw_in5 hi hL) dL_law_369 ?_
  refine muVi (As := [.int (xs (nI i + 1).toNatClampNeg), .int (xs (nI i + 2).toNatClampNeg), .int (xs (nI i + 3).toNatClampNeg), .int (xs (nI i + 4).toNatClampNeg), .int (xs (nI i + 5).toNatClampNeg)]) (rest := [.int (aClaim F n c g (xs (nI i + 1).toNatClampNeg) (xs (nI i + 2).toNatClampNeg) (xs (nI i + 3).toNatClampNeg) (xs (nI i + 4).toNatClampNeg) (xs (nI i + 5).toNatClampNeg))]) (v := aClaim F n c g (xs (nI i + 1).toNatClampNeg) (xs (nI i + 2).toNatClampNeg) (xs (nI i + 3).toNatClampNeg) (xs (nI i + 4).toNatClampNeg) (xs (nI i + 5).toNatClampNeg)) (wc := mW q cs F n c g up lo) (w1 := mW q cs (clF (okC n (xs (nI i + 1).toNatClampNeg) (xs (nI i + 2).toNatClampNeg) (xs (nI i + 3).toNatClampNeg) (xs (nI i + 4).toNatClampNeg) (xs (nI i + 5).toNatClampNeg) && decide (c < 100)) F c (xs (nI i + 1).toNatClampNeg) (xs (nI i + 2).toNatClampNeg) (xs (nI i + 3).toNatClampNeg) (xs (nI i + 4).toNatClampNeg) (xs (nI i + 5).toNatClampNeg) ((xs (nI i + 3).toNatClampNeg) - F 1 (ix (xs (nI i + 1).toNatClampNeg))) (sJudge F c g (ix (xs (nI i + 1).toNatClampNeg)) (xs (nI i + 2).toNatClampNeg) (xs (nI i + 3).toNatClampNeg))) n (adN (okC n (xs (nI i + 1).toNatClampNeg) (xs (nI i + 2).toNatClampNeg) (xs (nI i + 3).toNatClampNeg) (xs (nI i + 4).toNatClampNeg) (xs (nI i + 5).toNatClampNeg) && decide (c < 100)) c) g up lo) ⟨hx, hb, hml, hown, hts⟩ (c_X5_claim l D cs q F n c g up lo _ (xs (nI i + 1).toNatClampNeg) (xs (nI i + 2).toNatClampNeg) (xs (nI i + 3).toNatClampNeg) (xs (nI i + 4).toNatClampNeg) (xs (nI i + 5).toNatClampNeg) hI) (cwV 5 hts gL_law_X5_claim rfl rfl rfl (by decide +kernel) ⟨Nat.le_of_ble_eq_true rfl, Nat.le_of_ble_eq_true rfl⟩) hP hD hS hA hK hN (List.range' 20 17) (cm5 _) (by decide) (va_P_l (va_P_r hP)) rfl 0 rfl rfl rfl hl.1 rfl (Nat.le_of_ble_eq_true rfl) dL_law_370 ⟨Nat.le_of_ble_eq_true rfl, Nat.le_of_ble_eq_true rfl⟩ (fun H locs hP hD hS => ?_)
  have hP : va_P D vwCl (LW q cs (clF (okC n (xs (nI i + 1).toNatClampNeg) (xs (nI i + 2).toNatClampNeg) (xs (nI i + 3).toNatClampNeg) (xs (nI i + 4).toNatClampNeg) (xs (nI i + 5).toNatClampNeg) && decide (c < 100)) F c (xs (nI i + 1).toNatClampNeg) (xs (nI i + 2).toNatClampNeg) (xs (nI i + 3).toNatClampNeg) (xs (nI i + 4).toNatClampNeg) (xs (nI i + 5).toNatClampNeg) ((xs (nI i + 3).toNatClampNeg) - F 1 (ix (xs (nI i + 1).toNatClampNeg))) (sJudge F c g (ix (xs (nI i + 1).toNatClampNeg)) (xs (nI i + 2).toNatClampNeg) (xs (nI i + 3).toNatClampNeg))) n (adN (okC n (xs (nI i + 1).toNatClampNeg) (xs (nI i + 2).toNatClampNeg) (xs (nI i + 3).toNatClampNeg) (xs (nI i + 4).toNatClampNeg) (xs (nI i + 5).toNatClampNeg) && decide (c < 100)) c) g up lo) H := by rw [sm5] at hP; exact hP
  have hD : va_D (fun k => s.heap.size ≤ k) (LW q cs (clF (okC n (xs (nI i + 1).toNatClampNeg) (xs (nI i + 2).toNatClampNeg) (xs (nI i + 3).toNatClampNeg) (xs (nI i + 4).toNatClampNeg) (xs (nI i + 5).toNatClampNeg) && decide (c < 100)) F c (xs (nI i + 1).toNatClampNeg) (xs (nI i + 2).toNatClampNeg) (xs (nI i + 3).toNatClampNeg) (xs (nI i + 4).toNatClampNeg) (xs (nI i + 5).toNatClampNeg) ((xs (nI i + 3).toNatClampNeg) - F 1 (ix (xs (nI i + 1).toNatClampNeg))) (sJudge F c g (ix (xs (nI i + 1).toNatClampNeg)) (xs (nI i + 2).toNatClampNeg) (xs (nI i + 3).toNatClampNeg))) n (adN (okC n (xs (nI i + 1).toNatClampNeg) (xs (nI i + 2).toNatClampNeg) (xs (nI i + 3).toNatClampNeg) (xs (nI i + 4).toNatClampNeg) (xs (nI i + 5).toNatClampNeg) && decide (c < 100)) c) g up lo) := by rw [sm5] at hD; exact hD
  refine lv_icmp_eq (tgt := 971) hx hb dL_law_373 (by decide) (fun c_1 => ?_) (fun c_1 => ?_)
  · exact K _ _ _ _ _ _ H locs (hI.cl g _ _ _ _ _) hP hD hS
  · exact absurd (by first | exact rfl | exact (rfl).symm) c_1
set_option maxHeartbeats 4000000 in
set_option maxRecDepth 100000 in
/-- the law calls under -/
theorem lw_under (hF : LFix p s m meth c_ D cs q b L xs i ls) (K : LCont p l e s m b below meth c_ D cs q ls) {F : Nat → Nat → Int32} {n c : Nat} {g : Int32} {up lo : Int64} {H : Heap} {locs : List Loc} (hI : Inv F n c) (hP : va_P D vwCl (LW q cs F n c g up lo) H) (hD : va_D (fun k => s.heap.size ≤ k) (LW q cs F n c g up lo)) (hS : va_S (fun k => s.heap.size ≤ k) s.heap H locs) : W p l e room_1 s m #[Value.ref b] below meth c_ H locs 100 9404 (lw_Z below #[Value.ref b] s) (F0 m 683 ls []) := by
  obtain ⟨hx, hb, hml, hown, hts, hX, hbl, hK, hN, hi, hL, hl⟩ := hF
  have hA : ∀ k : Nat, s.heap.size ≤ k → (fun k : Nat => s.heap.size ≤ k) k := fun _ h => h
  have hbA : ¬ (fun k : Nat => s.heap.size ≤ k) b := Nat.not_le.mpr hbl
  refine lv_aload_n hx hb dL_law_683 rfl (lv_at hl 1 rfl) ?_
  refine lv_aload_n hx hb dL_law_684 rfl (lv_at hl 0 rfl) ?_
  refine lv_iload_n hx hb dL_law_685 rfl (lv_at hl 3 rfl) ?_
  refine lv_iconst (v := 1) hx hb dL_law_686 (by decide) ?_
  refine lv_iadd hx hb dL_law_687 ?_
  refine va_sld hx hb hX hbl hbA hS (lw_in1 hi hL) dL_law_688 ?_
  refine lv_aload_n hx hb dL_law_689 rfl (lv_at hl 0 rfl) ?_
  refine lv_iload_n hx hb dL_law_690 rfl (lv_at hl 3 rfl) ?_
  refine lv_iconst (v := 2) hx hb dL_law_691 (by decide) ?_
  refine lv_iadd hx hb dL_law_692 ?_
  refine va_sld hx hb hX hbl hbA hS (lw_in2 hi hL) dL_law_693 ?_
  refine muVi (As := [.int (xs (nI i + 1).toNatClampNeg), .int (xs (nI i + 2).toNatClampNeg)]) (rest := []) (v := aUnder F (xs (nI i + 1).toNatClampNeg) (xs (nI i + 2).toNatClampNeg)) (wc := x4W q cs F n c g) (w1 := x4W q cs (unF (okU F (xs (nI i + 1).toNatClampNeg) (xs (nI i + 2).toNatClampNeg)) F (xs (nI i + 1).toNatClampNeg) (xs (nI i + 2).toNatClampNeg)) n c g) ⟨hx, hb, hml, hown, hts⟩ (c_X4_under l D cs q F n c g _ (xs (nI i + 1).toNatClampNeg) (xs (nI i + 2).toNatClampNeg) hI) (cwV 2 hts gL_law_X4_under rfl rfl rfl (by decide +kernel) ⟨Nat.le_of_ble_eq_true rfl, Nat.le_of_ble_eq_true rfl⟩) hP hD hS hA hK hN (List.range' 0 20) (cx4 _) (by decide) (va_P_l hP) rfl 0 rfl rfl rfl hl.1 rfl (Nat.le_of_ble_eq_true rfl) dL_law_694 ⟨Nat.le_of_ble_eq_true rfl, Nat.le_of_ble_eq_true rfl⟩ (fun H locs hP hD hS => ?_)
  have hP : va_P D vwCl (x4W q cs (unF (okU F (xs (nI i + 1).toNatClampNeg) (xs (nI i + 2).toNatClampNeg)) F (xs (nI i + 1).toNatClampNeg) (xs (nI i + 2).toNatClampNeg)) n c g ++ (mW q cs F n c g up lo ++ wW q cs)) H := by rw [sx4] at hP; exact hP
  have hD : va_D (fun k => s.heap.size ≤ k) (x4W q cs (unF (okU F (xs (nI i + 1).toNatClampNeg) (xs (nI i + 2).toNatClampNeg)) F (xs (nI i + 1).toNatClampNeg) (xs (nI i + 2).toNatClampNeg)) n c g ++ (mW q cs F n c g up lo ++ wW q cs)) := by rw [sx4] at hD; exact hD
  refine lv_aload_n hx hb dL_law_697 rfl (lv_at hl 2 rfl) ?_
  refine lv_aload_n hx hb dL_law_698 rfl (lv_at hl 0 rfl) ?_
  refine lv_iload_n hx hb dL_law_699 rfl (lv_at hl 3 rfl) ?_
  refine lv_iconst (v := 1) hx hb dL_law_700 (by decide) ?_
  refine lv_iadd hx hb dL_law_701 ?_
  refine va_sld hx hb hX hbl hbA hS (lw_in1 hi hL) dL_law_702 ?_
  refine lv_aload_n hx hb dL_law_703 rfl (lv_at hl 0 rfl) ?_
  refine lv_iload_n hx hb dL_law_704 rfl (lv_at hl 3 rfl) ?_
  refine lv_iconst (v := 2) hx hb dL_law_705 (by decide) ?_
  refine lv_iadd hx hb dL_law_706 ?_
  refine va_sld hx hb hX hbl hbA hS (lw_in2 hi hL) dL_law_707 ?_
  refine muVi (As := [.int (xs (nI i + 1).toNatClampNeg), .int (xs (nI i + 2).toNatClampNeg)]) (rest := [.int (aUnder F (xs (nI i + 1).toNatClampNeg) (xs (nI i + 2).toNatClampNeg))]) (v := aUnder F (xs (nI i + 1).toNatClampNeg) (xs (nI i + 2).toNatClampNeg)) (wc := mW q cs F n c g up lo) (w1 := mW q cs (unF (okU F (xs (nI i + 1).toNatClampNeg) (xs (nI i + 2).toNatClampNeg)) F (xs (nI i + 1).toNatClampNeg) (xs (nI i + 2).toNatClampNeg)) n c g up lo) ⟨hx, hb, hml, hown, hts⟩ (c_X5_under l D cs q F n c g up lo _ (xs (nI i + 1).toNatClampNeg) (xs (nI i + 2).toNatClampNeg) hI) (cwV 2 hts gL_law_X5_under rfl rfl rfl (by decide +kernel) ⟨Nat.le_of_ble_eq_true rfl, Nat.le_of_ble_eq_true rfl⟩) hP hD hS hA hK hN (List.range' 20 17) (cm5 _) (by decide) (va_P_l (va_P_r hP)) rfl 0 rfl rfl rfl hl.1 rfl (Nat.le_of_ble_eq_true rfl) dL_law_708 ⟨Nat.le_of_ble_eq_true rfl, Nat.le_of_ble_eq_true rfl⟩ (fun H locs hP hD hS => ?_)
  have hP : va_P D vwCl (LW q cs (unF (okU F (xs (nI i + 1).toNatClampNeg) (xs (nI i + 2).toNatClampNeg)) F (xs (nI i + 1).toNatClampNeg) (xs (nI i + 2).toNatClampNeg)) n c g up lo) H := by rw [sm5] at hP; exact hP
  have hD : va_D (fun k => s.heap.size ≤ k) (LW q cs (unF (okU F (xs (nI i + 1).toNatClampNeg) (xs (nI i + 2).toNatClampNeg)) F (xs (nI i + 1).toNatClampNeg) (xs (nI i + 2).toNatClampNeg)) n c g up lo) := by rw [sm5] at hD; exact hD
  refine lv_icmp_eq (tgt := 971) hx hb dL_law_711 (by decide) (fun c_1 => ?_) (fun c_1 => ?_)
  · exact K _ _ _ _ _ _ H locs (hI.un _ _) hP hD hS
  · exact absurd (by first | exact rfl | exact (rfl).symm) c_1
set_option maxHeartbeats 4000000 in
set_option maxRecDepth 100000 in
/-- the law calls maker -/
theorem lw_maker (hF : LFix p s m meth c_ D cs q b L xs i ls) (K : LCont p l e s m b below meth c_ D cs q ls) {F : Nat → Nat → Int32} {n c : Nat} {g : Int32} {up lo : Int64} {H : Heap} {locs : List Loc} (hI : Inv F n c) (hP : va_P D vwCl (LW q cs F n c g up lo) H) (hD : va_D (fun k => s.heap.size ≤ k) (LW q cs F n c g up lo)) (hS : va_S (fun k => s.heap.size ≤ k) s.heap H locs) : W p l e room_1 s m #[Value.ref b] below meth c_ H locs 100 9404 (lw_Z below #[Value.ref b] s) (F0 m 716 ls []) := by
  obtain ⟨hx, hb, hml, hown, hts, hX, hbl, hK, hN, hi, hL, hl⟩ := hF
  have hA : ∀ k : Nat, s.heap.size ≤ k → (fun k : Nat => s.heap.size ≤ k) k := fun _ h => h
  have hbA : ¬ (fun k : Nat => s.heap.size ≤ k) b := Nat.not_le.mpr hbl
  refine lv_aload_n hx hb dL_law_716 rfl (lv_at hl 1 rfl) ?_
  refine lv_aload_n hx hb dL_law_717 rfl (lv_at hl 0 rfl) ?_
  refine lv_iload_n hx hb dL_law_718 rfl (lv_at hl 3 rfl) ?_
  refine lv_iconst (v := 1) hx hb dL_law_719 (by decide) ?_
  refine lv_iadd hx hb dL_law_720 ?_
  refine va_sld hx hb hX hbl hbA hS (lw_in1 hi hL) dL_law_721 ?_
  refine lv_aload_n hx hb dL_law_722 rfl (lv_at hl 0 rfl) ?_
  refine lv_iload_n hx hb dL_law_723 rfl (lv_at hl 3 rfl) ?_
  refine lv_iconst (v := 2) hx hb dL_law_724 (by decide) ?_
  refine lv_iadd hx hb dL_law_725 ?_
  refine va_sld hx hb hX hbl hbA hS (lw_in2 hi hL) dL_law_726 ?_
  refine lv_aload_n hx hb dL_law_727 rfl (lv_at hl 0 rfl) ?_
  refine lv_iload_n hx hb dL_law_728 rfl (lv_at hl 3 rfl) ?_
  refine lv_iconst (v := 3) hx hb dL_law_729 (by decide) ?_
  refine lv_iadd hx hb dL_law_730 ?_
  refine va_sld hx hb hX hbl hbA hS (lw_in3 hi hL) dL_law_731 ?_
  refine muVi (As := [.int (xs (nI i + 1).toNatClampNeg), .int (xs (nI i + 2).toNatClampNeg), .int (xs (nI i + 3).toNatClampNeg)]) (rest := []) (v := if okM (xs (nI i + 1).toNatClampNeg) (xs (nI i + 2).toNatClampNeg) (xs (nI i + 3).toNatClampNeg) = true then 1 else -2) (wc := x4W q cs F n c g) (w1 := x4W q cs (mkF (okM (xs (nI i + 1).toNatClampNeg) (xs (nI i + 2).toNatClampNeg) (xs (nI i + 3).toNatClampNeg)) F (xs (nI i + 1).toNatClampNeg) (xs (nI i + 2).toNatClampNeg) (xs (nI i + 3).toNatClampNeg)) n c g) ⟨hx, hb, hml, hown, hts⟩ (c_X4_maker l D cs q F n c g _ (xs (nI i + 1).toNatClampNeg) (xs (nI i + 2).toNatClampNeg) (xs (nI i + 3).toNatClampNeg) hI) (cwV 3 hts gL_law_X4_maker rfl rfl rfl (by decide +kernel) ⟨Nat.le_of_ble_eq_true rfl, Nat.le_of_ble_eq_true rfl⟩) hP hD hS hA hK hN (List.range' 0 20) (cx4 _) (by decide) (va_P_l hP) rfl 0 rfl rfl rfl hl.1 rfl (Nat.le_of_ble_eq_true rfl) dL_law_732 ⟨Nat.le_of_ble_eq_true rfl, Nat.le_of_ble_eq_true rfl⟩ (fun H locs hP hD hS => ?_)
  have hP : va_P D vwCl (x4W q cs (mkF (okM (xs (nI i + 1).toNatClampNeg) (xs (nI i + 2).toNatClampNeg) (xs (nI i + 3).toNatClampNeg)) F (xs (nI i + 1).toNatClampNeg) (xs (nI i + 2).toNatClampNeg) (xs (nI i + 3).toNatClampNeg)) n c g ++ (mW q cs F n c g up lo ++ wW q cs)) H := by rw [sx4] at hP; exact hP
  have hD : va_D (fun k => s.heap.size ≤ k) (x4W q cs (mkF (okM (xs (nI i + 1).toNatClampNeg) (xs (nI i + 2).toNatClampNeg) (xs (nI i + 3).toNatClampNeg)) F (xs (nI i + 1).toNatClampNeg) (xs (nI i + 2).toNatClampNeg) (xs (nI i + 3).toNatClampNeg)) n c g ++ (mW q cs F n c g up lo ++ wW q cs)) := by rw [sx4] at hD; exact hD
  refine lv_aload_n hx hb dL_law_735 rfl (lv_at hl 2 rfl) ?_
  refine lv_aload_n hx hb dL_law_736 rfl (lv_at hl 0 rfl) ?_
  refine lv_iload_n hx hb dL_law_737 rfl (lv_at hl 3 rfl) ?_
  refine lv_iconst (v := 1) hx hb dL_law_738 (by decide) ?_
  refine lv_iadd hx hb dL_law_739 ?_
  refine va_sld hx hb hX hbl hbA hS (lw_in1 hi hL) dL_law_740 ?_
  refine lv_aload_n hx hb dL_law_741 rfl (lv_at hl 0 rfl) ?_
  refine lv_iload_n hx hb dL_law_742 rfl (lv_at hl 3 rfl) ?_
  refine lv_iconst (v := 2) hx hb dL_law_743 (by decide) ?_
  refine lv_iadd hx hb dL_law_744 ?_
  refine va_sld hx hb hX hbl hbA hS (lw_in2 hi hL) dL_law_745 ?_
  refine lv_aload_n hx hb dL_law_746 rfl (lv_at hl 0 rfl) ?_
  refine lv_iload_n hx hb dL_law_747 rfl (lv_at hl 3 rfl) ?_
  refine lv_iconst (v := 3) hx hb dL_law_748 (by decide) ?_
  refine lv_iadd hx hb dL_law_749 ?_
  refine va_sld hx hb hX hbl hbA hS (lw_in3 hi hL) dL_law_750 ?_
  refine muVi (As := [.int (xs (nI i + 1).toNatClampNeg), .int (xs (nI i + 2).toNatClampNeg), .int (xs (nI i + 3).toNatClampNeg)]) (rest := [.int (if okM (xs (nI i + 1).toNatClampNeg) (xs (nI i + 2).toNatClampNeg) (xs (nI i + 3).toNatClampNeg) = true then 1 else -2)]) (v := if okM (xs (nI i + 1).toNatClampNeg) (xs (nI i + 2).toNatClampNeg) (xs (nI i + 3).toNatClampNeg) = true then 1 else -2) (wc := mW q cs F n c g up lo) (w1 := mW q cs (mkF (okM (xs (nI i + 1).toNatClampNeg) (xs (nI i + 2).toNatClampNeg) (xs (nI i + 3).toNatClampNeg)) F (xs (nI i + 1).toNatClampNeg) (xs (nI i + 2).toNatClampNeg) (xs (nI i + 3).toNatClampNeg)) n c g up lo) ⟨hx, hb, hml, hown, hts⟩ (c_X5_maker l D cs q F n c g up lo _ (xs (nI i + 1).toNatClampNeg) (xs (nI i + 2).toNatClampNeg) (xs (nI i + 3).toNatClampNeg) hI) (cwV 3 hts gL_law_X5_maker rfl rfl rfl (by decide +kernel) ⟨Nat.le_of_ble_eq_true rfl, Nat.le_of_ble_eq_true rfl⟩) hP hD hS hA hK hN (List.range' 20 17) (cm5 _) (by decide) (va_P_l (va_P_r hP)) rfl 0 rfl rfl rfl hl.1 rfl (Nat.le_of_ble_eq_true rfl) dL_law_751 ⟨Nat.le_of_ble_eq_true rfl, Nat.le_of_ble_eq_true rfl⟩ (fun H locs hP hD hS => ?_)
  have hP : va_P D vwCl (LW q cs (mkF (okM (xs (nI i + 1).toNatClampNeg) (xs (nI i + 2).toNatClampNeg) (xs (nI i + 3).toNatClampNeg)) F (xs (nI i + 1).toNatClampNeg) (xs (nI i + 2).toNatClampNeg) (xs (nI i + 3).toNatClampNeg)) n c g up lo) H := by rw [sm5] at hP; exact hP
  have hD : va_D (fun k => s.heap.size ≤ k) (LW q cs (mkF (okM (xs (nI i + 1).toNatClampNeg) (xs (nI i + 2).toNatClampNeg) (xs (nI i + 3).toNatClampNeg)) F (xs (nI i + 1).toNatClampNeg) (xs (nI i + 2).toNatClampNeg) (xs (nI i + 3).toNatClampNeg)) n c g up lo) := by rw [sm5] at hD; exact hD
  refine lv_icmp_eq (tgt := 971) hx hb dL_law_754 (by decide) (fun c_1 => ?_) (fun c_1 => ?_)
  · exact K _ _ _ _ _ _ H locs (hI.mkr _ _ _) hP hD hS
  · exact absurd (by first | exact rfl | exact (rfl).symm) c_1
end LAW
