abbrev yWg (h0 r0 : Nat) (r : Nat → Nat) (cs : Nat → ClassId) (fs : List Value) (R : Nat → Nat → Int64) : va_W := [(h0, .inr (3, fs)), (r0, .inl (cs 2, 61, .inr (.inr (.inr (.inr (fun i => if i < 61 then some (r i) else none))))))] ++ (List.range 61).map (fun i => (r i, .inl (cs 1, 61, .inr (.inl (R i)))))
theorem yW_row {h0 r0 : Nat} {r : Nat → Nat} {cs : Nat → ClassId} {fs : List Value} {R : Nat → Nat → Int64} {i : Nat} (h : i < 61) : (yWg h0 r0 r cs fs R)[2 + i]? = some (r i, .inl (cs 1, 61, .inr (.inl (R i)))) := by
  show ([((h0, .inr (3, fs)) : Nat × va_E), (r0, .inl (cs 2, 61, .inr (.inr (.inr (.inr (fun i => if i < 61 then some (r i) else none))))))] ++ (List.range 61).map (fun i => ((r i, .inl (cs 1, 61, .inr (.inl (R i)))) : Nat × va_E)))[2 + i]? = _
  rw [List.getElem?_append_right (by show 2 ≤ 2 + i; omega), show 2 + i - [((h0, .inr (3, fs)) : Nat × va_E), (r0, .inl (cs 2, 61, .inr (.inr (.inr (.inr (fun i => if i < 61 then some (r i) else none))))))].length = i by show 2 + i - 2 = i; omega, List.getElem?_map, List.getElem?_range h]
  rfl
theorem yW_cong {h0 r0 : Nat} {r : Nat → Nat} {cs : Nat → ClassId} {fs : List Value} {R R' : Nat → Nat → Int64} (h : ∀ i, i < 61 → R i = R' i) : yWg h0 r0 r cs fs R = yWg h0 r0 r cs fs R' := by
  unfold yWg
  congr 1
  apply List.map_congr_left
  intro i hi
  rw [h i (List.mem_range.mp hi)]
theorem yW_set {h0 r0 : Nat} {r : Nat → Nat} {cs : Nat → ClassId} {fs : List Value} {R : Nat → Nat → Int64} {i : Nat} (h : i < 61) (f : Nat → Int64) : (yWg h0 r0 r cs fs R).set (2 + i) (r i, .inl (cs 1, 61, .inr (.inl f))) = yWg h0 r0 r cs fs (va_up R i f) := by
  apply List.ext_getElem?
  intro k
  by_cases hk : 2 + i = k
  · subst hk
    have hl : 2 + i < (yWg h0 r0 r cs fs R).length := (List.getElem?_eq_some_iff.mp (yW_row (h0 := h0) (r0 := r0) (r := r) (cs := cs) (fs := fs) (R := R) h)).1
    rw [List.getElem?_set_self hl, yW_row h]
    simp [va_up]
  · rw [List.getElem?_set_ne hk]
    rcases Nat.lt_or_ge k 2 with q | q
    · rcases (by omega : k = 0 ∨ k = 1) with rfl | rfl <;> rfl
    · obtain ⟨j, rfl⟩ : ∃ j, k = 2 + j := ⟨k - 2, by omega⟩
      rcases Nat.lt_or_ge j 61 with hj | hj
      · rw [yW_row hj, yW_row hj]
        have : j ≠ i := fun e => hk (by omega)
        simp [va_up, this]
      · have e1 : ∀ R0 : Nat → Nat → Int64, (yWg h0 r0 r cs fs R0)[2 + j]? = none := fun R0 => List.getElem?_eq_none (by simp [yWg]; omega)
        rw [e1, e1]
/-- the rows while they are made: full below a, row a up to b -/
def Rk (a b : Nat) : Nat → Nat → Int64 := fun i j => if i < a then lN (chs i j) else if i = a then (if j < b then lN (chs a j) else 0) else 0
theorem Rk_0 : (fun (_ : Nat) (_ : Nat) => (0 : Int64)) = Rk 0 0 := by
  funext i j
  unfold Rk
  rw [if_neg (Nat.not_lt_zero _)]
  split
  · rw [if_neg (Nat.not_lt_zero _)]
  · rfl
theorem Rk_s {a b : Nat} {x : Int64} (hx : x = lN (chs a b)) : va_up (Rk a b) a (vp_updL (Rk a b a) b x) = Rk a (b + 1) := by
  funext i j
  unfold va_up
  by_cases hi : i = a
  · subst hi
    rw [if_pos rfl]
    by_cases hj : j = b
    · subst hj
      rw [pk_uLs, hx]
      unfold Rk
      rw [if_neg (Nat.lt_irrefl _), if_pos rfl, if_pos (by omega)]
    · rw [pk_uLn hj]
      unfold Rk
      rw [if_neg (Nat.lt_irrefl _), if_pos rfl, if_neg (Nat.lt_irrefl _), if_pos rfl]
      by_cases h : j < b
      · rw [if_pos h, if_pos (by omega)]
      · rw [if_neg h, if_neg (by omega)]
  · rw [if_neg hi]
    unfold Rk
    by_cases h : i < a
    · rw [if_pos h, if_pos h]
    · rw [if_neg h, if_neg h, if_neg hi, if_neg hi]
theorem Rk_r (a : Nat) : Rk a (a + 1) = Rk (a + 1) 0 := by
  funext i j
  unfold Rk
  by_cases h : i < a
  · rw [if_pos h, if_pos (by omega)]
  · rw [if_neg h]
    by_cases hi : i = a
    · subst hi
      rw [if_pos rfl, if_pos (show i < i + 1 by omega)]
      by_cases hj : j < i + 1
      · rw [if_pos hj]
      · rw [if_neg hj, chs_gt (by omega)]; rfl
    · rw [if_neg hi, if_neg (by omega)]
      split
      · rw [if_neg (Nat.not_lt_zero _)]
      · rfl
theorem Rk_lt {a b i : Nat} (h : i < a) (j : Nat) : Rk a b i j = lN (chs i j) := if_pos h
theorem Rk_2 {a b : Nat} (hb : 0 < b) (hab : b ≤ a) : Rk a b (a - 1) (b - 1) + Rk a b (a - 1) b = lN (chs a b) := by
  rw [Rk_lt (by omega), Rk_lt (by omega), lN_add]
  obtain ⟨k, rfl⟩ : ∃ k, b = k + 1 := ⟨b - 1, by omega⟩
  obtain ⟨r, rfl⟩ : ∃ r, a = r + 1 := ⟨a - 1, by omega⟩
  rw [chs]; rfl
theorem rows_pl {r : Nat → Nat} {f : Nat → va_E} {e : va_E} : va_pl ([] ++ (List.range 61).map r) (vr_up f ((List.range 61).map r) e) = (List.range 61).map (fun i => (r i, e)) := by
  unfold va_pl
  rw [List.nil_append, List.map_map]
  apply List.map_congr_left
  intro i hi
  show (r i, vr_up f ((List.range 61).map r) e (r i)) = (r i, e)
  rw [vr_up_in (List.mem_map.mpr ⟨i, hi, rfl⟩)]
theorem wW_u {h0 r0 : Nat} {r : Nat → Nat} {cs : Nat → ClassId} : wW (fun k => if k = 4 then h0 else if k = 40 then r0 else r (k - 50)) cs = yWg h0 r0 r cs [.ref r0] (fun i j => lN (chs i j)) := by
  unfold wW yWg
  have e : ∀ i, (if 50 + i = 4 then h0 else if 50 + i = 40 then r0 else r (50 + i - 50)) = r i := fun i => by
    rw [if_neg (by omega), if_neg (by omega), show 50 + i - 50 = i by omega]
  simp only [e]
  rfl
/-- the start of a constructor that makes arrays of arrays -/
def mpreA (D : va_G) (cs : Nat → ClassId) (ws : va_W) (sz : Nat) (U : State) : Prop := U.heap.size = sz ∧ va_P D vwCl ws U.heap ∧ va_K D vwCl (ty3 cs) U ∧ NN U ∧ va_D (fun _ => True) ws ∧ va_AOA .long U
theorem mpreA.blind {D : va_G} {cs : Nat → ClassId} {ws : va_W} {sz : Nat} {av : List Value} : FrameBlind (va_Pc av (mpreA D cs ws sz)) := by
  intro a U g mk h
  obtain ⟨h0, hz, hP, hK, hN, hD, hO⟩ := h
  exact ⟨h0, hz, hP, va_K.moved (u := U) (U := U.calling g mk a) (Vm.Alike.refl U.vm) hK, NN.same (u := U) (U := U.calling g mk a) rfl hN, hD, va_AOA.same (u := U) (U := U.calling g mk a) rfl hO⟩
theorem nI_m9 {a : Nat} (ha : 0 < a) : nI a - 1 = nI (a - 1) := by rw [show (1 : Int32) = nI 1 from rfl, pk_sub (by omega)]
