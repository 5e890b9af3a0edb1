theorem va_A1 {b : Nat} {e : va_E} {sz x : Nat} : va_A [(b, e)] sz x ↔ x = b ∨ sz ≤ x := by
  constructor
  · rintro (⟨k, e2, h⟩ | h)
    · left
      have hk : k < 1 := (List.getElem?_eq_some_iff.mp h).1
      rw [show k = 0 by omega] at h
      cases h; rfl
    · exact Or.inr h
  · rintro (h | h)
    · exact Or.inl ⟨0, e, by rw [h]; rfl⟩
    · exact Or.inr h
theorem va_D_1 {b : Nat} {e : va_E} : va_D (fun _ => True) [(b, e)] := by
  refine ⟨fun i j p q hi hj _ => ?_, fun _ _ _ => trivial⟩
  have h1 : i < 1 := (List.getElem?_eq_some_iff.mp hi).1
  have h2 : j < 1 := (List.getElem?_eq_some_iff.mp hj).1
  omega
theorem va_snoc {A0 : Nat → Prop} {D : va_G} {cl : List vw_C} {wr w1 : va_W} {b : Nat} {e : va_E} {H H1 : Heap} (hP : va_P D cl (wr ++ [(b, e)]) H) (hD : va_D A0 (wr ++ [(b, e)])) (hk : ∀ q : Nat, q < H.size → ¬ va_A [(b, e)] H.size q → H1[q]? = H[q]?) (hF : ∀ q, va_A [(b, e)] H.size q → A0 q) (hP1 : va_P D cl w1 H1) (hD1 : va_D (va_A [(b, e)] H.size) w1) : va_P D cl (wr ++ w1) H1 ∧ va_D A0 (wr ++ w1) := by
  have inw : ∀ (k : Nat) (q : Nat × va_E), wr[k]? = some q → (wr ++ [(b, e)])[k]? = some q := fun k q h => by
    rw [List.getElem?_append_left (List.getElem?_eq_some_iff.mp h).1]; exact h
  have apart : ∀ (k : Nat) (q : Nat × va_E), wr[k]? = some q → q.1 < H.size ∧ ¬ va_A [(b, e)] H.size q.1 := by
    intro k q hq
    have hl := (hP k q (inw k q hq)).lt
    refine ⟨hl, fun h => ?_⟩
    rcases va_A1.mp h with h | h
    · have hb : (wr ++ [(b, e)])[wr.length]? = some (b, e) := by simp
      have := hD.1 k wr.length q (b, e) (inw k q hq) hb h
      have := (List.getElem?_eq_some_iff.mp hq).1
      omega
    · omega
  refine ⟨va_P.app (fun k q hq => ?_) hP1, va_D.app ⟨fun i j p q hi hj hpq => hD.1 i j p q (inw i p hi) (inw j q hj) hpq, fun k q hq => hD.2 k q (inw k q hq)⟩ (hD1.weaken (fun k q _ h => hF q.1 h)) (fun i j x y hx hy hxy => ?_)⟩
  · obtain ⟨g1, g2⟩ := apart k q hq
    exact (hP k q (inw k q hq)).kept (hk q.1 g1 g2)
  · exact (apart i x hx).2 (by rw [hxy]; exact hD1.2 j y hy)
section CJ
variable {p : Program} {l : Launch} {e : Env} {R : Room} {s : State} {m : MethodId} {args : Array Value} {below : List Frame} {meth : Method} {c : Code} {H : Heap} {locs : List Loc} {cells slots : Nat} {Q : State → Prop}
variable {pc mc ms : Nat} {ls : Array Slot} {rest st0 : List Value} {D : va_G} {wr : va_W} {A : Nat → Prop} {H0 : Heap}
theorem ctJ {b ci kk : Nat} {fs : List Value} {w1 : (Nat → Nat) → va_W} {a : Array Value} (hr : va_Run p l e R s m args below meth c H locs cells slots mc ms (F0 m pc ls st0) rest (va_Qv (fun (_ : Nat → Nat) => True) (fun u t => u kk = b ∧ va_P D vwCl (w1 u) t.heap ∧ va_D (va_A [(b, .inr (ci, fs))] H.size) (w1 u)) (va_A [(b, .inr (ci, fs))] H.size) a) (va_A [(b, .inr (ci, fs))] H.size)) (hP : va_P D vwCl (wr ++ [(b, .inr (ci, fs))]) H) (hD : va_D A (wr ++ [(b, .inr (ci, fs))])) (hS : va_S A H0 H locs) (hA : ∀ q, H0.size ≤ q → A q)
    (k : ∀ (u : Nat → Nat) (H1 : Heap) (locs1 : List Loc), u kk = b → va_P D vwCl (wr ++ w1 u) H1 → va_D A (wr ++ w1 u) → va_S A H0 H1 locs1 → W p l e R s m args below meth c H1 locs1 (cells + mc) (slots + ms) Q (F0 m (pc + 3) ls rest)) : W p l e R s m args below meth c H locs cells slots Q (F0 m pc ls st0) := by
  have hF : ∀ q, va_A [(b, .inr (ci, fs))] H.size q → A q := fun q h => by
    rcases va_A1.mp h with h | h
    · rw [h]; exact hD.2 wr.length (b, .inr (ci, fs)) (by simp)
    · exact hA q (Nat.le_trans hS.1 h)
  refine va_callv hr hS (fun q _ h => hF q h) hF (fun u t H1 locs1 ht hvm hw hB hz1 hk1 hS1 => ?_)
  obtain ⟨hu, hP1, hD1⟩ := hB
  rw [ht] at hP1
  obtain ⟨h1, h2⟩ := va_snoc hP hD hk1 hF hP1 hD1
  exact k u H1 locs1 hu h1 h2 hS1
end CJ
theorem wW_cong {q q' : Nat → Nat} {cs : Nat → ClassId} (h1 : q 4 = q' 4) (h2 : q 40 = q' 40) (h3 : ∀ i, q (50 + i) = q' (50 + i)) : wW q cs = wW q' cs := by
  unfold wW
  simp only [h1, h2, h3]
/-- the addresses put together -/
def uX (h0 : Nat) (u1 u2 u3 u4 : Nat → Nat) : Nat → Nat := fun k => if k = 0 then h0 else if k = 1 then u1 1 else if k = 2 then u2 2 else if k = 3 then u3 3 else if k < 10 then u4 k else if k < 20 then u1 k else if k < 30 then u2 k else if k < 40 then u3 k else u4 k
theorem uX_w {h0 : Nat} {u1 u2 u3 u4 : Nat → Nat} {cs : Nat → ClassId} : wW (uX h0 u1 u2 u3 u4) cs = wW u4 cs := wW_cong rfl rfl (fun i => by
  unfold uX
  rw [if_neg (by omega), if_neg (by omega), if_neg (by omega), if_neg (by omega), if_neg (by omega), if_neg (by omega), if_neg (by omega), if_neg (by omega)])
theorem uX_x {h0 : Nat} {u1 u2 u3 u4 : Nat → Nat} {cs : Nat → ClassId} : xW (uX h0 u1 u2 u3 u4) cs FZ 0 0 1 = ((([(h0, .inr (4, [.ref (u1 1), .ref (u2 2), .ref (u3 3), .ref (u4 4), .int 1]))] ++ tW u1 cs FZ 0) ++ cW u2 cs FZ 0) ++ pW u3 cs FZ) ++ wW u4 cs := by
  unfold xW
  rw [uX_w]
  rfl
