theorem fb_holes : ∀ (m n : Nat) (f : Nat → Nat), (∀ i, i < n → f i < m) → (∀ i j, i < j → j < n → f i ≠ f j) → n ≤ m := by
  intro m
  induction m with
  | zero =>
    intro n f h1 _
    rcases Nat.eq_zero_or_pos n with h | h
    · omega
    · exact absurd (h1 0 h) (Nat.not_lt_zero _)
  | succ m ih =>
    intro n f h1 h2
    by_cases hx : ∃ i, i < n ∧ f i = m
    · obtain ⟨a, ha, hfa⟩ := hx
      have hg := ih (n - 1) (fun i => if i < a then f i else f (i + 1)) (by
        intro i hi
        by_cases q : i < a
        · simp only [if_pos q]
          have b1 := h1 i (by omega)
          have b2 := h2 i a q ha
          omega
        · simp only [if_neg q]
          have b1 := h1 (i + 1) (by omega)
          have b2 := h2 a (i + 1) (by omega) (by omega)
          omega) (by
        intro i j hij hj
        by_cases q : i < a
        · by_cases r : j < a
          · simp only [if_pos q, if_pos r]
            exact h2 i j hij (by omega)
          · simp only [if_pos q, if_neg r]
            exact h2 i (j + 1) (by omega) (by omega)
        · have r : ¬ j < a := by omega
          simp only [if_neg q, if_neg r]
          exact h2 (i + 1) (j + 1) (by omega) (by omega))
      omega
    · have hg := ih n f (fun i hi => by
        have b1 := h1 i hi
        have b2 : f i ≠ m := fun e => hx ⟨i, hi, e⟩
        omega) h2
      omega
/-! chains -/
theorem itP_add {F : Nat → Nat → Int32} (a : Nat) (x : Int32) : ∀ d, itP F (a + d) x = itP F d (itP F a x)
  | 0 => rfl
  | d + 1 => by
    show (if rg (itP F (a + d) x) 0 9 = true then F 12 (ix (itP F (a + d) x)) else itP F (a + d) x) = (if rg (itP F d (itP F a x)) 0 9 = true then F 12 (ix (itP F d (itP F a x))) else itP F d (itP F a x))
    rw [itP_add a x d]
theorem rg_m1 {x M : Int32} (h : rg x (-1) M = true) : x = -1 ∨ rg x 0 M = true := by
  by_cases e : x = -1
  · exact Or.inl e
  · right
    simp only [rg, Bool.and_eq_true, decide_eq_true_eq, Int32.le_iff_toInt_le, Int32.toInt_zero] at h ⊢
    have e1 : (-1 : Int32).toInt = -1 := by decide
    rw [e1] at h
    rw [← Int32.toInt_inj, e1] at e
    omega
theorem chain {F : Nat → Nat → Int32} {n c : Nat} (hI : Inv F n c) {x : Int32} (hx : rg x 0 9 = true) : ∃ J, J ≤ 10 ∧ itP F J x = -1 ∧ ∀ k, k < J → rg (itP F k x) 0 9 = true := by
  obtain ⟨i, hi, rfl⟩ := rg_nat (N := 10) (by decide) (by decide) hx
  obtain ⟨J, hJ, hm⟩ := pk_least (fun j => itP F j (nI i) = -1) (hI.Q hi).2.2.2
  have hk : ∀ k, k < J → rg (itP F k (nI i)) 0 9 = true := by
    intro k
    induction k with
    | zero => intro _; exact hx
    | succ k ih =>
      intro hkJ
      have h1 := ih (by omega)
      obtain ⟨y, hy, ey⟩ := rg_nat (N := 10) (by decide) (by decide) h1
      have e2 : itP F (k + 1) (nI i) = F 12 y := by
        show (if rg (itP F k (nI i)) 0 9 = true then F 12 (ix (itP F k (nI i))) else itP F k (nI i)) = F 12 y
        rw [if_pos h1, ey]
        show F 12 (ix (nI y)) = F 12 y
        rw [show ix (nI y) = y from nI_clamp (by omega)]
      rcases rg_m1 (hI.Q hy).1 with q | q
      · exact absurd (e2.trans q) (hm (k + 1) hkJ)
      · rw [e2]; exact q
  refine ⟨J, ?_, hJ, hk⟩
  refine fb_holes 10 J (fun k => ix (itP F k (nI i))) (fun k h => ?_) (fun a b hab hb e => ?_)
  · obtain ⟨y, hy, ey⟩ := rg_nat (N := 10) (by decide) (by decide) (hk k h)
    show ix (itP F k (nI i)) < 10
    rw [ey, show ix (nI y) = y from nI_clamp (by omega)]; exact hy
  · obtain ⟨y, hy, ey⟩ := rg_nat (N := 10) (by decide) (by decide) (hk a (by omega))
    obtain ⟨z, hz, ez⟩ := rg_nat (N := 10) (by decide) (by decide) (hk b hb)
    have e' : ix (itP F a (nI i)) = ix (itP F b (nI i)) := e
    rw [ey, ez, show ix (nI y) = y from nI_clamp (by omega), show ix (nI z) = z from nI_clamp (by omega)] at e'
    have e2 : itP F a (nI i) = itP F b (nI i) := by rw [ey, ez, e']
    have e3 : itP F (a + (J - b)) (nI i) = itP F (b + (J - b)) (nI i) := by rw [itP_add, itP_add, e2]
    rw [show b + (J - b) = J by omega, hJ] at e3
    exact hm (a + (J - b)) (by omega) e3
theorem m1_ne {x M : Int32} (h : rg x 0 M = true) : ¬ (-1 : Int32) = x := fun e => by rw [← e] at h; exact absurd (rg_nn h) (by decide)
theorem canC_p {pt bs fr to0 : Int32} (h : canC pt bs fr to0 = true) : rg pt 0 9 = true := by
  simp only [canC, Bool.and_eq_true] at h
  exact h.1.1.1
theorem sCal_s {F : Nat → Nat → Int32} {bs fr to0 : Int32} {t : Nat} {pt : Int32} {k : Nat} : sCal F bs fr to0 t pt (k + 1) = (sCal F bs fr to0 t pt k && !sCc F t pt k) := by
  simp only [sCal, anyB]
  cases sCb F bs fr to0 t <;> cases anyB (sCc F t pt) k <;> cases sCc F t pt k <;> rfl
/-! the class's own forms -/
def aUndC (F : Nat → Nat → Int32) (c : Nat) (f0 mo : Int32) : Int32 := if rg f0 0 300 = true then (if rg mo 0 300 = true then (if f0 ≤ mo then (if mo - f0 < 11 then (if ctI (sDel F 0 (mo - f0) mo) c = 0 then -1 else ctI (sFail F f0 mo) c * ctI (sDel F 0 11 mo) c / ctI (sDel F 0 (mo - f0) mo) c) else ctI (sFail F f0 mo) c) else -2) else -2) else -2
def cald (F : Nat → Nat → Int32) (n c : Nat) (pt bs fr to0 : Int32) : Int64 := orL (sSold F bs fr to0) (fun k => bit1 (nI k)) n &&& (orL (sHit F (wau F pt 10) 300) (fun k => bit1 (F 6 k)) c ^^^ (-1))
def canK (pt bs fr to0 : Int32) : Bool := rg pt 0 9 && rg bs 1 255 && rg fr 0 119 && rg to0 0 119 && decide (fr ≤ to0)
theorem fnd_no {p : Nat → Bool} {i : Int32} : ∀ N : Nat, (∀ j, j < N → p j = true → ¬ ctI p j = i) → fnd p i N = -1
  | 0, _ => rfl
  | N + 1, h => by
    have ih := fnd_no N (fun j hj => h j (by omega))
    by_cases hp : p N = true
    · rw [fnd, if_pos hp, if_neg (h N (by omega) hp), ih]
    · rw [fnd, if_neg hp, ih]
theorem ctI_nat {p : Nat → Bool} : ∀ k : Nat, ∃ j, j ≤ k ∧ ctI p k = nI j
  | 0 => ⟨0, Nat.le_refl _, rfl⟩
  | k + 1 => by
    obtain ⟨j, hj, e⟩ := ctI_nat (p := p) k
    by_cases hp : p k = true
    · exact ⟨j + 1, by omega, by rw [ctI, if_pos hp, e, nI_1]⟩
    · exact ⟨j, by omega, by rw [ctI, if_neg hp, e]⟩
/-- the same count, as a number -/
def ctN (p : Nat → Bool) : Nat → Nat
  | 0 => 0
  | k + 1 => if p k = true then ctN p k + 1 else ctN p k
theorem ctN_le {p : Nat → Bool} : ∀ k : Nat, ctN p k ≤ k
  | 0 => Nat.le_refl _
  | k + 1 => by
    have := ctN_le (p := p) k
    rw [ctN]; split <;> omega
theorem ctI_N {p : Nat → Bool} : ∀ k : Nat, ctI p k = nI (ctN p k)
  | 0 => rfl
  | k + 1 => by
    rw [ctI, ctN, ctI_N k]
    split
    · rw [nI_1]
    · rfl
theorem ctN_mono {p : Nat → Bool} {a : Nat} : ∀ d : Nat, ctN p a ≤ ctN p (a + d)
  | 0 => Nat.le_refl _
  | d + 1 => by
    have h := ctN_mono (p := p) (a := a) d
    show _ ≤ ctN p ((a + d) + 1)
    rw [ctN]; split <;> omega
theorem fnd_at {p : Nat → Bool} {i : Int32} {k : Nat} (hp : p k = true) (hi : ctI p k = i) : ∀ d : Nat, k + 1 + d < 2 ^ 31 → fnd p i (k + 1 + d) = nI k
  | 0, _ => by rw [Nat.add_zero, fnd, if_pos hp, if_pos hi]
  | d + 1, h => by
    have ih := fnd_at hp hi d (by omega)
    show fnd p i ((k + 1 + d) + 1) = nI k
    have hne : ¬ ctI p (k + 1 + d) = i := by
      rw [← hi, ctI_N, ctI_N]
      have h1 := ctN_mono (p := p) (a := k + 1) d
      have h2 : ctN p (k + 1) = ctN p k + 1 := by rw [ctN, if_pos hp]
      have h3 := ctN_le (p := p) (k + 1 + d)
      intro e
      rw [nI_eq (by omega) (by omega)] at e
      omega
    by_cases hq : p (k + 1 + d) = true
    · rw [fnd, if_pos hq, if_neg hne, ih]
    · rw [fnd, if_neg hq, ih]
theorem nI_nn {k : Nat} (h : k < 100) : ¬ nI k < 0 := nI_pos (by omega)
