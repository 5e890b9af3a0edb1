/-! Euclid's steps -/
def gP (a b : Nat) : Nat → Nat × Nat
  | 0 => (a, b)
  | k + 1 => ((gP a b k).2, (gP a b k).1 % (gP a b k).2)
def GI (a b k x y : Nat) : Prop := Nat.gcd x y = Nat.gcd a b ∧ x < 2 ^ 63 ∧ y < 2 ^ 63 ∧ (k = 0 ∨ (y < x ∧ x * y * 2 ^ k ≤ 2 ^ 127))
theorem GI_0 {a b : Nat} (ha : a < 2 ^ 63) (hb : b < 2 ^ 63) : GI a b 0 a b := ⟨rfl, ha, hb, Or.inl rfl⟩
theorem half_mod {x y : Nat} (q : 0 < y) (h : y < x) : 2 * (x % y) ≤ x := by
  have h1 := Nat.mod_lt x q
  have h2 := Nat.mod_add_div x y
  have h3 : 1 ≤ x / y := (Nat.one_le_div_iff q).mpr (Nat.le_of_lt h)
  have h4 : y * 1 ≤ y * (x / y) := Nat.mul_le_mul_left y h3
  omega
theorem GI_s {a b k x y : Nat} (h : GI a b k x y) (hy : ¬ y = 0) : GI a b (k + 1) y (x % y) := by
  obtain ⟨h1, h2, h3, h4⟩ := h
  have hp : 0 < y := Nat.pos_of_ne_zero hy
  have hm := Nat.mod_lt x hp
  refine ⟨?_, h3, Nat.lt_trans hm h3, Or.inr ⟨hm, ?_⟩⟩
  · rw [← h1, Nat.gcd_comm x y, Nat.gcd_rec y x, Nat.gcd_comm]
  · rcases h4 with h4 | ⟨h5, h6⟩
    · subst h4
      have e1 : y * (x % y) ≤ 2 ^ 63 * 2 ^ 63 := Nat.mul_le_mul (Nat.le_of_lt h3) (Nat.le_of_lt (Nat.lt_trans hm h3))
      have e2 : (2 : Nat) ^ 63 * 2 ^ 63 * 2 ^ 1 = 2 ^ 127 := by decide
      calc y * (x % y) * 2 ^ (0 + 1) ≤ 2 ^ 63 * 2 ^ 63 * 2 ^ (0 + 1) := Nat.mul_le_mul_right _ e1
        _ = 2 ^ 127 := e2
    · have e1 := half_mod hp h5
      have e2 : y * (2 * (x % y)) ≤ y * x := Nat.mul_le_mul_left y e1
      calc y * (x % y) * 2 ^ (k + 1) = y * (2 * (x % y)) * 2 ^ k := by rw [Nat.pow_succ, Nat.mul_comm (2 ^ k) 2, ← Nat.mul_assoc, Nat.mul_assoc y, Nat.mul_comm (x % y) 2]
        _ ≤ y * x * 2 ^ k := Nat.mul_le_mul_right _ e2
        _ = x * y * 2 ^ k := by rw [Nat.mul_comm y x]
        _ ≤ 2 ^ 127 := h6
theorem pow_big {v k m : Nat} (h : v * 2 ^ k ≤ 2 ^ m) (hk : m < k) : v = 0 := by
  rcases Nat.eq_zero_or_pos v with q | q
  · exact q
  · exfalso
    have h1 : 1 * 2 ^ k ≤ v * 2 ^ k := Nat.mul_le_mul_right _ q
    have h2 : 2 ^ m < 2 ^ k := Nat.pow_lt_pow_right (by decide) hk
    omega
theorem GI_end {a b x y : Nat} (h : GI a b 200 x y) : y = 0 := by
  obtain ⟨h1, h2, h3, h4⟩ := h
  rcases h4 with h4 | ⟨h5, h6⟩
  · exact absurd h4 (by decide)
  · have := pow_big h6 (by decide)
    rcases Nat.mul_eq_zero.mp this with q | q
    · omega
    · exact q
theorem GI_g {a b k x y : Nat} (h : GI a b k x y) (hz : y = 0) : x = Nat.gcd a b := by
  rw [← h.1, hz, Nat.gcd_zero_right]
theorem lN_0 {x : Nat} (h : x < 2 ^ 63) : lN x = 0 ↔ x = 0 := by
  rw [show (0 : Int64) = lN 0 from rfl, pk_lEQ h (by decide)]
theorem lN_rem {x y : Nat} (hx : x < 2 ^ 63) (hy : y < 2 ^ 63) (h : ¬ lN y = 0) : lN x - lN x / lN y * lN y = lN (x % y) := by
  rw [lN_0 hy] at h
  exact pk_lRem hx (Nat.pos_of_ne_zero h) hy
theorem lN_pos {y : Nat} (hy : y < 2 ^ 63) (h : 0 < y) : ¬ lN y = 0 := by
  rw [lN_0 hy]; omega
/-! fractions compared by whole parts and rests -/
def sL (a b c d : Nat) : Nat → Nat × Nat × Nat × Nat
  | 0 => (a, b, c, d)
  | k + 1 => ((sL a b c d k).2.2.2, (sL a b c d k).2.2.1 % (sL a b c d k).2.2.2, (sL a b c d k).2.1, (sL a b c d k).1 % (sL a b c d k).2.1)
def LI (a b c d k x y z w : Nat) : Prop := 0 < y ∧ 0 < w ∧ (x < 2 ^ 63 ∧ y < 2 ^ 63 ∧ z < 2 ^ 63 ∧ w < 2 ^ 63) ∧ (x * w < z * y ↔ a * d < c * b) ∧ (k = 0 ∨ (y < x ∧ w < z ∧ (x * y + z * w) * 2 ^ k ≤ 2 ^ 128))
theorem LI_0 {a b c d : Nat} (ha : a < 2 ^ 63) (hb : b < 2 ^ 63) (hc : c < 2 ^ 63) (hd : d < 2 ^ 63) (h1 : 0 < b) (h2 : 0 < d) : LI a b c d 0 a b c d := ⟨h1, h2, ⟨ha, hb, hc, hd⟩, Iff.rfl, Or.inl rfl⟩
theorem cross {x y z w : Nat} (e : x / y = z / w) : x * w < z * y ↔ w * (x % y) < y * (z % w) := by
  have hx := Nat.mod_add_div x y
  have hz := Nat.mod_add_div z w
  have e1 : x * w = w * (x % y) + y * w * (z / w) := by
    conv => lhs; rw [← hx, e]
    rw [Nat.add_mul, Nat.mul_comm (x % y) w, Nat.mul_assoc, Nat.mul_comm (z / w) w, Nat.mul_assoc]
  have e2 : z * y = y * (z % w) + y * w * (z / w) := by
    conv => lhs; rw [← hz]
    rw [Nat.add_mul, Nat.mul_comm (z % w) y, Nat.mul_comm (w * (z / w)) y, Nat.mul_assoc]
  rw [e1, e2]
  omega
theorem LI_s {a b c d k x y z w : Nat} (h : LI a b c d k x y z w) (e : x / y = z / w) (hp : ¬ x % y = 0) (hr : ¬ z % w = 0) : LI a b c d (k + 1) w (z % w) y (x % y) := by
  obtain ⟨hy, hw, ⟨b1, b2, b3, b4⟩, h4, h5⟩ := h
  have m1 := Nat.mod_lt x hy
  have m2 := Nat.mod_lt z hw
  refine ⟨Nat.pos_of_ne_zero hr, Nat.pos_of_ne_zero hp, ⟨b4, by omega, b2, by omega⟩, ?_, Or.inr ⟨m2, m1, ?_⟩⟩
  · rw [← h4, cross e]
  · rcases h5 with h5 | ⟨g1, g2, g3⟩
    · subst h5
      have e1 : w * (z % w) ≤ 2 ^ 63 * 2 ^ 63 := Nat.mul_le_mul (Nat.le_of_lt b4) (by omega)
      have e2 : y * (x % y) ≤ 2 ^ 63 * 2 ^ 63 := Nat.mul_le_mul (Nat.le_of_lt b2) (by omega)
      calc (w * (z % w) + y * (x % y)) * 2 ^ (0 + 1) ≤ (2 ^ 63 * 2 ^ 63 + 2 ^ 63 * 2 ^ 63) * 2 ^ (0 + 1) := Nat.mul_le_mul_right _ (Nat.add_le_add e1 e2)
        _ = 2 ^ 128 := by decide
    · have e1 : w * (2 * (z % w)) ≤ w * z := Nat.mul_le_mul_left w (half_mod hw g2)
      have e2 : y * (2 * (x % y)) ≤ y * x := Nat.mul_le_mul_left y (half_mod hy g1)
      have e3 : (w * (z % w) + y * (x % y)) * 2 ≤ x * y + z * w := by
        rw [Nat.mul_comm x y, Nat.mul_comm z w]
        have q1 : w * (2 * (z % w)) = 2 * (w * (z % w)) := by rw [Nat.mul_left_comm]
        have q2 : y * (2 * (x % y)) = 2 * (y * (x % y)) := by rw [Nat.mul_left_comm]
        omega
      calc (w * (z % w) + y * (x % y)) * 2 ^ (k + 1) = (w * (z % w) + y * (x % y)) * 2 * 2 ^ k := by rw [Nat.pow_succ, Nat.mul_comm (2 ^ k) 2, ← Nat.mul_assoc]
        _ ≤ (x * y + z * w) * 2 ^ k := Nat.mul_le_mul_right _ e3
        _ ≤ 2 ^ 128 := g3
theorem LI_end {a b c d x y z w : Nat} (h : LI a b c d 200 x y z w) : False := by
  obtain ⟨hy, hw, -, -, h5⟩ := h
  rcases h5 with h5 | ⟨g1, g2, g3⟩
  · exact absurd h5 (by decide)
  · have h0 := pow_big g3 (by decide)
    have h1 : 0 < x * y := Nat.mul_pos (by omega) hy
    omega
theorem LI_lt {a b c d k x y z w : Nat} (h : LI a b c d k x y z w) (hl : x / y < z / w) : a * d < c * b := by
  obtain ⟨hy, hw, -, h4, -⟩ := h
  rw [← h4]
  have h1 : x < y * (x / y + 1) := Nat.lt_mul_div_succ x hy
  have h2 : y * (x / y + 1) ≤ y * (z / w) := Nat.mul_le_mul_left y hl
  have h3 : (z / w) * w ≤ z := Nat.div_mul_le_self z w
  calc x * w < y * (z / w) * w := Nat.mul_lt_mul_of_pos_right (Nat.lt_of_lt_of_le h1 h2) hw
    _ = (z / w) * w * y := by rw [Nat.mul_comm y, Nat.mul_assoc, Nat.mul_comm y w, Nat.mul_assoc]
    _ ≤ z * y := Nat.mul_le_mul_right y h3
theorem LI_ge {a b c d k x y z w : Nat} (h : LI a b c d k x y z w) (hl : z / w < x / y) : ¬ a * d < c * b := by
  obtain ⟨hy, hw, -, h4, -⟩ := h
  rw [← h4]
  have h1 : z < w * (z / w + 1) := Nat.lt_mul_div_succ z hw
  have h2 : w * (z / w + 1) ≤ w * (x / y) := Nat.mul_le_mul_left w hl
  have h3 : (x / y) * y ≤ x := Nat.div_mul_le_self x y
  have h5 : z * y < x * w := by
    calc z * y < w * (x / y) * y := Nat.mul_lt_mul_of_pos_right (Nat.lt_of_lt_of_le h1 h2) hy
      _ = (x / y) * y * w := by rw [Nat.mul_comm w, Nat.mul_assoc, Nat.mul_comm w y, Nat.mul_assoc]
      _ ≤ x * w := Nat.mul_le_mul_right w h3
  omega
theorem LI_pos {a b c d k x y z w : Nat} (h : LI a b c d k x y z w) (e : x / y = z / w) (hp : x % y = 0) (hr : ¬ z % w = 0) : a * d < c * b := by
  obtain ⟨hy, hw, -, h4, -⟩ := h
  rw [← h4, cross e, hp, Nat.mul_zero]
  exact Nat.mul_pos hy (Nat.pos_of_ne_zero hr)
theorem LI_zero {a b c d k x y z w : Nat} (h : LI a b c d k x y z w) (e : x / y = z / w) (hr : z % w = 0) : ¬ a * d < c * b := by
  obtain ⟨hy, hw, -, h4, -⟩ := h
  rw [← h4, cross e, hr, Nat.mul_zero]
  exact Nat.not_lt_zero _
/-! ways to choose -/
theorem chs_0 (n : Nat) : chs n 0 = 1 := by cases n <;> rfl
theorem chs_gt : ∀ {n k : Nat}, n < k → chs n k = 0
  | _, 0, h => absurd h (Nat.not_lt_zero _)
  | 0, _ + 1, _ => rfl
  | n + 1, k + 1, h => by rw [chs, chs_gt (by omega), chs_gt (by omega)]
theorem chs_pos : ∀ {n k : Nat}, k ≤ n → 0 < chs n k
  | n, 0, _ => by rw [chs_0]; decide
  | 0, _ + 1, h => absurd h (by omega)
  | n + 1, k + 1, h => by
    have := chs_pos (n := n) (k := k) (by omega)
    rw [chs]; omega
theorem chs_le : ∀ (n k : Nat), chs n k ≤ 2 ^ n
  | n, 0 => by rw [chs_0]; exact Nat.one_le_two_pow
  | 0, _ + 1 => by rw [chs]; exact Nat.zero_le _
  | n + 1, k + 1 => by
    have h1 := chs_le n k
    have h2 := chs_le n (k + 1)
    rw [chs, Nat.pow_succ]; omega
theorem chs_63 {n : Nat} (hn : n ≤ 60) (k : Nat) : chs n k < 2 ^ 63 :=
  Nat.lt_of_le_of_lt (chs_le n k) (Nat.lt_of_le_of_lt (Nat.pow_le_pow_right (by decide) hn) (by decide))
def smN (f : Nat → Nat) : Nat → Nat
  | 0 => 0
  | k + 1 => smN f k + f k
def smR (f : Nat → Nat) (lo : Nat) : Nat → Nat
  | 0 => 0
  | k + 1 => if lo ≤ k then smR f lo k + f k else smR f lo k
theorem smR_lo {f : Nat → Nat} {lo : Nat} : ∀ k : Nat, k ≤ lo → smR f lo k = 0
  | 0, _ => rfl
  | k + 1, h => by rw [smR, if_neg (by omega), smR_lo k (by omega)]
theorem smR_le {f : Nat → Nat} {lo : Nat} : ∀ k : Nat, smR f lo k ≤ smN f k
  | 0 => Nat.le_refl _
  | k + 1 => by
    have h := smR_le (f := f) (lo := lo) k
    rw [smR, smN]; split <;> omega
theorem smR_ext {f : Nat → Nat} {lo k : Nat} : ∀ d : Nat, (∀ j, k ≤ j → j < k + d → f j = 0) → smR f lo (k + d) = smR f lo k
  | 0, _ => rfl
  | d + 1, h => by
    show smR f lo ((k + d) + 1) = _
    rw [smR, smR_ext d (fun j h1 h2 => h j h1 (by omega)), h (k + d) (by omega) (by omega)]
    simp
theorem smN_0 {f : Nat → Nat} : ∀ m : Nat, smN f (m + 1) = f 0 + smN (fun i => f (i + 1)) m
  | 0 => by rw [smN, smN, smN]; omega
  | m + 1 => by rw [smN, smN_0 m, smN]; omega
theorem smN_add {f g : Nat → Nat} : ∀ m : Nat, smN (fun i => f i + g i) m = smN f m + smN g m
  | 0 => rfl
  | m + 1 => by rw [smN, smN, smN, smN_add m]; omega
theorem smN_cong {f g : Nat → Nat} : ∀ {m : Nat}, (∀ i, i < m → f i = g i) → smN f m = smN g m
  | 0, _ => rfl
  | m + 1, h => by rw [smN, smN, smN_cong (fun i hi => h i (by omega)), h m (by omega)]
theorem smN_zero {f : Nat → Nat} : ∀ {m : Nat}, (∀ i, i < m → f i = 0) → smN f m = 0
  | 0, _ => rfl
  | m + 1, h => by rw [smN, smN_zero (fun i hi => h i (by omega)), h m (by omega)]
theorem vander (R : Nat) : ∀ (K m : Nat), smN (fun i => chs K i * chs R (m - i)) (m + 1) = chs (K + R) m
  | 0, m => by
    rw [smN_0, smN_zero (fun i _ => by show chs 0 (i + 1) * _ = 0; rw [chs, Nat.zero_mul]), chs_0, Nat.one_mul, Nat.sub_zero, Nat.add_zero, Nat.zero_add]
  | K + 1, 0 => by rw [smN_0, smN, chs_0, chs_0, chs_0]
  | K + 1, m + 1 => by
    have h1 := vander R K m
    have h2 := vander R K (m + 1)
    rw [smN_0] at h2
    rw [smN_0, smN_cong (g := fun i => chs K i * chs R (m - i) + chs K (i + 1) * chs R (m + 1 - (i + 1))) (fun i _ => by
      show chs (K + 1) (i + 1) * chs R (m + 1 - (i + 1)) = _
      rw [chs, Nat.add_mul, show m + 1 - (i + 1) = m - i by omega]), smN_add, h1, chs_0, show K + 1 + R = (K + R) + 1 by omega, chs, ← h2, chs_0]
    omega
def Uf (K M nb : Nat) : Nat → Nat := fun i => chs K i * chs (M - K) (nb - i)
def uW (K M nb kb : Nat) : Nat := smR (Uf K M nb) kb (nb + 1)
theorem uW_le {K M nb kb : Nat} (h : K ≤ M) : uW K M nb kb ≤ chs M nb := by
  have h1 := smR_le (f := Uf K M nb) (lo := kb) (nb + 1)
  have h2 := vander (M - K) K nb
  rw [show K + (M - K) = M by omega] at h2
  show smR (Uf K M nb) kb (nb + 1) ≤ _
  rw [← h2]; exact h1
theorem uW_min {K M nb kb N : Nat} (h : N = min K nb + 1) : smR (Uf K M nb) kb N = uW K M nb kb := by
  unfold uW
  rcases Nat.lt_or_ge K nb with q | q
  · have e : N = K + 1 := by omega
    rw [e, show nb + 1 = (K + 1) + (nb - K) by omega, smR_ext (nb - K) (fun j h1 _ => by unfold Uf; rw [chs_gt (by omega), Nat.zero_mul])]
  · rw [show N = nb + 1 by omega]
theorem wyF_at {a b : Nat} (h : b < 61) (ha : a < 61) : wyF (61 * a + b) = lN (chs a b) := by
  unfold wyF
  rw [if_pos (by omega), show (61 * a + b) / 61 = a by omega, show (61 * a + b) % 61 = b by omega]
theorem ctN_imp {p r : Nat → Bool} : ∀ {k : Nat}, (∀ j, j < k → p j = true → r j = true) → ctN p k ≤ ctN r k
  | 0, _ => Nat.le_refl _
  | k + 1, h => by
    have ih := ctN_imp (p := p) (r := r) (k := k) (fun j hj => h j (by omega))
    rw [ctN, ctN]
    by_cases hp : p k = true
    · rw [if_pos hp, if_pos (h k (by omega) hp)]; omega
    · rw [if_neg hp]; split <;> omega
theorem lowest {a b : Nat} (hb : 0 < b) : 0 < Nat.gcd a b := Nat.gcd_pos_of_pos_right a hb
theorem lN_npos {y : Nat} (hy : y < 2 ^ 63) (h : 0 < y) : ¬ lN y ≤ 0 := by
  rw [show (0 : Int64) = lN 0 from rfl, pk_lLE hy (by decide)]; omega
theorem lN_le0 {y : Nat} (hy : y < 2 ^ 63) (h : lN y ≤ 0) : y = 0 := by
  rw [show (0 : Int64) = lN 0 from rfl, pk_lLE hy (by decide)] at h; omega
theorem lN_nle0 {y : Nat} (h : ¬ lN y ≤ 0) : ¬ y = 0 := fun e => h (by rw [e]; exact Int64.le_refl 0)
theorem cg5 {α β γ δ ε : Type} (f : α → β → γ → δ → ε → List (Nat × Value)) {a b : α} {c d : β} {x y : γ} {u v : δ} {i j : ε} (h : a = b) (h2 : c = d) (h3 : x = y) (h4 : u = v) (h5 : i = j) : f a c x u i = f b d y v j := by rw [h, h2, h3, h4, h5]
