theorem nI_le0 {k : Nat} (h : k < 2 ^ 31) : nI k ≤ 0 ↔ k = 0 := by
  rw [show (0 : Int32) = nI 0 from rfl, nI_leI h (by decide)]; omega
theorem sKb_le {F : Nat → Nat → Int32} {n c : Nat} {x p0 mo : Int32} : sKb F n c x p0 mo ≤ sNb F n x := ctN_imp (fun j _ h => by rw [Bool.and_eq_true] at h; exact h.1)
theorem g63 {F : Nat → Nat → Int32} {n c : Nat} (hI : Inv F n c) {x p0 mo : Int32} : Nat.gcd (cU F n c x p0 mo) (cL F n x) < 2 ^ 63 := Nat.lt_of_le_of_lt (Nat.gcd_le_right _ cL_pos) (cL_63 hI)
theorem cUg {F : Nat → Nat → Int32} {n c : Nat} (hI : Inv F n c) {x p0 mo : Int32} : cU F n c x p0 mo / Nat.gcd (cU F n c x p0 mo) (cL F n x) < 2 ^ 63 := Nat.lt_of_le_of_lt (Nat.div_le_self _ _) (cU_63 hI)
theorem cLg {F : Nat → Nat → Int32} {n c : Nat} (hI : Inv F n c) {x p0 mo : Int32} : cL F n x / Nat.gcd (cU F n c x p0 mo) (cL F n x) < 2 ^ 63 := Nat.lt_of_le_of_lt (Nat.div_le_self _ _) (cL_63 hI)
theorem div_gcd_pos {a b : Nat} (hb : 0 < b) : 0 < b / Nat.gcd a b := Nat.div_pos (Nat.gcd_le_right a hb) (lowest hb)
def oddA (F : Nat → Nat → Int32) (n c : Nat) (p0 mo : Int32) (k : Nat) : Nat := if (odC F n c p0 mo k).1 = -1 then 0 else (odC F n c p0 mo k).2.1 / Nat.gcd (odC F n c p0 mo k).2.1 (odC F n c p0 mo k).2.2
def oddB (F : Nat → Nat → Int32) (n c : Nat) (p0 mo : Int32) (k : Nat) : Nat := if (odC F n c p0 mo k).1 = -1 then 1 else (odC F n c p0 mo k).2.2 / Nat.gcd (odC F n c p0 mo k).2.1 (odC F n c p0 mo k).2.2
theorem oddA_63 {F : Nat → Nat → Int32} {n c : Nat} (hI : Inv F n c) {p0 mo : Int32} (k : Nat) : oddA F n c p0 mo k < 2 ^ 63 := by
  unfold oddA; split
  · decide
  · exact Nat.lt_of_le_of_lt (Nat.div_le_self _ _) (odC_ok hI k).1
theorem oddB_63 {F : Nat → Nat → Int32} {n c : Nat} (hI : Inv F n c) {p0 mo : Int32} (k : Nat) : oddB F n c p0 mo k < 2 ^ 63 := by
  unfold oddB; split
  · decide
  · exact Nat.lt_of_le_of_lt (Nat.div_le_self _ _) (odC_ok hI k).2.1
theorem oddB_pos {F : Nat → Nat → Int32} {n c : Nat} (hI : Inv F n c) {p0 mo : Int32} (k : Nat) : 0 < oddB F n c p0 mo k := by
  unfold oddB; split
  · decide
  · exact div_gcd_pos (odC_ok hI k).2.2
theorem odC_1 {F : Nat → Nat → Int32} {n c : Nat} {p0 mo : Int32} : ∀ k : Nat, (odC F n c p0 mo k).1 = -1 ∨ ∃ b, b < k ∧ (odC F n c p0 mo k).1 = nI b
  | 0 => Or.inl rfl
  | k + 1 => by
    have ih := odC_1 (F := F) (n := n) (c := c) (p0 := p0) (mo := mo) k
    have ih' : (odC F n c p0 mo k).1 = -1 ∨ ∃ b, b < k + 1 ∧ (odC F n c p0 mo k).1 = nI b := by
      rcases ih with h | ⟨b, h1, h2⟩
      · exact Or.inl h
      · exact Or.inr ⟨b, by omega, h2⟩
    rw [odC]
    split
    · exact ih'
    · split
      · exact Or.inr ⟨k, by omega, rfl⟩
      · split
        · exact Or.inr ⟨k, by omega, rfl⟩
        · exact ih'
theorem odC_neg {F : Nat → Nat → Int32} {n c : Nat} {p0 mo : Int32} {k : Nat} (hk : k < 9) : (odC F n c p0 mo k).1 < 0 ↔ (odC F n c p0 mo k).1 = -1 := by
  rcases odC_1 (F := F) (n := n) (c := c) (p0 := p0) (mo := mo) k with h | ⟨b, h1, h2⟩
  · rw [h]; decide
  · rw [h2]
    constructor
    · intro h; exact absurd h (nI_pos (by omega))
    · intro h; exact absurd (show nI b < 0 by rw [h]; decide) (nI_pos (by omega))
theorem nI_m1 {k : Nat} (hk : k < 100) : ¬ nI k = -1 := fun h => absurd (show nI k < 0 by rw [h]; decide) (nI_pos (by omega))
/-- fractions in lowest terms compare as the fractions do -/
theorem red_lt {a b c d g h : Nat} (hg : 0 < g) (hh : 0 < h) (ga : g ∣ a) (gb : g ∣ b) (hc : h ∣ c) (hd : h ∣ d) : a / g * (d / h) < c / h * (b / g) ↔ a * d < c * b := by
  obtain ⟨a', rfl⟩ := ga
  obtain ⟨b', rfl⟩ := gb
  obtain ⟨c', rfl⟩ := hc
  obtain ⟨d', rfl⟩ := hd
  rw [Nat.mul_div_cancel_left _ hg, Nat.mul_div_cancel_left _ hg, Nat.mul_div_cancel_left _ hh, Nat.mul_div_cancel_left _ hh]
  have e1 : g * a' * (h * d') = g * h * (a' * d') := by rw [Nat.mul_assoc, Nat.mul_left_comm a' h d', ← Nat.mul_assoc g h]
  have e2 : h * c' * (g * b') = g * h * (c' * b') := by rw [Nat.mul_assoc, Nat.mul_left_comm c' g b', ← Nat.mul_assoc h g, Nat.mul_comm h g]
  rw [e1, e2]
  exact (Nat.mul_lt_mul_left (Nat.mul_pos hg hh)).symm
theorem odd_lt {F : Nat → Nat → Int32} {n c : Nat} (hI : Inv F n c) {p0 mo x : Int32} {k : Nat} (h1 : ¬ (odC F n c p0 mo k).1 = -1) : (cU F n c x p0 mo / Nat.gcd (cU F n c x p0 mo) (cL F n x) * oddB F n c p0 mo k < oddA F n c p0 mo k * (cL F n x / Nat.gcd (cU F n c x p0 mo) (cL F n x))) ↔ (cU F n c x p0 mo * (odC F n c p0 mo k).2.2 < (odC F n c p0 mo k).2.1 * cL F n x) := by
  unfold oddA oddB
  rw [if_neg h1, if_neg h1]
  exact red_lt (lowest cL_pos) (lowest (odC_ok hI k).2.2) (Nat.gcd_dvd_left _ _) (Nat.gcd_dvd_right _ _) (Nat.gcd_dvd_left _ _) (Nat.gcd_dvd_right _ _)
theorem odA_e {F : Nat → Nat → Int32} {n c : Nat} {p0 mo : Int32} {k : Nat} (h : odC F n c p0 mo (k + 1) = odC F n c p0 mo k) : oddA F n c p0 mo k = oddA F n c p0 mo (k + 1) ∧ oddB F n c p0 mo k = oddB F n c p0 mo (k + 1) := by
  unfold oddA oddB; rw [h]; exact ⟨rfl, rfl⟩
theorem odA_n {F : Nat → Nat → Int32} {n c : Nat} {p0 mo : Int32} {k : Nat} (hk : k < 8) (h : odC F n c p0 mo (k + 1) = (nI k, cU F n c (nI k) p0 mo, cL F n (nI k))) : cU F n c (nI k) p0 mo / Nat.gcd (cU F n c (nI k) p0 mo) (cL F n (nI k)) = oddA F n c p0 mo (k + 1) ∧ cL F n (nI k) / Nat.gcd (cU F n c (nI k) p0 mo) (cL F n (nI k)) = oddB F n c p0 mo (k + 1) := by
  unfold oddA oddB; rw [h]
  rw [if_neg (nI_m1 (by omega)), if_neg (nI_m1 (by omega))]; exact ⟨rfl, rfl⟩
theorem odC_z {F : Nat → Nat → Int32} {n c : Nat} {p0 mo : Int32} {k : Nat} (h : sNb F n (nI k) = 0) : odC F n c p0 mo (k + 1) = odC F n c p0 mo k := by rw [odC, if_pos h]
theorem odC_f {F : Nat → Nat → Int32} {n c : Nat} {p0 mo : Int32} {k : Nat} (h : ¬ sNb F n (nI k) = 0) (h2 : (odC F n c p0 mo k).1 = -1) : odC F n c p0 mo (k + 1) = (nI k, cU F n c (nI k) p0 mo, cL F n (nI k)) := by rw [odC, if_neg h, if_pos h2]
theorem odC_l {F : Nat → Nat → Int32} {n c : Nat} {p0 mo : Int32} {k : Nat} (h : ¬ sNb F n (nI k) = 0) (h2 : ¬ (odC F n c p0 mo k).1 = -1) (h3 : cU F n c (nI k) p0 mo * (odC F n c p0 mo k).2.2 < (odC F n c p0 mo k).2.1 * cL F n (nI k)) : odC F n c p0 mo (k + 1) = (nI k, cU F n c (nI k) p0 mo, cL F n (nI k)) := by rw [odC, if_neg h, if_neg h2, if_pos h3]
theorem odC_g {F : Nat → Nat → Int32} {n c : Nat} {p0 mo : Int32} {k : Nat} (h : ¬ sNb F n (nI k) = 0) (h2 : ¬ (odC F n c p0 mo k).1 = -1) (h3 : ¬ cU F n c (nI k) p0 mo * (odC F n c p0 mo k).2.2 < (odC F n c p0 mo k).2.1 * cL F n (nI k)) : odC F n c p0 mo (k + 1) = odC F n c p0 mo k := by rw [odC, if_neg h, if_neg h2, if_neg h3]
