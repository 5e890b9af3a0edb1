/-! sets of things as the bits of a long -/
theorem bitL_and (x y : Int64) (i : Nat) : bitL (x &&& y) i = (bitL x i && bitL y i) := by
  unfold bitL; rw [Int64.toBitVec_and, BitVec.getLsbD_and]
theorem bitL_or (x y : Int64) (i : Nat) : bitL (x ||| y) i = (bitL x i || bitL y i) := by
  unfold bitL; rw [Int64.toBitVec_or, BitVec.getLsbD_or]
theorem bitL_not (x : Int64) {i : Nat} (hi : i < 64) : bitL (x ^^^ (-1)) i = !bitL x i := by
  unfold bitL
  rw [Int64.toBitVec_xor, BitVec.getLsbD_xor]
  have h : (-1 : Int64).toBitVec = BitVec.allOnes 64 := by decide +kernel
  rw [h, BitVec.getLsbD_allOnes]
  simp [hi]
theorem bitL_0 (i : Nat) : bitL 0 i = false := by
  unfold bitL
  rw [show (0 : Int64).toBitVec = 0#64 from rfl]
  simp
theorem bitL_1 {t i : Nat} (ht : t < 64) (hi : i < 64) : bitL (bit1 (nI t)) i = decide (t = i) := by
  unfold bit1
  rw [show (1 : Int64) = lN 1 from rfl, wb_shl 1 ht, Nat.one_mul, bitL_lN hi, Nat.testBit_two_pow]
theorem orL_bit {p : Nat → Bool} {v : Nat → Int64} {i : Nat} : ∀ c : Nat, bitL (orL p v c) i = anyB (fun k => p k && bitL (v k) i) c
  | 0 => bitL_0 i
  | c + 1 => by
    have ih := orL_bit (p := p) (v := v) (i := i) c
    rw [orL, anyB]
    by_cases hp : p c = true
    · rw [if_pos hp, bitL_or, ih, hp]; rfl
    · rw [if_neg hp, ih, show p c = false by simpa using hp]; simp
theorem sHas_bit {x : Int64} {t : Nat} (ht : t < 64) : sHas x (nI t) = bitL x t := by
  obtain ⟨X, hX, rfl⟩ := wb_of x
  unfold sHas
  rw [wb_bit hX ht, bitL_lN ht, Nat.testBit_eq_decide_div_mod_eq]
  have h2 : X / 2 ^ t % 2 < 2 := Nat.mod_lt _ (by decide)
  rcases (show X / 2 ^ t % 2 = 0 ∨ X / 2 ^ t % 2 = 1 by omega) with h | h
  · rw [h]; decide
  · rw [h]; decide
theorem bitL_64 (x : Int32) {r : Nat} (hr : r < 32) : bitL x.toInt64 r = bt x r := by
  unfold bitL bt
  rw [show x.toInt64.toBitVec = x.toBitVec.signExtend 64 from rfl, BitVec.getLsbD_signExtend]
  simp [hr, show r < 64 by omega]
theorem anyB_iff {p : Nat → Bool} : ∀ {c : Nat}, anyB p c = true ↔ ∃ k, k < c ∧ p k = true
  | 0 => ⟨fun h => by simp [anyB] at h, fun ⟨k, h, _⟩ => absurd h (Nat.not_lt_zero k)⟩
  | c + 1 => by
    rw [anyB, Bool.or_eq_true, anyB_iff]
    constructor
    · rintro (⟨k, h1, h2⟩ | h)
      · exact ⟨k, by omega, h2⟩
      · exact ⟨c, by omega, h⟩
    · rintro ⟨k, h1, h2⟩
      rcases Nat.lt_or_ge k c with q | q
      · exact Or.inl ⟨k, q, h2⟩
      · exact Or.inr (by rw [show c = k by omega]; exact h2)
theorem b_eq {a b : Bool} (h : a = true ↔ b = true) : a = b := by cases a <;> cases b <;> simp_all
theorem anyB_cong {p r : Nat → Bool} : ∀ {c : Nat}, (∀ k, k < c → p k = r k) → anyB p c = anyB r c
  | 0, _ => rfl
  | c + 1, h => by rw [anyB, anyB, anyB_cong (fun k hk => h k (by omega)), h c (by omega)]
theorem ctI_cong {p r : Nat → Bool} : ∀ {c : Nat}, (∀ k, k < c → p k = r k) → ctI p c = ctI r c
  | 0, _ => rfl
  | c + 1, h => by rw [ctI, ctI, ctI_cong (fun k hk => h k (by omega)), h c (by omega)]
theorem smI_cong {f r : Nat → Int32} : ∀ {c : Nat}, (∀ k, k < c → f k = r k) → smI f c = smI r c
  | 0, _ => rfl
  | c + 1, h => by rw [smI, smI, smI_cong (fun k hk => h k (by omega)), h c (by omega)]
/-- nothing counts from n on -/
theorem ctN_ext {p : Nat → Bool} {n : Nat} : ∀ d : Nat, (∀ k, n ≤ k → k < n + d → p k = false) → ctN p (n + d) = ctN p n
  | 0, _ => rfl
  | d + 1, h => by
    show ctN p ((n + d) + 1) = _
    rw [ctN, ctN_ext d (fun k h1 h2 => h k h1 (by omega)), h (n + d) (by omega) (by omega)]
    simp
theorem fnd_ext {p : Nat → Bool} {i : Int32} {n : Nat} : ∀ d : Nat, (∀ k, n ≤ k → k < n + d → p k = false) → fnd p i (n + d) = fnd p i n
  | 0, _ => rfl
  | d + 1, h => by
    show fnd p i ((n + d) + 1) = _
    rw [fnd, fnd_ext d (fun k h1 h2 => h k h1 (by omega)), h (n + d) (by omega) (by omega)]
    simp
theorem fnd_cong {p r : Nat → Bool} {i : Int32} : ∀ {n : Nat}, (∀ k, k < n → p k = r k) → fnd p i n = fnd r i n
  | 0, _ => rfl
  | n + 1, h => by rw [fnd, fnd, fnd_cong (fun k hk => h k (by omega)), h n (by omega), ctI_cong (fun k hk => h k (by omega))]
/-- a set of things: who is in -/
theorem bs_set {p : Nat → Bool} {n i : Nat} (hn : n ≤ 64) (hi : i < 64) : bitL (orL p (fun k => bit1 (nI k)) n) i = (decide (i < n) && p i) := by
  rw [orL_bit]
  apply b_eq
  rw [anyB_iff]
  simp only [Bool.and_eq_true, decide_eq_true_eq]
  constructor
  · rintro ⟨k, h1, h2, h3⟩
    rw [bitL_1 (by omega) hi] at h3
    simp only [decide_eq_true_eq] at h3
    subst h3
    exact ⟨h1, h2⟩
  · rintro ⟨h1, h2⟩
    exact ⟨i, h1, h2, by rw [bitL_1 hi hi]; simp⟩
/-- a set of things named by claims -/
theorem bs_hit {F : Nat → Nat → Int32} {n c : Nat} (hI : Inv F n c) {p : Nat → Bool} {i : Nat} (hi : i < 64) : bitL (orL p (fun k => bit1 (F 6 k)) c) i = anyB (fun k => p k && decide (F 6 k = nI i)) c := by
  rw [orL_bit]
  apply anyB_cong
  intro k hk
  have h1 := hI.ct hk
  have h2 := hI.ctE hk
  have h3 := hI.n60
  congr 1
  rw [h2, bitL_1 (by omega) hi]
  apply b_eq
  simp only [decide_eq_true_eq]
  rw [nI_eq (by omega) (by omega)]
theorem bt_1 : ∀ p, p < 32 → ∀ r, r < 32 → bt ((1 : Int32) <<< (nI p &&& 31)) r = decide (r = p) := by decide +kernel
theorem bt_1023 : ∀ r, r < 10 → bt 1023 r = true := by decide +kernel
theorem bt_sshr1 : ∀ j, j < 256 → ∀ r, r < 8 → decide (((nI j >>> (nI r &&& 31)) &&& 1) = 1) = bt (nI j) r := by decide +kernel
theorem bt_wau {F : Nat → Nat → Int32} {tp : Int32} {r : Nat} (hr : r < 32) : ∀ k : Nat, k ≤ 32 → bt (wau F tp k) r = (decide (r < k) && stn F tp 10 (nI r))
  | 0, _ => by rw [wau, b_0]; simp
  | k + 1, hk => by
    have ih := bt_wau (F := F) (tp := tp) hr k (by omega)
    rw [wau]
    by_cases hs : stn F tp 10 (nI k) = true
    · rw [if_pos hs, b_or, ih, bt_1 k (by omega) r hr]
      by_cases e : r = k
      · subst e; simp [hs]
      · have h1 : (r < k + 1) ↔ r < k := by omega
        simp [e, h1]
    · rw [if_neg hs, ih]
      by_cases e : r = k
      · subst e; simp [hs]
      · have h1 : (r < k + 1) ↔ r < k := by omega
        simp [h1]
