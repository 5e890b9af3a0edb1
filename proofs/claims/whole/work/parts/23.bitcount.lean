/-! how many bits of a long: the JDK's sum, byte by byte -/
def bitL (x : Int64) (i : Nat) : Bool := x.toBitVec.getLsbD i
theorem bitL_lN {X i : Nat} (hi : i < 64) : bitL (lN X) i = X.testBit i := by
  unfold bitL
  rw [wb_tb, BitVec.getLsbD_ofNat]
  simp [hi]
def mk8 (b : Nat) : Nat → Nat
  | 0 => 0
  | n + 1 => b + 256 * mk8 b n
theorem and_split {a A m M : Nat} (ha : a < 256) (hm : m < 256) : (a + 256 * A) &&& (m + 256 * M) = (a &&& m) + 256 * (A &&& M) := by
  apply Nat.eq_of_testBit_eq
  intro j
  have e1 : a + 256 * A = 2 ^ 8 * A + a := by omega
  have e2 : m + 256 * M = 2 ^ 8 * M + m := by omega
  have h3 : a &&& m < 2 ^ 8 := Nat.lt_of_le_of_lt Nat.and_le_left ha
  have e3 : (a &&& m) + 256 * (A &&& M) = 2 ^ 8 * (A &&& M) + (a &&& m) := by omega
  rw [e1, e2, e3, Nat.testBit_and, Nat.testBit_two_pow_mul_add A ha, Nat.testBit_two_pow_mul_add M hm, Nat.testBit_two_pow_mul_add (A &&& M) h3]
  split <;> rw [Nat.testBit_and]
def S1 (n X : Nat) : Nat := X - ((X / 2) &&& mk8 85 n)
def S2 (n X : Nat) : Nat := (X &&& mk8 51 n) + ((X / 4) &&& mk8 51 n)
def S3 (n X : Nat) : Nat := (X + X / 16) &&& mk8 15 n
def s1 (a : Nat) : Nat := a - ((a / 2) &&& 85)
def s2 (a : Nat) : Nat := (a &&& 51) + ((a / 4) &&& 51)
def pc8 (a : Nat) : Nat := ctN (fun i => a.testBit i) 8
theorem k_1 : ∀ a, a < 256 → ∀ t, t < 2 → (a / 2 + 128 * t) &&& 85 = (a / 2) &&& 85 := by decide +kernel
theorem k_2 : ∀ a, a < 256 → ∀ t, t < 4 → (a / 4 + 64 * t) &&& 51 = (a / 4) &&& 51 := by decide +kernel
theorem k_3 : ∀ a, a < 256 → (a / 2) &&& 85 ≤ a := by decide +kernel
theorem k_4 : ∀ a, a < 256 → s2 (s1 a) ≤ 68 ∧ s2 (s1 a) % 16 ≤ 4 ∧ s1 a < 256 := by decide +kernel
theorem k_5 : ∀ a, a < 69 → ∀ t, t < 5 → (a + a / 16 + 16 * t) &&& 15 = (a + a / 16) &&& 15 := by decide +kernel
theorem k_6 : ∀ a, a < 256 → (s2 (s1 a) + s2 (s1 a) / 16) &&& 15 = pc8 a := by decide +kernel
theorem k_7 : ∀ a, a < 256 → pc8 a ≤ 8 := by decide +kernel
theorem S1_s {n a A : Nat} (ha : a < 256) : S1 (n + 1) (a + 256 * A) = s1 a + 256 * S1 n A := by
  unfold S1 s1
  have e : (a + 256 * A) / 2 = (a / 2 + 128 * (A % 2)) + 256 * (A / 2) := by omega
  rw [e, mk8, and_split (by omega) (by decide), k_1 a ha (A % 2) (by omega)]
  have h1 := k_3 a ha
  have h2 : (A / 2) &&& mk8 85 n ≤ A := Nat.le_trans Nat.and_le_left (Nat.div_le_self _ _)
  omega
theorem S2_s {n a A : Nat} (ha : a < 256) : S2 (n + 1) (a + 256 * A) = s2 a + 256 * S2 n A := by
  unfold S2 s2
  have e : (a + 256 * A) / 4 = (a / 4 + 64 * (A % 4)) + 256 * (A / 4) := by omega
  rw [e, mk8, and_split ha (by decide), and_split (by omega) (by decide), k_2 a ha (A % 4) (by omega)]
  omega
theorem S3_s {n a A : Nat} (ha : a ≤ 68) (hA : A % 16 ≤ 4) : S3 (n + 1) (a + 256 * A) = ((a + a / 16) &&& 15) + 256 * S3 n A := by
  unfold S3
  have e : (a + 256 * A) + (a + 256 * A) / 16 = (a + a / 16 + 16 * (A % 16)) + 256 * (A + A / 16) := by omega
  rw [e, mk8, and_split (by omega) (by decide), k_5 a (by omega) (A % 16) (by omega)]
theorem S21_4 : ∀ (n A : Nat), A < 256 ^ n → S2 n (S1 n A) % 16 ≤ 4
  | 0, A, _ => by simp [S2, mk8]
  | n + 1, A, h => by
    have e : A = A % 256 + 256 * (A / 256) := by omega
    have h4 := k_4 (A % 256) (by omega)
    rw [e, S1_s (by omega), S2_s h4.2.2]
    have := h4.2.1
    omega
def pcs : Nat → Nat → Nat
  | 0, _ => 0
  | n + 1, X => pc8 (X % 256) + 256 * pcs n (X / 256)
theorem S321 : ∀ (n X : Nat), X < 256 ^ n → S3 n (S2 n (S1 n X)) = pcs n X
  | 0, X, _ => by simp [S3, mk8, pcs]
  | n + 1, X, h => by
    have e : X = X % 256 + 256 * (X / 256) := by omega
    have hq : X / 256 < 256 ^ n := by
      rw [Nat.pow_succ] at h
      exact Nat.div_lt_of_lt_mul (by rw [Nat.mul_comm]; exact h)
    have h4 := k_4 (X % 256) (by omega)
    have ih := S321 n (X / 256) hq
    rw [pcs, ← ih]
    conv => lhs; rw [e]
    rw [S1_s (by omega), S2_s h4.2.2, S3_s h4.1 (S21_4 n _ hq), k_6 _ (by omega)]
theorem ctN_split {p : Nat → Bool} (a : Nat) : ∀ b : Nat, ctN p (a + b) = ctN p a + ctN (fun i => p (a + i)) b
  | 0 => rfl
  | b + 1 => by
    show ctN p ((a + b) + 1) = _
    rw [ctN, ctN, ctN_split a b]
    split <;> omega
theorem ctN_cong {p r : Nat → Bool} : ∀ {k : Nat}, (∀ j, j < k → p j = r j) → ctN p k = ctN r k
  | 0, _ => rfl
  | k + 1, h => by rw [ctN, ctN, ctN_cong (fun j hj => h j (by omega)), h k (by omega)]
theorem ct_8 (X m : Nat) : ctN (fun i => X.testBit i) (8 + m) = pc8 (X % 256) + ctN (fun i => (X / 256).testBit i) m := by
  rw [ctN_split]
  congr 1
  · unfold pc8
    apply ctN_cong
    intro j hj
    rw [show (256 : Nat) = 2 ^ 8 from rfl, Nat.testBit_mod_two_pow]
    simp [hj]
  · apply ctN_cong
    intro j _
    rw [show (256 : Nat) = 2 ^ 8 from rfl, Nat.testBit_div_two_pow, Nat.add_comm]
theorem pc_le (X : Nat) : pc8 (X % 256) ≤ 8 := k_7 _ (by omega)
theorem divq {m L H : Nat} (hm : L < m) : (L + m * H) / m = H := by
  rw [Nat.add_mul_div_left _ _ (Nat.lt_of_le_of_lt (Nat.zero_le _) hm), Nat.div_eq_of_lt hm, Nat.zero_add]
theorem modq {L H : Nat} (hm : L < 128) : (L + 128 * H) % 128 = L := by
  rw [Nat.add_mul_mod_self_left, Nat.mod_eq_of_lt hm]
theorem f8_1 (p0 p1 p2 p3 p4 p5 p6 p7 : Nat) : (p0 + 256 * (p1 + 256 * (p2 + 256 * (p3 + 256 * (p4 + 256 * (p5 + 256 * (p6 + 256 * (p7 + 256 * 0)))))))) + (p1 + 256 * (p2 + 256 * (p3 + 256 * (p4 + 256 * (p5 + 256 * (p6 + 256 * (p7 + 256 * 0))))))) = ((p0 + p1) + 256 * (p1 + p2)) + 65536 * ((p2 + p3) + 256 * (p3 + p4) + 65536 * ((p4 + p5) + 256 * (p5 + p6) + 65536 * ((p6 + p7) + 256 * p7))) := by omega
theorem f8_2 (p0 p1 p2 p3 p4 p5 p6 p7 : Nat) : (((p0 + p1) + 256 * (p1 + p2)) + 65536 * ((p2 + p3) + 256 * (p3 + p4) + 65536 * ((p4 + p5) + 256 * (p5 + p6) + 65536 * ((p6 + p7) + 256 * p7)))) + ((p2 + p3) + 256 * (p3 + p4) + 65536 * ((p4 + p5) + 256 * (p5 + p6) + 65536 * ((p6 + p7) + 256 * p7))) = ((p0 + p1 + p2 + p3) + 256 * (p1 + p2 + p3 + p4) + 65536 * ((p2 + p3 + p4 + p5) + 256 * (p3 + p4 + p5 + p6))) + 4294967296 * ((p4 + p5 + p6 + p7) + 256 * (p5 + p6 + p7) + 65536 * ((p6 + p7) + 256 * p7)) := by omega
theorem f8_3 (p0 p1 p2 p3 p4 p5 p6 p7 : Nat) : (((p0 + p1 + p2 + p3) + 256 * (p1 + p2 + p3 + p4) + 65536 * ((p2 + p3 + p4 + p5) + 256 * (p3 + p4 + p5 + p6))) + 4294967296 * ((p4 + p5 + p6 + p7) + 256 * (p5 + p6 + p7) + 65536 * ((p6 + p7) + 256 * p7))) + ((p4 + p5 + p6 + p7) + 256 * (p5 + p6 + p7) + 65536 * ((p6 + p7) + 256 * p7)) = (p0 + (p1 + (p2 + (p3 + (p4 + (p5 + (p6 + p7))))))) + 128 * (2 * (p1 + p2 + p3 + p4 + p5 + p6 + p7) + 512 * ((p2 + p3 + p4 + p5 + p6 + p7) + 256 * (p3 + p4 + p5 + p6 + p7)) + 33554432 * ((p4 + p5 + p6 + p7) + 256 * (p5 + p6 + p7) + 65536 * ((p6 + p7) + 256 * p7))) := by omega
theorem f8_L (p0 p1 p2 p3 p4 p5 p6 p7 : Nat) (h0 : p0 ≤ 8) (h1 : p1 ≤ 8) (h2 : p2 ≤ 8) (h3 : p3 ≤ 8) (h4 : p4 ≤ 8) (h5 : p5 ≤ 8) (h6 : p6 ≤ 8) (h7 : p7 ≤ 8) : ((p0 + p1) + 256 * (p1 + p2)) < 65536 ∧ ((p0 + p1 + p2 + p3) + 256 * (p1 + p2 + p3 + p4) + 65536 * ((p2 + p3 + p4 + p5) + 256 * (p3 + p4 + p5 + p6))) < 4294967296 ∧ p0 + (p1 + (p2 + (p3 + (p4 + (p5 + (p6 + p7)))))) < 128 := by omega
theorem f8_B (p0 p1 p2 p3 p4 p5 p6 p7 : Nat) (h0 : p0 ≤ 8) (h1 : p1 ≤ 8) (h2 : p2 ≤ 8) (h3 : p3 ≤ 8) (h4 : p4 ≤ 8) (h5 : p5 ≤ 8) (h6 : p6 ≤ 8) (h7 : p7 ≤ 8) : (p0 + 256 * (p1 + 256 * (p2 + 256 * (p3 + 256 * (p4 + 256 * (p5 + 256 * (p6 + 256 * (p7 + 256 * 0)))))))) < 2 ^ 60 := by omega
/-- the end of the sum: the bytes together -/
theorem fold8 (p0 p1 p2 p3 p4 p5 p6 p7 : Nat) (h0 : p0 ≤ 8) (h1 : p1 ≤ 8) (h2 : p2 ≤ 8) (h3 : p3 ≤ 8) (h4 : p4 ≤ 8) (h5 : p5 ≤ 8) (h6 : p6 ≤ 8) (h7 : p7 ≤ 8) (Y a b c : Nat) (hY : Y = p0 + 256 * (p1 + 256 * (p2 + 256 * (p3 + 256 * (p4 + 256 * (p5 + 256 * (p6 + 256 * (p7 + 256 * 0)))))))) (ha : a = Y + Y / 256) (hb : b = a + a / 65536) (hc : c = b + b / 4294967296) : c % 128 = p0 + (p1 + (p2 + (p3 + (p4 + (p5 + (p6 + p7)))))) ∧ Y < 2 ^ 60 ∧ a < 2 ^ 61 ∧ b < 2 ^ 62 := by
  obtain ⟨l1, l2, l3⟩ := f8_L p0 p1 p2 p3 p4 p5 p6 p7 h0 h1 h2 h3 h4 h5 h6 h7
  have l4 := f8_B p0 p1 p2 p3 p4 p5 p6 p7 h0 h1 h2 h3 h4 h5 h6 h7
  have l5 : p0 < 256 := Nat.lt_of_le_of_lt h0 (by decide)
  clear h0 h1 h2 h3 h4 h5 h6 h7
  have b1 : Y < 2 ^ 60 := by rw [hY]; exact l4
  have b2 : a < 2 ^ 61 := by
    clear hY hb hc l1 l2 l3 l4 l5
    omega
  have b3 : b < 2 ^ 62 := by
    clear hY hc l1 l2 l3 l4 l5 ha b1
    omega
  refine ⟨?_, b1, b2, b3⟩
  clear b1 b2 b3 l4
  have e1 := hY
  rw [hY, divq l5, f8_1] at ha
  rw [ha, divq l1, f8_2] at hb
  rw [hb, divq l2, f8_3] at hc
  rw [hc]
  exact modq l3
theorem ct_64 {X : Nat} (hX : X < 2 ^ 64) : (let Y := S3 8 (S2 8 (S1 8 X)); let a := Y + Y / 256; let b := a + a / 65536; let c := b + b / 4294967296; c % 128 = ctN (fun i => X.testBit i) 64 ∧ Y < 2 ^ 60 ∧ a < 2 ^ 61 ∧ b < 2 ^ 62) := by
  have hY : S3 8 (S2 8 (S1 8 X)) = pcs 8 X := S321 8 X (by rw [show 256 ^ 8 = 2 ^ 64 by decide]; exact hX)
  have hc : ctN (fun i => X.testBit i) 64 = pc8 (X % 256) + (pc8 (X / 256 % 256) + (pc8 (X / 256 / 256 % 256) + (pc8 (X / 256 / 256 / 256 % 256) + (pc8 (X / 256 / 256 / 256 / 256 % 256) + (pc8 (X / 256 / 256 / 256 / 256 / 256 % 256) + (pc8 (X / 256 / 256 / 256 / 256 / 256 / 256 % 256) + pc8 (X / 256 / 256 / 256 / 256 / 256 / 256 / 256 % 256))))))) := by
    rw [show (64 : Nat) = 8 + 56 from rfl, ct_8, show (56 : Nat) = 8 + 48 from rfl, ct_8, show (48 : Nat) = 8 + 40 from rfl, ct_8, show (40 : Nat) = 8 + 32 from rfl, ct_8, show (32 : Nat) = 8 + 24 from rfl, ct_8, show (24 : Nat) = 8 + 16 from rfl, ct_8, show (16 : Nat) = 8 + 8 from rfl, ct_8, show ctN (fun i => (X / 256 / 256 / 256 / 256 / 256 / 256 / 256).testBit i) 8 = ctN (fun i => (X / 256 / 256 / 256 / 256 / 256 / 256 / 256).testBit i) (8 + 0) from rfl, ct_8]
    rfl
  have h := fold8 _ _ _ _ _ _ _ _ (pc_le X) (pc_le (X / 256)) (pc_le (X / 256 / 256)) (pc_le (X / 256 / 256 / 256)) (pc_le (X / 256 / 256 / 256 / 256)) (pc_le (X / 256 / 256 / 256 / 256 / 256)) (pc_le (X / 256 / 256 / 256 / 256 / 256 / 256)) (pc_le (X / 256 / 256 / 256 / 256 / 256 / 256 / 256)) (pcs 8 X) _ _ _ (by simp only [pcs]) rfl rfl rfl
  simp only [hY]
  rw [hc]
  exact h
