/-! what the constructors make -/
def fil (v : Int32) : Nat → Nat → Int32
  | 0 => fun _ => 0
  | k + 1 => upd (fil v k) k v
theorem fil_at {v : Int32} {i : Nat} : ∀ k : Nat, fil v k i = if i < k then v else 0
  | 0 => rfl
  | k + 1 => by
    show upd (fil v k) k v i = _
    by_cases h : i = k
    · subst h; rw [pk_us, if_pos (by omega)]
    · rw [pk_un h, fil_at k]
      by_cases h2 : i < k
      · rw [if_pos h2, if_pos (by omega)]
      · rw [if_neg h2, if_neg (by omega)]
def FZ : Nat → Nat → Int32 := fun k => if k = 4 then fil 24 4 else if k = 5 then fil 60000 4 else if k = 12 then fil (-1) 10 else if k = 13 then fil (-1) 10 else fun _ => 0
/-- the model's ways, up to row a and place b -/
def wz (a b : Nat) : Nat → Int64 := fun j => if j < 61 * a + b then wyF j else 0
theorem wz_0 : (fun _ => 0) = wz 0 0 := funext fun j => by simp [wz]
theorem wz_s {a b : Nat} (hb : b < 61) (ha : a < 61) {x : Int64} (hx : x = lN (chs a b)) : vp_updL (wz a b) (61 * a + b) x = wz a (b + 1) := by
  funext j
  by_cases h : j = 61 * a + b
  · subst h
    rw [pk_uLs, hx]
    unfold wz
    rw [if_pos (by omega), wyF_at hb ha]
  · rw [pk_uLn h]
    unfold wz
    by_cases h2 : j < 61 * a + b
    · rw [if_pos h2, if_pos (by omega)]
    · rw [if_neg h2, if_neg (by omega)]
theorem wz_r {a : Nat} (ha : a < 61) : wz a (a + 1) = wz (a + 1) 0 := by
  funext j
  unfold wz
  by_cases h2 : j < 61 * a + (a + 1)
  · rw [if_pos h2, if_pos (by omega)]
  · rw [if_neg h2]
    by_cases h3 : j < 61 * (a + 1) + 0
    · rw [if_pos h3]
      unfold wyF
      rw [if_pos (by omega), chs_gt (by omega)]
      rfl
    · rw [if_neg h3]
theorem wz_e : wz 61 0 = wyF := by
  funext j
  unfold wz
  by_cases h : j < 61 * 61 + 0
  · rw [if_pos h]
  · rw [if_neg h]; unfold wyF; rw [if_neg (by omega)]
theorem wz_at {a b j : Nat} (h : j < 61 * a + b) : wz a b j = wyF j := if_pos h
theorem chs_self : ∀ n : Nat, chs n n = 1
  | 0 => rfl
  | n + 1 => by rw [chs, chs_self n, chs_gt (by omega)]
theorem wz_1 {a b : Nat} (h : b = 0 ∨ b = a) : (1 : Int64) = lN (chs a b) := by
  rcases h with rfl | rfl
  · rw [chs_0]; rfl
  · rw [chs_self]; rfl
theorem wz_2 {a b : Nat} (h : ¬ b = 0) (hb : b ≤ a) (ha : a < 61) : wz a b (61 * (a - 1) + b - 1) + wz a b (61 * (a - 1) + b) = lN (chs a b) := by
  rw [wz_at (by omega), wz_at (by omega)]
  obtain ⟨k, rfl⟩ : ∃ k, b = k + 1 := ⟨b - 1, by omega⟩
  obtain ⟨r, rfl⟩ : ∃ r, a = r + 1 := ⟨a - 1, by omega⟩
  rw [show 61 * (r + 1 - 1) + (k + 1) - 1 = 61 * r + k by omega, show 61 * (r + 1 - 1) + (k + 1) = 61 * r + (k + 1) by omega, wyF_at (by omega) (by omega), wyF_at (by omega) (by omega), lN_add, chs]
/-- the model's world while it is made -/
abbrev mWz (q : Nat → Nat) (cs : Nat → ClassId) (w : Nat → Int64) : va_W := (mW q cs FZ 0 0 1 0 0).set 13 (q 213, .inl (cs 1, 3721, .inr (.inl w)))
theorem e61 (a b : Nat) : 61 * nI a + nI b = nI (61 * a + b) := by rw [show (61 : Int32) = nI 61 from rfl, pk_mul, nI_add]
theorem e61c {a : Nat} (ha : 0 < a) (b : Nat) : 61 * (nI a - 1) + nI b = nI (61 * (a - 1) + b) := by
  rw [show (1 : Int32) = nI 1 from rfl, pk_sub (by omega), e61]
theorem e61b {a b : Nat} (ha : 0 < a) (hb : 0 < b) : 61 * (nI a - 1) + nI b - 1 = nI (61 * (a - 1) + b - 1) := by
  rw [e61c ha, show (1 : Int32) = nI 1 from rfl, pk_sub (by omega)]
theorem nI_z {b : Nat} (hb : b < 2 ^ 31) (h : nI b = 0) : b = 0 := (nI_eq hb (by decide)).mp h
