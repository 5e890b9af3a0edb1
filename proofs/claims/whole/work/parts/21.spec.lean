theorem i_nlt {a b : Int32} (h : ¬ a < b) : b ≤ a := by
  rw [Int32.le_iff_toInt_le]; rw [Int32.lt_iff_toInt_lt] at h; omega
theorem i_nle {a b : Int32} (h : ¬ a ≤ b) : b < a := by
  rw [Int32.lt_iff_toInt_lt]; rw [Int32.le_iff_toInt_le] at h; omega
theorem i_lt {a b : Int32} (h : a < b) : ¬ b ≤ a := by
  rw [Int32.le_iff_toInt_le]; rw [Int32.lt_iff_toInt_lt] at h; omega
theorem i_le {a b : Int32} (h : a ≤ b) : ¬ b < a := by
  rw [Int32.lt_iff_toInt_lt]; rw [Int32.le_iff_toInt_le] at h; omega
theorem i_nltL {a b : Int64} (h : ¬ a < b) : b ≤ a := by
  rw [Int64.le_iff_toInt_le]; rw [Int64.lt_iff_toInt_lt] at h; omega
theorem i_nleL {a b : Int64} (h : ¬ a ≤ b) : b < a := by
  rw [Int64.lt_iff_toInt_lt]; rw [Int64.le_iff_toInt_le] at h; omega
theorem i_ltL {a b : Int64} (h : a < b) : ¬ b ≤ a := by
  rw [Int64.le_iff_toInt_le]; rw [Int64.lt_iff_toInt_lt] at h; omega
theorem i_leL {a b : Int64} (h : a ≤ b) : ¬ b < a := by
  rw [Int64.lt_iff_toInt_lt]; rw [Int64.le_iff_toInt_le] at h; omega
/-- from a range, the place -/
theorem rg_nat {x : Int32} {N : Nat} (hN : N < 2 ^ 31) {M : Int32} (hM : M.toInt = (N : Int) - 1) (h : rg x 0 M = true) : ∃ j : Nat, j < N ∧ x = nI j := by
  simp only [rg, Bool.and_eq_true, decide_eq_true_eq, Int32.le_iff_toInt_le, Int32.toInt_zero] at h
  refine ⟨x.toInt.toNat, by omega, ?_⟩
  apply Int32.toInt_inj.mp
  rw [nI_toInt (by omega)]
  omega
theorem rg_in {x : Int32} {N : Nat} (hN : N < 2 ^ 31) {M : Int32} (hM : M.toInt = (N : Int) - 1) (h : rg x 0 M = true) : vp_in x N := by
  obtain ⟨j, hj, rfl⟩ := rg_nat hN hM h
  exact vp_in_nI hj hN
/-! chains of parts -/
def itP (F : Nat → Nat → Int32) : Nat → Int32 → Int32
  | 0, x => x
  | k + 1, x => if rg (itP F k x) 0 9 = true then F 12 (ix (itP F k x)) else itP F k x
def InvT (F : Nat → Nat → Int32) (t : Nat) : Prop := rg (F 0 t) 0 7 = true ∧ rg (F 1 t) 0 119 = true ∧ rg (F 2 t) 0 5000 = true ∧ rg (F 3 t) 0 3 = true
def InvL (F : Nat → Nat → Int32) (i : Nat) : Prop := rg (F 4 i) 0 120 = true ∧ rg (F 5 i) 0 600000 = true
def InvC (F : Nat → Nat → Int32) (n k : Nat) : Prop := (∃ t, t < n ∧ F 6 k = nI t) ∧ rg (F 7 k) 0 9 = true ∧ rg (F 8 k) 0 300 = true ∧ rg (F 9 k) 0 300 = true ∧ F 8 k ≤ F 9 k ∧ rg (F 10 k) 0 10000 = true ∧ rg (F 11 k) 0 4 = true ∧ F 15 k = F 8 k - F 1 (ix (F 6 k))
def InvQ (F : Nat → Nat → Int32) (i : Nat) : Prop := rg (F 12 i) (-1) 9 = true ∧ rg (F 13 i) (-1) 5 = true ∧ rg (F 14 i) 0 100 = true ∧ ∃ j, itP F j (nI i) = -1
def Inv (F : Nat → Nat → Int32) (n c : Nat) : Prop := n ≤ 60 ∧ c ≤ 100 ∧ (∀ t, t < n → InvT F t) ∧ (∀ i, i < 4 → InvL F i) ∧ (∀ k, k < c → InvC F n k) ∧ (∀ i, i < 10 → InvQ F i)
theorem Inv.n60 {F : Nat → Nat → Int32} {n c : Nat} (h : Inv F n c) : n ≤ 60 := h.1
theorem Inv.c100 {F : Nat → Nat → Int32} {n c : Nat} (h : Inv F n c) : c ≤ 100 := h.2.1
theorem Inv.T {F : Nat → Nat → Int32} {n c : Nat} (h : Inv F n c) {t : Nat} (ht : t < n) : InvT F t := h.2.2.1 t ht
theorem Inv.Lb {F : Nat → Nat → Int32} {n c : Nat} (h : Inv F n c) {i : Nat} (ht : i < 4) : InvL F i := h.2.2.2.1 i ht
theorem Inv.C {F : Nat → Nat → Int32} {n c : Nat} (h : Inv F n c) {k : Nat} (ht : k < c) : InvC F n k := h.2.2.2.2.1 k ht
theorem Inv.Q {F : Nat → Nat → Int32} {n c : Nat} (h : Inv F n c) {i : Nat} (ht : i < 10) : InvQ F i := h.2.2.2.2.2 i ht
/-- the land of a thing is a place -/
theorem Inv.land {F : Nat → Nat → Int32} {n c : Nat} (h : Inv F n c) {t : Nat} (ht : t < n) : vp_in (F 3 t) 4 := rg_in (by decide) (by decide) (h.T ht).2.2.2
theorem Inv.ct {F : Nat → Nat → Int32} {n c : Nat} (h : Inv F n c) {k : Nat} (ht : k < c) : ix (F 6 k) < n := by
  obtain ⟨t, h1, h2⟩ := (h.C ht).1
  have := h.n60
  rw [ix, h2, nI_clamp (by omega)]; exact h1
theorem Inv.ctE {F : Nat → Nat → Int32} {n c : Nat} (h : Inv F n c) {k : Nat} (ht : k < c) : F 6 k = nI (ix (F 6 k)) := by
  obtain ⟨t, h1, h2⟩ := (h.C ht).1
  have := h.n60
  rw [ix, h2, nI_clamp (by omega)]
theorem Inv.ctV {F : Nat → Nat → Int32} {n c : Nat} (h : Inv F n c) {k : Nat} (ht : k < c) : vp_in (F 6 k) 60 := by
  obtain ⟨t, h1, h2⟩ := (h.C ht).1
  have := h.n60
  rw [h2]; exact vp_in_nI (by omega) (by decide)
theorem Inv.cpV {F : Nat → Nat → Int32} {n c : Nat} (h : Inv F n c) {k : Nat} (ht : k < c) : vp_in (F 7 k) 10 := rg_in (by decide) (by decide) (h.C ht).2.1
/-! what is asked of claims -/
def sLetBy (F : Nat → Nat → Int32) (by_ : Int32) (k : Nat) : Bool := decide (F 11 k = 0) && decide (F 9 k ≤ by_)
def sAny (F : Nat → Nat → Int32) (t p from_ to_ : Int32) (k : Nat) : Bool := decide (F 6 k = t) && decide (F 7 k = p) && decide (F 11 k = 0) && rg (F 8 k) from_ to_
def sTell (F : Nat → Nat → Int32) (k : Nat) (w : Int32) : Int32 := if w = 0 then F 6 k else if w = 1 then F 7 k else if w = 2 then F 8 k else if w = 3 then F 9 k else if w = 4 then F 10 k else if w = 5 then F 11 k else F 9 k - F 8 k
def sAge (F : Nat → Nat → Int32) (w by_ : Int32) (k : Nat) : Bool := sLetBy F by_ k && decide (F 15 k = w)
def sTab (F : Nat → Nat → Int32) (s w by_ : Int32) (k : Nat) : Bool := sLetBy F by_ k && decide (F 15 k = w) && decide (F 8 k = s + w)
def sFail (F : Nat → Nat → Int32) (m by_ : Int32) (k : Nat) : Bool := sLetBy F by_ k && decide (F 8 k = m)
def sDel (F : Nat → Nat → Int32) (least most by_ : Int32) (k : Nat) : Bool := decide (F 8 k ≤ by_ - 11) && sLetBy F by_ k && decide (least ≤ F 9 k - F 8 k) && decide (F 9 k - F 8 k ≤ most)
def sJud (F : Nat → Nat → Int32) (w : Int32) (k : Nat) : Bool := decide (F 11 k = w)
def sCost (F : Nat → Nat → Int32) (k : Nat) : Int32 := if F 11 k = 0 then F 10 k else 0
def sHas (b : Int64) (p : Int32) : Bool := decide (¬ ((b.toUInt64 >>> (p.toInt64.toUInt64 &&& Int64.toUInt64 63)).toInt64 &&& 1) = 0)
def orL (p : Nat → Bool) (v : Nat → Int64) : Nat → Int64
  | 0 => 0
  | k + 1 => if p k = true then orL p v k ||| v k else orL p v k
def sHit (F : Nat → Nat → Int32) (bits by_ : Int32) (k : Nat) : Bool := sLetBy F by_ k && sHas bits.toInt64 (F 7 k)
def bit1 (x : Int32) : Int64 := (1 : Int64) <<< (x.toInt64 &&& 63)
def fdL (f : Nat → Int64) (h : Int64) : Nat → Int64
  | 0 => h
  | j + 1 => 31 * fdL f h j + f j
def dgC (F : Nat → Nat → Int32) (h : Int64) : Nat → Int64
  | 0 => h
  | k + 1 => fdL (fun j => (sTell F k (nI j)).toInt64) (dgC F h k) 7
theorem anyB_t {p : Nat → Bool} : ∀ {c k : Nat}, k < c → p k = true → anyB p c = true
  | 0, _, h, _ => absurd h (Nat.not_lt_zero _)
  | c + 1, k, h, hp => by
    simp only [anyB, Bool.or_eq_true]
    rcases Nat.lt_or_ge k c with q | q
    · exact Or.inl (anyB_t q hp)
    · exact Or.inr (by rw [show c = k by omega]; exact hp)
/-- a switch's default -/
theorem sw_out {x : Int32} {lo hi : Int} (h1 : -100 ≤ lo) (h2 : hi ≤ 100) (h : ∀ j : Nat, lo ≤ (j : Int) → (j : Int) ≤ hi → ¬ x = Int32.ofNat j) (h0 : 0 ≤ lo := by decide) : x.toInt < lo ∨ hi < x.toInt := by
  rcases Classical.em (x.toInt < lo) with q | q
  · exact Or.inl q
  rcases Classical.em (hi < x.toInt) with q2 | q2
  · exact Or.inr q2
  exfalso
  refine h x.toInt.toNat (by omega) (by omega) ?_
  apply Int32.toInt_inj.mp
  have := nI_toInt (n := x.toInt.toNat) (by omega)
  rw [show Int32.ofNat x.toInt.toNat = nI x.toInt.toNat from rfl, this]
  omega
/-- whether a part is another one or stands under it; the first with a maker -/
def stn (F : Nat → Nat → Int32) (top : Int32) : Nat → Int32 → Bool
  | 0, _ => false
  | f + 1, x => if rg x 0 9 = true then (if x = top then true else stn F top f (F 12 (ix x))) else false
def fwm (F : Nat → Nat → Int32) : Nat → Int32 → Int32
  | 0, _ => -1
  | f + 1, x => if rg x 0 9 = true then (if F 13 (ix x) = -1 then fwm F f (F 12 (ix x)) else x) else -1
theorem stn_0 {F : Nat → Nat → Int32} {top x : Int32} : ∀ f, rg x 0 9 = false → stn F top f x = false
  | 0, _ => rfl
  | f + 1, h => by simp [stn, h]
theorem stn_s {F : Nat → Nat → Int32} {top x v : Int32} {f k : Nat} {r : Bool} (hk : k < f) (hx : rg x 0 9 = true) (hn : ¬ x = top) (h : stn F top (f - k) x = r) (hv : F 12 (ix x) = v) : stn F top (f - (k + 1)) v = r := by
  rw [show f - k = (f - (k + 1)) + 1 by omega, stn, if_pos hx, if_neg hn, hv] at h
  exact h
theorem stn_t {F : Nat → Nat → Int32} {top x : Int32} {f k : Nat} {r : Bool} (hk : k < f) (hx : rg x 0 9 = true) (hn : x = top) (h : stn F top (f - k) x = r) : r = true := by
  rw [show f - k = (f - (k + 1)) + 1 by omega, stn, if_pos hx, if_pos hn] at h
  exact h.symm
theorem stn_e {F : Nat → Nat → Int32} {top x : Int32} {f k : Nat} {r : Bool} (hx : rg x 0 9 = false) (h : stn F top (f - k) x = r) : r = false := by
  rw [stn_0 _ hx] at h
  exact h.symm
theorem fwm_0 {F : Nat → Nat → Int32} {x : Int32} : ∀ f, rg x 0 9 = false → fwm F f x = -1
  | 0, _ => rfl
  | f + 1, h => by simp [fwm, h]
theorem fwm_s {F : Nat → Nat → Int32} {x v : Int32} {f k : Nat} {r : Int32} (hk : k < f) (hx : rg x 0 9 = true) (hn : F 13 (ix x) = -1) (h : fwm F (f - k) x = r) (hv : F 12 (ix x) = v) : fwm F (f - (k + 1)) v = r := by
  rw [show f - k = (f - (k + 1)) + 1 by omega, fwm, if_pos hx, if_pos hn, hv] at h
  exact h
theorem fwm_t {F : Nat → Nat → Int32} {x : Int32} {f k : Nat} {r : Int32} (hk : k < f) (hx : rg x 0 9 = true) (hn : ¬ F 13 (ix x) = -1) (h : fwm F (f - k) x = r) : x = r := by
  rw [show f - k = (f - (k + 1)) + 1 by omega, fwm, if_pos hx, if_neg hn] at h
  exact h
theorem fwm_e {F : Nat → Nat → Int32} {x : Int32} {f k : Nat} {r : Int32} (hx : rg x 0 9 = false) (h : fwm F (f - k) x = r) : -1 = r := by
  rw [fwm_0 _ hx] at h
  exact h
def wau (F : Nat → Nat → Int32) (top : Int32) : Nat → Int32
  | 0 => 0
  | k + 1 => if stn F top 10 (nI k) = true then wau F top k ||| ((1 : Int32) <<< (nI k &&& 31)) else wau F top k
def dgP (F : Nat → Nat → Int32) (h : Int64) : Nat → Int64
  | 0 => h
  | k + 1 => 31 * (31 * (31 * dgP F h k + (F 12 k).toInt64) + (F 13 k).toInt64) + (F 14 k).toInt64
/-! things -/
def hasT (n : Nat) (x : Int32) : Bool := decide (0 ≤ x) && decide (x < nI n)
theorem hasT_nat {n : Nat} {x : Int32} (hn : n ≤ 60) (h : hasT n x = true) : ∃ t : Nat, t < n ∧ x = nI t := by
  simp only [hasT, Bool.and_eq_true, decide_eq_true_eq, Int32.le_iff_toInt_le, Int32.lt_iff_toInt_lt, Int32.toInt_zero, nI_toInt (show n < 2 ^ 31 by omega)] at h
  refine ⟨x.toInt.toNat, by omega, ?_⟩
  apply Int32.toInt_inj.mp
  rw [nI_toInt (by omega)]
  omega
def sProm (F : Nat → Nat → Int32) (t : Nat) (mo : Int32) : Bool := decide (0 ≤ mo - F 1 t) && decide (mo - F 1 t < F 4 (ix (F 3 t))) && decide ((mo - F 1 t) * F 2 t < F 5 (ix (F 3 t)))
def sLast (F : Nat → Nat → Int32) (t : Nat) : Int32 := if F 4 (ix (F 3 t)) = 0 then -1 else if F 5 (ix (F 3 t)) = 0 then -1 else if 0 < F 2 t then F 1 t + (if (F 5 (ix (F 3 t)) - 1) / F 2 t < F 4 (ix (F 3 t)) - 1 then (F 5 (ix (F 3 t)) - 1) / F 2 t else F 4 (ix (F 3 t)) - 1) else F 1 t + (F 4 (ix (F 3 t)) - 1)
def sExp (F : Nat → Nat → Int32) (a mo : Int32) (t : Nat) : Bool := decide (F 1 t + a ≤ mo) && sProm F t (F 1 t + a)
def sSold (F : Nat → Nat → Int32) (bs fr to0 : Int32) (k : Nat) : Bool := sHas bs.toInt64 (F 0 k) && rg (F 1 k) fr to0
def dgT (F : Nat → Nat → Int32) (h : Int64) : Nat → Int64
  | 0 => h
  | k + 1 => 31 * (31 * (31 * (31 * (31 * dgT F h k + (F 0 k).toInt64) + (F 1 k).toInt64) + (F 2 k).toInt64) + (F 3 k).toInt64) + (sLast F k).toInt64
theorem i_pos0 {x : Int32} (h : ¬ x ≤ 0) : ¬ x = 0 := fun e => h (by rw [e]; exact Int32.le_refl 0)
