theorem i_nlt {a b : Int32} (h : ¬ a < b) : b ≤ a := by
  rw [Int32.le_iff_toInt_le]; rw [Int32.lt_iff_toInt_lt] at h; omega
theorem i_nle {a b : Int32} (h : ¬ a ≤ b) : b < a := by
  rw [Int32.lt_iff_toInt_lt]; rw [Int32.le_iff_toInt_le] at h; omega
theorem i_lt {a b : Int32} (h : a < b) : ¬ b ≤ a := by
  rw [Int32.le_iff_toInt_le]; rw [Int32.lt_iff_toInt_lt] at h; omega
theorem i_le {a b : Int32} (h : a ≤ b) : ¬ b < a := by
  rw [Int32.lt_iff_toInt_lt]; rw [Int32.le_iff_toInt_le] at h; omega
theorem i_nltL {a b : Int64} (h : ¬ a < b) : b ≤ a := by
  rw [Int64.le_iff_toInt_le]; rw [Int64.lt_iff_toInt_lt] at h; omega
theorem i_nleL {a b : Int64} (h : ¬ a ≤ b) : b < a := by
  rw [Int64.lt_iff_toInt_lt]; rw [Int64.le_iff_toInt_le] at h; omega
theorem i_ltL {a b : Int64} (h : a < b) : ¬ b ≤ a := by
  rw [Int64.le_iff_toInt_le]; rw [Int64.lt_iff_toInt_lt] at h; omega
theorem i_leL {a b : Int64} (h : a ≤ b) : ¬ b < a := by
  rw [Int64.lt_iff_toInt_lt]; rw [Int64.le_iff_toInt_le] at h; omega
/-- from a range, the place -/
theorem rg_nat {x : Int32} {N : Nat} (hN : N < 2 ^ 31) {M : Int32} (hM : M.toInt = (N : Int) - 1) (h : rg x 0 M = true) : ∃ j : Nat, j < N ∧ x = nI j := by
  simp only [rg, Bool.and_eq_true, decide_eq_true_eq, Int32.le_iff_toInt_le, Int32.toInt_zero] at h
  refine ⟨x.toInt.toNat, by omega, ?_⟩
  apply Int32.toInt_inj.mp
  rw [nI_toInt (by omega)]
  omega
theorem rg_in {x : Int32} {N : Nat} (hN : N < 2 ^ 31) {M : Int32} (hM : M.toInt = (N : Int) - 1) (h : rg x 0 M = true) : vp_in x N := by
  obtain ⟨j, hj, rfl⟩ := rg_nat hN hM h
  exact vp_in_nI hj hN
/-! chains of parts -/
def itP (F : Nat → Nat → Int32) : Nat → Int32 → Int32
  | 0, x => x
  | k + 1, x => if rg (itP F k x) 0 9 = true then F 12 (ix (itP F k x)) else itP F k x
def InvT (F : Nat → Nat → Int32) (t : Nat) : Prop := rg (F 0 t) 0 7 = true ∧ rg (F 1 t) 0 119 = true ∧ rg (F 2 t) 0 5000 = true ∧ rg (F 3 t) 0 3 = true
def InvL (F : Nat → Nat → Int32) (i : Nat) : Prop := rg (F 4 i) 0 120 = true ∧ rg (F 5 i) 0 600000 = true
def InvC (F : Nat → Nat → Int32) (n k : Nat) : Prop := (∃ t, t < n ∧ F 6 k = nI t) ∧ rg (F 7 k) 0 9 = true ∧ rg (F 8 k) 0 300 = true ∧ rg (F 9 k) 0 300 = true ∧ F 8 k ≤ F 9 k ∧ rg (F 10 k) 0 10000 = true ∧ rg (F 11 k) 0 4 = true ∧ F 15 k = F 8 k - F 1 (ix (F 6 k))
def InvQ (F : Nat → Nat → Int32) (i : Nat) : Prop := rg (F 12 i) (-1) 9 = true ∧ rg (F 13 i) (-1) 5 = true ∧ rg (F 14 i) 0 100 = true ∧ ∃ j, itP F j (nI i) = -1
def Inv (F : Nat → Nat → Int32) (n c : Nat) : Prop := n ≤ 60 ∧ c ≤ 100 ∧ (∀ t, t < n → InvT F t) ∧ (∀ i, i < 4 → InvL F i) ∧ (∀ k, k < c → InvC F n k) ∧ (∀ i, i < 10 → InvQ F i)
theorem Inv.n60 {F : Nat → Nat → Int32} {n c : Nat} (h : Inv F n c) : n ≤ 60 := h.1
theorem Inv.c100 {F : Nat → Nat → Int32} {n c : Nat} (h : Inv F n c) : c ≤ 100 := h.2.1
theorem Inv.T {F : Nat → Nat → Int32} {n c : Nat} (h : Inv F n c) {t : Nat} (ht : t < n) : InvT F t := h.2.2.1 t ht
theorem Inv.Lb {F : Nat → Nat → Int32} {n c : Nat} (h : Inv F n c) {i : Nat} (ht : i < 4) : InvL F i := h.2.2.2.1 i ht
theorem Inv.C {F : Nat → Nat → Int32} {n c : Nat} (h : Inv F n c) {k : Nat} (ht : k < c) : InvC F n k := h.2.2.2.2.1 k ht
theorem Inv.Q {F : Nat → Nat → Int32} {n c : Nat} (h : Inv F n c) {i : Nat} (ht : i < 10) : InvQ F i := h.2.2.2.2.2 i ht
/-- the land of a thing is a place -/
theorem Inv.land {F : Nat → Nat → Int32} {n c : Nat} (h : Inv F n c) {t : Nat} (ht : t < n) : vp_in (F 3 t) 4 := rg_in (by decide) (by decide) (h.T ht).2.2.2
theorem Inv.ct {F : Nat → Nat → Int32} {n c : Nat} (h : Inv F n c) {k : Nat} (ht : k < c) : ix (F 6 k) < n := by
  obtain ⟨t, h1, h2⟩ := (h.C ht).1
  have := h.n60
  rw [ix, h2, nI_clamp (by omega)]; exact h1
theorem Inv.ctE {F : Nat → Nat → Int32} {n c : Nat} (h : Inv F n c) {k : Nat} (ht : k < c) : F 6 k = nI (ix (F 6 k)) := by
  obtain ⟨t, h1, h2⟩ := (h.C ht).1
  have := h.n60
  rw [ix, h2, nI_clamp (by omega)]
theorem Inv.ctV {F : Nat → Nat → Int32} {n c : Nat} (h : Inv F n c) {k : Nat} (ht : k < c) : vp_in (F 6 k) 60 := by
  obtain ⟨t, h1, h2⟩ := (h.C ht).1
  have := h.n60
  rw [h2]; exact vp_in_nI (by omega) (by decide)
theorem Inv.cpV {F : Nat → Nat → Int32} {n c : Nat} (h : Inv F n c) {k : Nat} (ht : k < c) : vp_in (F 7 k) 10 := rg_in (by decide) (by decide) (h.C ht).2.1
/-! what is asked of claims -/
def sLetBy (F : Nat → Nat → Int32) (by_ : Int32) (k : Nat) : Bool := decide (F 11 k = 0) && decide (F 9 k ≤ by_)
def sAny (F : Nat → Nat → Int32) (t p from_ to_ : Int32) (k : Nat) : Bool := decide (F 6 k = t) && decide (F 7 k = p) && decide (F 11 k = 0) && rg (F 8 k) from_ to_
def sTell (F : Nat → Nat → Int32) (k : Nat) (w : Int32) : Int32 := if w = 0 then F 6 k else if w = 1 then F 7 k else if w = 2 then F 8 k else if w = 3 then F 9 k else if w = 4 then F 10 k else if w = 5 then F 11 k else F 9 k - F 8 k
def sAge (F : Nat → Nat → Int32) (w by_ : Int32) (k : Nat) : Bool := sLetBy F by_ k && decide (F 15 k = w)
def sTab (F : Nat → Nat → Int32) (s w by_ : Int32) (k : Nat) : Bool := sLetBy F by_ k && decide (F 15 k = w) && decide (F 8 k = s + w)
def sFail (F : Nat → Nat → Int32) (m by_ : Int32) (k : Nat) : Bool := sLetBy F by_ k && decide (F 8 k = m)
def sDel (F : Nat → Nat → Int32) (least most by_ : Int32) (k : Nat) : Bool := decide (F 8 k ≤ by_ - 11) && sLetBy F by_ k && decide (least ≤ F 9 k - F 8 k) && decide (F 9 k - F 8 k ≤ most)
def sJud (F : Nat → Nat → Int32) (w : Int32) (k : Nat) : Bool := decide (F 11 k = w)
def sCost (F : Nat → Nat → Int32) (k : Nat) : Int32 := if F 11 k = 0 then F 10 k else 0
def sHas (b : Int64) (p : Int32) : Bool := decide (¬ ((b.toUInt64 >>> (p.toInt64.toUInt64 &&& Int64.toUInt64 63)).toInt64 &&& 1) = 0)
def orL (p : Nat → Bool) (v : Nat → Int64) : Nat → Int64
  | 0 => 0
  | k + 1 => if p k = true then orL p v k ||| v k else orL p v k
def sHit (F : Nat → Nat → Int32) (bits by_ : Int32) (k : Nat) : Bool := sLetBy F by_ k && sHas bits.toInt64 (F 7 k)
def bit1 (x : Int32) : Int64 := (1 : Int64) <<< (x.toInt64 &&& 63)
def fdL (f : Nat → Int64) (h : Int64) : Nat → Int64
  | 0 => h
  | j + 1 => 31 * fdL f h j + f j
def dgC (F : Nat → Nat → Int32) (h : Int64) : Nat → Int64
  | 0 => h
  | k + 1 => fdL (fun j => (sTell F k (nI j)).toInt64) (dgC F h k) 7
theorem anyB_t {p : Nat → Bool} : ∀ {c k : Nat}, k < c → p k = true → anyB p c = true
  | 0, _, h, _ => absurd h (Nat.not_lt_zero _)
  | c + 1, k, h, hp => by
    simp only [anyB, Bool.or_eq_true]
    rcases Nat.lt_or_ge k c with q | q
    · exact Or.inl (anyB_t q hp)
    · exact Or.inr (by rw [show c = k by omega]; exact hp)
/-- a switch's default -/
theorem sw_out {x : Int32} {lo hi : Int} (h1 : -100 ≤ lo) (h2 : hi ≤ 100) (h : ∀ j : Nat, lo ≤ (j : Int) → (j : Int) ≤ hi → ¬ x = Int32.ofNat j) (h0 : 0 ≤ lo := by decide) : x.toInt < lo ∨ hi < x.toInt := by
  rcases Classical.em (x.toInt < lo) with q | q
  · exact Or.inl q
  rcases Classical.em (hi < x.toInt) with q2 | q2
  · exact Or.inr q2
  exfalso
  refine h x.toInt.toNat (by omega) (by omega) ?_
  apply Int32.toInt_inj.mp
  have := nI_toInt (n := x.toInt.toNat) (by omega)
  rw [show Int32.ofNat x.toInt.toNat = nI x.toInt.toNat from rfl, this]
  omega
/-- whether a part is another one or stands under it; the first with a maker -/
def stn (F : Nat → Nat → Int32) (top : Int32) : Nat → Int32 → Bool
  | 0, _ => false
  | f + 1, x => if rg x 0 9 = true then (if x = top then true else stn F top f (F 12 (ix x))) else false
def fwm (F : Nat → Nat → Int32) : Nat → Int32 → Int32
  | 0, _ => -1
  | f + 1, x => if rg x 0 9 = true then (if F 13 (ix x) = -1 then fwm F f (F 12 (ix x)) else x) else -1
theorem stn_0 {F : Nat → Nat → Int32} {top x : Int32} : ∀ f, rg x 0 9 = false → stn F top f x = false
  | 0, _ => rfl
  | f + 1, h => by simp [stn, h]
theorem stn_s {F : Nat → Nat → Int32} {top x v : Int32} {f k : Nat} {r : Bool} (hk : k < f) (hx : rg x 0 9 = true) (hn : ¬ x = top) (h : stn F top (f - k) x = r) (hv : F 12 (ix x) = v) : stn F top (f - (k + 1)) v = r := by
  rw [show f - k = (f - (k + 1)) + 1 by omega, stn, if_pos hx, if_neg hn, hv] at h
  exact h
theorem stn_t {F : Nat → Nat → Int32} {top x : Int32} {f k : Nat} {r : Bool} (hk : k < f) (hx : rg x 0 9 = true) (hn : x = top) (h : stn F top (f - k) x = r) : r = true := by
  rw [show f - k = (f - (k + 1)) + 1 by omega, stn, if_pos hx, if_pos hn] at h
  exact h.symm
theorem stn_e {F : Nat → Nat → Int32} {top x : Int32} {f k : Nat} {r : Bool} (hx : rg x 0 9 = false) (h : stn F top (f - k) x = r) : r = false := by
  rw [stn_0 _ hx] at h
  exact h.symm
theorem fwm_0 {F : Nat → Nat → Int32} {x : Int32} : ∀ f, rg x 0 9 = false → fwm F f x = -1
  | 0, _ => rfl
  | f + 1, h => by simp [fwm, h]
theorem fwm_s {F : Nat → Nat → Int32} {x v : Int32} {f k : Nat} {r : Int32} (hk : k < f) (hx : rg x 0 9 = true) (hn : F 13 (ix x) = -1) (h : fwm F (f - k) x = r) (hv : F 12 (ix x) = v) : fwm F (f - (k + 1)) v = r := by
  rw [show f - k = (f - (k + 1)) + 1 by omega, fwm, if_pos hx, if_pos hn, hv] at h
  exact h
theorem fwm_t {F : Nat → Nat → Int32} {x : Int32} {f k : Nat} {r : Int32} (hk : k < f) (hx : rg x 0 9 = true) (hn : ¬ F 13 (ix x) = -1) (h : fwm F (f - k) x = r) : x = r := by
  rw [show f - k = (f - (k + 1)) + 1 by omega, fwm, if_pos hx, if_neg hn] at h
  exact h
theorem fwm_e {F : Nat → Nat → Int32} {x : Int32} {f k : Nat} {r : Int32} (hx : rg x 0 9 = false) (h : fwm F (f - k) x = r) : -1 = r := by
  rw [fwm_0 _ hx] at h
  exact h
def wau (F : Nat → Nat → Int32) (top : Int32) : Nat → Int32
  | 0 => 0
  | k + 1 => if stn F top 10 (nI k) = true then wau F top k ||| ((1 : Int32) <<< (nI k &&& 31)) else wau F top k
def dgP (F : Nat → Nat → Int32) (h : Int64) : Nat → Int64
  | 0 => h
  | k + 1 => 31 * (31 * (31 * dgP F h k + (F 12 k).toInt64) + (F 13 k).toInt64) + (F 14 k).toInt64
/-! things -/
def hasT (n : Nat) (x : Int32) : Bool := decide (0 ≤ x) && decide (x < nI n)
theorem hasT_nat {n : Nat} {x : Int32} (hn : n ≤ 60) (h : hasT n x = true) : ∃ t : Nat, t < n ∧ x = nI t := by
  simp only [hasT, Bool.and_eq_true, decide_eq_true_eq, Int32.le_iff_toInt_le, Int32.lt_iff_toInt_lt, Int32.toInt_zero, nI_toInt (show n < 2 ^ 31 by omega)] at h
  refine ⟨x.toInt.toNat, by omega, ?_⟩
  apply Int32.toInt_inj.mp
  rw [nI_toInt (by omega)]
  omega
def sProm (F : Nat → Nat → Int32) (t : Nat) (mo : Int32) : Bool := decide (0 ≤ mo - F 1 t) && decide (mo - F 1 t < F 4 (ix (F 3 t))) && decide ((mo - F 1 t) * F 2 t < F 5 (ix (F 3 t)))
def sLast (F : Nat → Nat → Int32) (t : Nat) : Int32 := if F 4 (ix (F 3 t)) = 0 then -1 else if F 5 (ix (F 3 t)) = 0 then -1 else if 0 < F 2 t then F 1 t + (if (F 5 (ix (F 3 t)) - 1) / F 2 t < F 4 (ix (F 3 t)) - 1 then (F 5 (ix (F 3 t)) - 1) / F 2 t else F 4 (ix (F 3 t)) - 1) else F 1 t + (F 4 (ix (F 3 t)) - 1)
def sExp (F : Nat → Nat → Int32) (a mo : Int32) (t : Nat) : Bool := decide (F 1 t + a ≤ mo) && sProm F t (F 1 t + a)
def sSold (F : Nat → Nat → Int32) (bs fr to0 : Int32) (k : Nat) : Bool := sHas bs.toInt64 (F 0 k) && rg (F 1 k) fr to0
def dgT (F : Nat → Nat → Int32) (h : Int64) : Nat → Int64
  | 0 => h
  | k + 1 => 31 * (31 * (31 * (31 * (31 * dgT F h k + (F 0 k).toInt64) + (F 1 k).toInt64) + (F 2 k).toInt64) + (F 3 k).toInt64) + (sLast F k).toInt64
theorem i_pos0 {x : Int32} (h : ¬ x ≤ 0) : ¬ x = 0 := fun e => h (by rw [e]; exact Int32.le_refl 0)
theorem bnot_f {b : Bool} (h : (!b) = false) : b = true := by cases b <;> simp_all
theorem bnot_t {b : Bool} (h : (!b) = true) : b = false := by cases b <;> simp_all
theorem w_le (a b : Int32) : a.toInt64 ≤ b.toInt64 ↔ a ≤ b := by
  rw [Int64.le_iff_toInt_le, Int32.le_iff_toInt_le, Int32.toInt_toInt64, Int32.toInt_toInt64]
theorem w_lt (a b : Int32) : a.toInt64 < b.toInt64 ↔ a < b := by
  rw [Int64.lt_iff_toInt_lt, Int32.lt_iff_toInt_lt, Int32.toInt_toInt64, Int32.toInt_toInt64]
theorem cg1 {α : Type} (f : α → List (Nat × Value)) {a b : α} (h : a = b) : f a = f b := by rw [h]
theorem cg2 {α β : Type} (f : α → β → List (Nat × Value)) {a b : α} {c d : β} (h : a = b) (h2 : c = d) : f a c = f b d := by rw [h, h2]
theorem cg3 {α β γ : Type} (f : α → β → γ → List (Nat × Value)) {a b : α} {c d : β} {x y : γ} (h : a = b) (h2 : c = d) (h3 : x = y) : f a c x = f b d y := by rw [h, h2, h3]
theorem cg4 {α β γ δ : Type} (f : α → β → γ → δ → List (Nat × Value)) {a b : α} {c d : β} {x y : γ} {u v : δ} (h : a = b) (h2 : c = d) (h3 : x = y) (h4 : u = v) : f a c x u = f b d y v := by rw [h, h2, h3, h4]
theorem hasT_rg {n : Nat} (hn : n ≤ 60) (x : Int32) : rg x 0 (nI n - 1) = hasT n x := by
  have e : (nI n - 1).toInt = (n : Int) - 1 := by
    rw [show (1 : Int32) = nI 1 from rfl, pk_sub_toInt (by omega) (by decide)]; rfl
  have h1 : (x ≤ nI n - 1) ↔ x < nI n := by
    rw [Int32.le_iff_toInt_le, Int32.lt_iff_toInt_lt, e, nI_toInt (by omega)]; omega
  simp only [rg, hasT, h1]
/-- below a size: a place -/
theorem lt_nat {n : Nat} {x : Int32} (hn : n ≤ 100) (h0 : ¬ x < 0) (h : x < nI n) : ∃ t : Nat, t < n ∧ x = nI t := by
  rw [Int32.lt_iff_toInt_lt] at h0 h
  rw [nI_toInt (show n < 2 ^ 31 by omega)] at h
  rw [Int32.toInt_zero] at h0
  refine ⟨x.toInt.toNat, by omega, ?_⟩
  apply Int32.toInt_inj.mp
  rw [nI_toInt (by omega)]
  omega
theorem rg_nn {x M : Int32} (h : rg x 0 M = true) : ¬ x < 0 := by
  simp only [rg, Bool.and_eq_true, decide_eq_true_eq, Int32.le_iff_toInt_le, Int32.toInt_zero] at h
  rw [Int32.lt_iff_toInt_lt, Int32.toInt_zero]; omega
/-! the model's own forms -/
def lsK (F : Nat → Nat → Int32) (t : Nat) : Nat → Int32
  | 0 => -1
  | k + 1 => if sProm F t (F 1 t + nI k) = true then F 1 t + nI k else lsK F t k
theorem ls_end {x : Int32} (h : rg x 0 119 = true) : x + 120 < x + nI 121 := by
  obtain ⟨j, hj, rfl⟩ := rg_nat (N := 120) (by decide) (by decide) h
  rw [show (120 : Int32) = nI 120 from rfl, nI_add, nI_add]
  exact nI_lt (by omega) (by omega)
theorem ls_in {x : Int32} {k : Nat} (h : rg x 0 119 = true) (hk : k < 121) : ¬ x + 120 < x + nI k := by
  obtain ⟨j, hj, rfl⟩ := rg_nat (N := 120) (by decide) (by decide) h
  rw [show (120 : Int32) = nI 120 from rfl, nI_add, nI_add]
  exact nI_nlt (by omega) (by omega)
def aPromised (F : Nat → Nat → Int32) (n : Nat) (x mo : Int32) : Int32 := if hasT n x = true then (if rg mo 0 300 = true then bI (sProm F (ix x) mo) else -2) else -2
def sJudge (F : Nat → Nat → Int32) (c : Nat) (g : Int32) (t : Nat) (p0 mo : Int32) : Int32 := if mo < F 1 t then 1 else if anyB (sAny F (nI t) p0 mo mo) c = true then 2 else if sProm F t mo = true then (if anyB (sAny F (nI t) p0 (mo - g) (mo - 1)) c = true then 4 else 0) else 3
def aAbout (F : Nat → Nat → Int32) (c : Nat) (x w : Int32) : Int32 := if x < 0 then -2 else if rg w 0 6 = true then (if x < nI c then sTell F (ix x) w else -1) else -2
def sTabM (F : Nat → Nat → Int32) (s0 a mo : Int32) (k : Nat) : Bool := sLetBy F mo k && decide (F 1 (ix (F 6 k)) = s0) && decide (F 8 k = s0 + a)
def r3 (b1 b2 b3 : Bool) (v : Int32) : Int32 := if b1 = true then (if b2 = true then (if b3 = true then v else -2) else -2) else -2
def r2 (b1 b2 : Bool) (v : Int32) : Int32 := if b1 = true then (if b2 = true then v else -2) else -2
def sDelM (F : Nat → Nat → Int32) (d mo : Int32) (k : Nat) : Bool := sLetBy F mo k && decide (F 9 k - F 8 k = d) && decide (F 8 k ≤ mo - 11)
def sLD (F : Nat → Nat → Int32) (c : Nat) (mo : Int32) (d : Nat) : Int32 := ctI (sDelM F (nI d) mo) c
def sLE (F : Nat → Nat → Int32) (c : Nat) (f0 mo : Int32) (d : Nat) : Int32 := if nI d ≤ mo - f0 then sLD F c mo d else 0
def aUndM (F : Nat → Nat → Int32) (c : Nat) (f0 mo : Int32) : Int32 := if rg f0 0 300 = true then (if rg mo 0 300 = true then (if f0 ≤ mo then (if mo - f0 < 11 then (if smI (sLE F c f0 mo) 12 = 0 then -1 else ctI (sFail F f0 mo) c * smI (sLD F c mo) 12 / smI (sLE F c f0 mo) 12) else ctI (sFail F f0 mo) c) else -2) else -2) else -2
def sHasC (F : Nat → Nat → Int32) (t : Nat) (p0 mo : Int32) (k : Nat) : Bool := sLetBy F mo k && decide (F 6 k = nI t) && decide (F 7 k = p0)
def aPayer (F : Nat → Nat → Int32) (x : Int32) : Int32 := if rg x 0 9 = true then (if rg (fwm F 10 x) 0 9 = true then F 13 (ix (fwm F 10 x)) else -1) else -2
def sPaid (F : Nat → Nat → Int32) (who : Int32) (k : Nat) : Int32 := if F 11 k = 0 then (if rg (fwm F 10 (F 7 k)) 0 9 = true then (if who < 0 then F 10 k * F 14 (ix (fwm F 10 (F 7 k))) / 100 else if F 13 (ix (fwm F 10 (F 7 k))) = who then F 10 k * F 14 (ix (fwm F 10 (F 7 k))) / 100 else 0) else 0) else 0
def aPays (F : Nat → Nat → Int32) (c : Nat) (who : Int32) : Int32 := if rg who 0 5 = true then smI (sPaid F who) c else -2
def sbI (f : Nat → Int32) (v : Int32) : Nat → Int32
  | 0 => v
  | k + 1 => sbI f v k - f k
def sCb (F : Nat → Nat → Int32) (bs fr to0 : Int32) (t : Nat) : Bool := decide (((bs >>> (F 0 t &&& 31)) &&& 1) = 1) && rg (F 1 t) fr to0
def sCc (F : Nat → Nat → Int32) (t : Nat) (pt : Int32) (k : Nat) : Bool := decide (F 11 k = 0) && decide (F 6 k = nI t) && stn F pt 10 (F 7 k)
def sCal (F : Nat → Nat → Int32) (bs fr to0 : Int32) (t : Nat) (pt : Int32) (k : Nat) : Bool := sCb F bs fr to0 t && !anyB (sCc F t pt) k
def canC (pt bs fr to0 : Int32) : Bool := rg pt 0 9 && rg bs 1 255 && rg fr 0 119 && rg to0 fr 119
def sCl (F : Nat → Nat → Int32) (c : Nat) (pt bs fr to0 : Int32) (t : Nat) : Bool := sCal F bs fr to0 t pt c
def fnd (p : Nat → Bool) (i : Int32) : Nat → Int32
  | 0 => -1
  | t + 1 => if p t = true then (if ctI p t = i then nI t else fnd p i t) else fnd p i t
def sTh (F : Nat → Nat → Int32) (t : Nat) (k : Nat) : Bool := decide (F 11 k = 0) && decide (F 6 k = nI t)
def sThs (F : Nat → Nat → Int32) (c t : Nat) : Bool := anyB (sTh F t) c
def aCount (F : Nat → Nat → Int32) (n c : Nat) (x : Int32) : Int32 := if x = 0 then nI n else if x = 1 then nI c else if x = 2 then ctI (sJud F 0) c else if x = 3 then ctI (sJud F 1) c else if x = 4 then ctI (sJud F 2) c else if x = 5 then ctI (sJud F 3) c else if x = 6 then ctI (sJud F 4) c else if x = 7 then ctI (sThs F c) n else if x = 8 then smI (sCost F) c else -2
def dgTM (F : Nat → Nat → Int32) (h : Int64) : Nat → Int64
  | 0 => h
  | k + 1 => 31 * (31 * (31 * (31 * (31 * dgTM F h k + (F 0 k).toInt64) + (F 1 k).toInt64) + (F 2 k).toInt64) + (F 3 k).toInt64) + (lsK F k 121).toInt64
def aDigM (F : Nat → Nat → Int32) (n c : Nat) : Int64 := dgP F (dgC F (dgTM F (fdL (fun j => (aCount F n c (nI j)).toInt64) 199 9) n) c) 10
theorem fwm_rg {F : Nat → Nat → Int32} : ∀ (f : Nat) (x : Int32), fwm F f x = -1 ∨ rg (fwm F f x) 0 9 = true
  | 0, _ => Or.inl rfl
  | f + 1, x => by
    by_cases h : rg x 0 9 = true
    · by_cases h2 : F 13 (ix x) = -1
      · rw [fwm, if_pos h, if_pos h2]; exact fwm_rg f _
      · rw [fwm, if_pos h, if_neg h2]; exact Or.inr h
    · rw [fwm, if_neg h]; exact Or.inl rfl
theorem fwm_neg {F : Nat → Nat → Int32} {f : Nat} {x : Int32} (h : fwm F f x < 0) : rg (fwm F f x) 0 9 = false := by
  cases hb : rg (fwm F f x) 0 9 with
  | false => rfl
  | true => exact absurd h (rg_nn hb)
theorem fwm_pos {F : Nat → Nat → Int32} {f : Nat} {x : Int32} (h : ¬ fwm F f x < 0) : rg (fwm F f x) 0 9 = true := by
  rcases fwm_rg (F := F) f x with q | q
  · rw [q] at h; exact absurd (by decide) h
  · exact q
/-- a maker is none, or a number -/
theorem Inv.mk {F : Nat → Nat → Int32} {n c : Nat} (h : Inv F n c) {x : Int32} (hx : rg x 0 9 = true) : F 13 (ix x) < 0 ↔ F 13 (ix x) = -1 := by
  obtain ⟨j, hj, rfl⟩ := rg_nat (N := 10) (by decide) (by decide) hx
  have e : ix (nI j) = j := nI_clamp (by omega)
  rw [e]
  have h2 := (h.Q hj).2.1
  simp only [rg, Bool.and_eq_true, decide_eq_true_eq, Int32.le_iff_toInt_le] at h2
  have e1 : (-1 : Int32).toInt = -1 := by decide
  rw [e1] at h2
  rw [Int32.lt_iff_toInt_lt, Int32.toInt_zero, ← Int32.toInt_inj, e1]
  omega
