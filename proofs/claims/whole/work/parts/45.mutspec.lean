/-! what the changing methods do to the state -/
def adF (ok : Bool) (F : Nat → Nat → Int32) (n : Nat) (b0 mo mi ld : Int32) : Nat → Nat → Int32 := fun k => if k = 0 then (if ok = true then upd (F 0) n b0 else F 0) else if k = 1 then (if ok = true then upd (F 1) n mo else F 1) else if k = 2 then (if ok = true then upd (F 2) n mi else F 2) else if k = 3 then (if ok = true then upd (F 3) n ld else F 3) else F k
def adN (ok : Bool) (n : Nat) : Nat := if ok = true then n + 1 else n
def okT (b0 mo mi ld : Int32) : Bool := rg b0 0 7 && rg mo 0 119 && rg mi 0 5000 && rg ld 0 3
def aThing (n : Nat) (b0 mo mi ld : Int32) : Int32 := if okT b0 mo mi ld = true then (if n < 60 then nI n else -4) else -2
def prF (ok : Bool) (F : Nat → Nat → Int32) (l0 mo fa : Int32) : Nat → Nat → Int32 := fun k => if k = 4 then (if ok = true then upd (F 4) (ix l0) mo else F 4) else if k = 5 then (if ok = true then upd (F 5) (ix l0) fa else F 5) else F k
def okP (l0 mo fa : Int32) : Bool := rg l0 0 3 && rg mo 0 120 && rg fa 0 600000
def agG (ok : Bool) (g x : Int32) : Int32 := if ok = true then x else g
def unF (ok : Bool) (F : Nat → Nat → Int32) (p0 a0 : Int32) : Nat → Nat → Int32 := fun k => if k = 12 then (if ok = true then upd (F 12) (ix p0) a0 else F 12) else F k
def okU (F : Nat → Nat → Int32) (p0 a0 : Int32) : Bool := rg p0 0 9 && rg a0 (-1) 9 && !stn F p0 10 a0
def aUnder (F : Nat → Nat → Int32) (p0 a0 : Int32) : Int32 := if rg p0 0 9 = true then (if rg a0 (-1) 9 = true then (if stn F p0 10 a0 = true then -3 else 1) else -2) else -2
def mkF (ok : Bool) (F : Nat → Nat → Int32) (p0 w0 s0 : Int32) : Nat → Nat → Int32 := fun k => if k = 13 then (if ok = true then upd (F 13) (ix p0) w0 else F 13) else if k = 14 then (if ok = true then upd (F 14) (ix p0) s0 else F 14) else F k
def okM (p0 w0 s0 : Int32) : Bool := rg p0 0 9 && rg w0 (-1) 5 && rg s0 0 100
def clF (ok : Bool) (F : Nat → Nat → Int32) (c : Nat) (x p0 mo to0 co ag jd : Int32) : Nat → Nat → Int32 := fun k => if k = 6 then (if ok = true then upd (F 6) c x else F 6) else if k = 7 then (if ok = true then upd (F 7) c p0 else F 7) else if k = 8 then (if ok = true then upd (F 8) c mo else F 8) else if k = 9 then (if ok = true then upd (F 9) c to0 else F 9) else if k = 10 then (if ok = true then upd (F 10) c co else F 10) else if k = 11 then (if ok = true then upd (F 11) c jd else F 11) else if k = 15 then (if ok = true then upd (F 15) c ag else F 15) else F k
def okC (n : Nat) (x p0 mo to0 co : Int32) : Bool := hasT n x && rg p0 0 9 && rg mo 0 300 && rg to0 0 300 && !decide (to0 < mo) && rg co 0 10000
def aClaim (F : Nat → Nat → Int32) (n c : Nat) (g x p0 mo to0 co : Int32) : Int32 := if okC n x p0 mo to0 co = true then (if c < 100 then sJudge F c g (ix x) p0 mo else -4) else -2
theorem rgm (a M : Int32) (hM : (-1 : Int32) ≤ M) : rg a (-1) M = (rg a 0 M || decide (a = -1)) := by
  apply b_eq
  simp only [rg, Bool.or_eq_true, Bool.and_eq_true, decide_eq_true_eq, Int32.le_iff_toInt_le, ← Int32.toInt_inj] at *
  have e0 : (0 : Int32).toInt = 0 := by decide
  have e1 : (-1 : Int32).toInt = -1 := by decide
  rw [e1] at hM
  rw [e0, e1]; omega
abbrev x4W (q : Nat → Nat) (cs : Nat → ClassId) (F : Nat → Nat → Int32) (n c : Nat) (g : Int32) : va_W := oW q g ++ (tW q cs F n ++ (cW q cs F c ++ pW q cs F))
theorem rg_neg {x M : Int32} (h : x < 0) : rg x 0 M = false := by
  cases hb : rg x 0 M with
  | false => rfl
  | true => exact absurd h (rg_nn hb)
theorem rg_up {x M : Int32} (h : rg x (-1) M = true) (h0 : ¬ x < 0) : rg x 0 M = true := by
  rcases rg_m1 h with q | q
  · rw [q] at h0; exact absurd (by decide) h0
  · exact q
