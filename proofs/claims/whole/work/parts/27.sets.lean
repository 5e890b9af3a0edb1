/-! sets of things by batch, by claims -/
def sNb (F : Nat → Nat → Int32) (n : Nat) (x : Int32) : Nat := ctN (fun t => decide (F 0 t = x)) n
def sK (F : Nat → Nat → Int32) (n c : Nat) (p0 mo : Int32) : Nat := ctN (fun t => anyB (sHasC F t p0 mo) c) n
def sKb (F : Nat → Nat → Int32) (n c : Nat) (x p0 mo : Int32) : Nat := ctN (fun t => decide (F 0 t = x) && anyB (sHasC F t p0 mo) c) n
def cU (F : Nat → Nat → Int32) (n c : Nat) (x p0 mo : Int32) : Nat := uW (sK F n c p0 mo) n (sNb F n x) (sKb F n c x p0 mo)
def cL (F : Nat → Nat → Int32) (n : Nat) (x : Int32) : Nat := chs n (sNb F n x)
def sOb (F : Nat → Nat → Int32) (n : Nat) (x : Int32) : Int64 := orL (sSold F ((1 : Int32) <<< (x &&& 31)) 0 119) (fun k => bit1 (nI k)) n
def sHi (F : Nat → Nat → Int32) (c : Nat) (p0 mo : Int32) : Int64 := orL (sHit F ((1 : Int32) <<< (p0 &&& 31)) mo) (fun k => bit1 (F 6 k)) c
theorem ab_rg (w : Int32) : (decide (w = 0) || decide (w = 1)) = rg w 0 1 := by
  apply b_eq
  simp only [rg, Bool.or_eq_true, Bool.and_eq_true, decide_eq_true_eq, Int32.le_iff_toInt_le, ← Int32.toInt_inj]
  have e0 : (0 : Int32).toInt = 0 := by decide
  have e1 : (1 : Int32).toInt = 1 := by decide
  rw [e0, e1]; omega
theorem sHas_1 {x r : Int32} {N : Nat} (hN : N ≤ 32) {M : Int32} (hM : M.toInt = (N : Int) - 1) (hx : rg x 0 M = true) (hr : rg r 0 M = true) : sHas ((1 : Int32) <<< (x &&& 31)).toInt64 r = decide (r = x) := by
  obtain ⟨a, ha, rfl⟩ := rg_nat (by omega) hM hx
  obtain ⟨b, hb, rfl⟩ := rg_nat (by omega) hM hr
  rw [sHas_bit (by omega), bitL_64 _ (by omega), bt_1 a (by omega) b (by omega)]
  apply b_eq
  simp only [decide_eq_true_eq]
  rw [nI_eq (by omega) (by omega)]
theorem ob_bit {F : Nat → Nat → Int32} {n c : Nat} (hI : Inv F n c) {x : Int32} (hx : rg x 0 7 = true) {i : Nat} (hi : i < 64) : bitL (sOb F n x) i = (decide (i < n) && decide (F 0 i = x)) := by
  have h60 := hI.n60
  rw [sOb, bs_set (by omega) hi]
  by_cases h : i < n
  · have ht := hI.T h
    rw [show sSold F ((1 : Int32) <<< (x &&& 31)) 0 119 i = (sHas ((1 : Int32) <<< (x &&& 31)).toInt64 (F 0 i) && rg (F 1 i) 0 119) from rfl, sHas_1 (N := 8) (by decide) (by decide) hx ht.1, ht.2.1, Bool.and_true]
  · simp [h]
theorem hi_bit {F : Nat → Nat → Int32} {n c : Nat} (hI : Inv F n c) {p0 mo : Int32} (hp : rg p0 0 9 = true) {i : Nat} (hi : i < 64) : bitL (sHi F c p0 mo) i = (decide (i < n) && anyB (sHasC F i p0 mo) c) := by
  have h60 := hI.n60
  rw [sHi, bs_hit hI hi]
  have e : anyB (fun k => sHit F ((1 : Int32) <<< (p0 &&& 31)) mo k && decide (F 6 k = nI i)) c = anyB (sHasC F i p0 mo) c := by
    apply anyB_cong
    intro k hk
    rw [show sHit F ((1 : Int32) <<< (p0 &&& 31)) mo k = (sLetBy F mo k && sHas ((1 : Int32) <<< (p0 &&& 31)).toInt64 (F 7 k)) from rfl, sHas_1 (N := 10) (by decide) (by decide) hp (hI.C hk).2.1]
    unfold sHasC
    cases sLetBy F mo k <;> cases decide (F 7 k = p0) <;> cases decide (F 6 k = nI i) <;> rfl
  rw [e]
  by_cases h : i < n
  · simp [h]
  · have : anyB (sHasC F i p0 mo) c = false := by
      rcases hb : anyB (sHasC F i p0 mo) c with _ | _
      · rfl
      · exfalso
        obtain ⟨k, hk, h2⟩ := anyB_iff.mp hb
        unfold sHasC at h2
        simp only [Bool.and_eq_true, decide_eq_true_eq] at h2
        have h3 := hI.ct hk
        rw [h2.1.2, show ix (nI i) = i from nI_clamp (by omega)] at h3
        exact h h3
    rw [this]; simp
theorem ct_in {p : Nat → Bool} {x : Int64} {n : Nat} (hn : n ≤ 60) (h : ∀ i, i < 64 → bitL x i = (decide (i < n) && p i)) : ctN (bitL x) 64 = ctN p n := by
  have e := ctN_ext (p := bitL x) (n := n) (64 - n) (fun k h1 h2 => by rw [h k (by omega)]; simp [Nat.not_lt.mpr h1])
  rw [show n + (64 - n) = 64 by omega] at e
  rw [e]
  exact ctN_cong (fun j hj => by rw [h j (by omega)]; simp [hj])
theorem ob_ct {F : Nat → Nat → Int32} {n c : Nat} (hI : Inv F n c) {x : Int32} (hx : rg x 0 7 = true) : ctN (bitL (sOb F n x)) 64 = sNb F n x := ct_in hI.n60 (fun _ hi => ob_bit hI hx hi)
theorem hi_ct {F : Nat → Nat → Int32} {n c : Nat} (hI : Inv F n c) {p0 mo : Int32} (hp : rg p0 0 9 = true) : ctN (bitL (sHi F c p0 mo)) 64 = sK F n c p0 mo := ct_in hI.n60 (fun _ hi => hi_bit hI hp hi)
theorem oh_ct {F : Nat → Nat → Int32} {n c : Nat} (hI : Inv F n c) {x p0 mo : Int32} (hx : rg x 0 7 = true) (hp : rg p0 0 9 = true) : ctN (bitL (sOb F n x &&& sHi F c p0 mo)) 64 = sKb F n c x p0 mo := ct_in hI.n60 (fun i hi => by
  rw [bitL_and, ob_bit hI hx hi, hi_bit hI hp hi]
  cases decide (i < n) <;> cases decide (F 0 i = x) <;> cases anyB (sHasC F i p0 mo) c <;> rfl)
theorem L_ext {x y : Int64} (h : ∀ i, i < 64 → bitL x i = bitL y i) : x = y := Int64.toBitVec_inj.mp (BitVec.eq_of_getLsbD_eq (fun i hi => h i hi))
theorem ctN_0 {p : Nat → Bool} : ∀ {k : Nat}, ctN p k = 0 → ∀ j, j < k → p j = false
  | 0, _, j, hj => absurd hj (Nat.not_lt_zero j)
  | k + 1, h, j, hj => by
    rw [ctN] at h
    by_cases hp : p k = true
    · rw [if_pos hp] at h; omega
    · rw [if_neg hp] at h
      rcases Nat.lt_or_ge j k with q | q
      · exact ctN_0 h j q
      · rw [show j = k by omega]; simpa using hp
theorem ctN_z {p : Nat → Bool} : ∀ {k : Nat}, (∀ j, j < k → p j = false) → ctN p k = 0
  | 0, _ => rfl
  | k + 1, h => by rw [ctN, h k (by omega), ctN_z (fun j hj => h j (by omega))]; simp
theorem ob_0 {F : Nat → Nat → Int32} {n c : Nat} (hI : Inv F n c) {x : Int32} (hx : rg x 0 7 = true) : sOb F n x = 0 ↔ sNb F n x = 0 := by
  rw [← ob_ct hI hx]
  constructor
  · intro h; rw [h]; exact ctN_z (fun j _ => bitL_0 j)
  · intro h
    apply L_ext
    intro i hi
    rw [bitL_0]
    exact ctN_0 h i hi
theorem sNb_le {F : Nat → Nat → Int32} {n : Nat} {x : Int32} : sNb F n x ≤ n := ctN_le n
theorem sK_le {F : Nat → Nat → Int32} {n c : Nat} {p0 mo : Int32} : sK F n c p0 mo ≤ n := ctN_le n
theorem cL_pos {F : Nat → Nat → Int32} {n : Nat} {x : Int32} : 0 < cL F n x := chs_pos sNb_le
theorem cL_63 {F : Nat → Nat → Int32} {n c : Nat} (hI : Inv F n c) {x : Int32} : cL F n x < 2 ^ 63 := chs_63 hI.n60 _
theorem cU_63 {F : Nat → Nat → Int32} {n c : Nat} (hI : Inv F n c) {x p0 mo : Int32} : cU F n c x p0 mo < 2 ^ 63 := Nat.lt_of_le_of_lt (uW_le sK_le) (chs_63 hI.n60 _)
def aChance (F : Nat → Nat → Int32) (n c : Nat) (x p0 mo w : Int32) : Int64 := if rg x 0 7 = true then (if rg p0 0 9 = true then (if rg mo 0 300 = true then (if rg w 0 1 = true then (if sNb F n x = 0 then -3 else lN ((if w = 0 then cU F n c x p0 mo else cL F n x) / Nat.gcd (cU F n c x p0 mo) (cL F n x))) else -2) else -2) else -2) else -2
def odC (F : Nat → Nat → Int32) (n c : Nat) (p0 mo : Int32) : Nat → Int32 × Nat × Nat
  | 0 => (-1, 1, 1)
  | b + 1 => if sNb F n (nI b) = 0 then odC F n c p0 mo b else if (odC F n c p0 mo b).1 = -1 then (nI b, cU F n c (nI b) p0 mo, cL F n (nI b)) else if cU F n c (nI b) p0 mo * (odC F n c p0 mo b).2.2 < (odC F n c p0 mo b).2.1 * cL F n (nI b) then (nI b, cU F n c (nI b) p0 mo, cL F n (nI b)) else odC F n c p0 mo b
theorem odC_ok {F : Nat → Nat → Int32} {n c : Nat} (hI : Inv F n c) {p0 mo : Int32} : ∀ b : Nat, (odC F n c p0 mo b).2.1 < 2 ^ 63 ∧ (odC F n c p0 mo b).2.2 < 2 ^ 63 ∧ 0 < (odC F n c p0 mo b).2.2
  | 0 => ⟨(by decide : 1 < 2 ^ 63), (by decide : 1 < 2 ^ 63), (by decide : 0 < 1)⟩
  | b + 1 => by
    have ih := odC_ok hI (p0 := p0) (mo := mo) b
    have hn : (nI b, cU F n c (nI b) p0 mo, cL F n (nI b)).2.1 < 2 ^ 63 ∧ (nI b, cU F n c (nI b) p0 mo, cL F n (nI b)).2.2 < 2 ^ 63 ∧ 0 < (nI b, cU F n c (nI b) p0 mo, cL F n (nI b)).2.2 := ⟨cU_63 hI, cL_63 hI, cL_pos⟩
    rw [odC]
    split
    · exact ih
    · split
      · exact hn
      · split
        · exact hn
        · exact ih
theorem rg_k7 {k : Nat} (h : k < 8) : rg (nI k) 0 7 = true := by
  have : ∀ k, k < 8 → rg (nI k) 0 7 = true := by decide +kernel
  exact this k h
/-- the row of ways -/
theorem wW_row {q : Nat → Nat} {cs : Nat → ClassId} {i : Nat} (h : i < 61) : (wW q cs)[2 + i]? = some (q (50 + i), .inl (cs 1, 61, .inr (.inl (fun j => lN (chs i j))))) := by
  show ([(q 4, (.inr (3, [.ref (q 40)]) : va_E)), (q 40, .inl (cs 2, 61, .inr (.inr (.inr (.inr (fun i => if i < 61 then some (q (50 + i)) else none))))))] ++ (List.range 61).map (fun i => (q (50 + i), (.inl (cs 1, 61, .inr (.inl (fun j => lN (chs i j)))) : va_E))))[2 + i]? = _
  rw [List.getElem?_append_right (by show 2 ≤ 2 + i; omega), show 2 + i - [(q 4, (.inr (3, [.ref (q 40)]) : va_E)), (q 40, .inl (cs 2, 61, .inr (.inr (.inr (.inr (fun i => if i < 61 then some (q (50 + i)) else none))))))].length = i by show 2 + i - 2 = i; omega, List.getElem?_map, List.getElem?_range h]
  rfl
section AA
variable {p : Program} {l : Launch} {e : Env} {R : Room} {s : State} {m : MethodId} {args : Array Value} {below : List Frame} {meth : Method} {c : Code} {H : Heap} {locs : List Loc} {cells slots : Nat} {Q : State → Prop}
variable {cc : ByteArray} {pc : Nat} {ls : Array Slot} {rest : List Value} {D : va_G} {cl : List vw_C} {tys : List (ClassId × FieldType)} {ws : va_W} {a : Nat}
theorem aaK (hexec : p.tables.exec = Jvm.exec) (hb : c.code = cc) (hK : va_K D cl tys s) (hP : va_P D cl ws H) (q0 t0 : Nat) {cA : ClassId} {ty : FieldType} {n : Nat} {f : Nat → Option Nat} (ha : ws[q0]? = some (a, .inl (cA, n, .inr (.inr (.inr (.inr f)))))) (ht : tys[t0]? = some (cA, .array ty)) {i : Int32} (j : Nat) {b : Nat} (hin : vp_in i n) (hj : i.toNatClampNeg = j) (hv : f j = some b) (hdg : decode cc pc = .ok (.aaload, 1))
    (kk : W p l e R s m args below meth c H locs cells slots Q (F0 m (pc + 1) ls (.ref b :: rest))) : W p l e R s m args below meth c H locs cells slots Q (F0 m pc ls (.int i :: .ref a :: rest)) := by
  subst hj
  have hlt : i.toNatClampNeg < n := Nat.not_le.mp fun q => hin (Or.inr q)
  have kk' : W p l e R s m args below meth c H locs cells slots Q (F0 m (pc + 1) ls (va_rf (f i.toNatClampNeg) :: rest)) := by rw [hv]; exact kk
  exact W.aald (v := va_rf (f i.toNatClampNeg)) (ty := .array ty) hexec hb (hP q0 _ ha) ((hK.2 t0 _ ht).1 n (fun j => va_rf (f j))) rfl (fun q => by cases q) (by show ¬ (i < 0 ∨ (arrV _ _ _).slots.size ≤ _); rw [arrV_size]; exact hin) (by show (arrV _ _ _).slots[_]? = _; rw [arrV_read _ _ hlt]) rfl rfl hdg kk'
end AA
theorem lN_gt0 {y : Nat} (hy : y < 2 ^ 63) (h : 0 < y) : 0 < lN y := by
  rw [show (0 : Int64) = lN 0 from rfl, pk_lLT (by decide) hy]; exact h
theorem oh_le1 (x y : Int64) : ctN (bitL (x &&& y)) 64 ≤ ctN (bitL x) 64 := ctN_imp (fun j _ h => by rw [bitL_and, Bool.and_eq_true] at h; exact h.1)
theorem oh_le2 (x y : Int64) : ctN (bitL (x &&& y)) 64 ≤ ctN (bitL y) 64 := ctN_imp (fun j _ h => by rw [bitL_and, Bool.and_eq_true] at h; exact h.2)
theorem ct_pos {p : Nat → Bool} {n : Nat} (h : ¬ ctI p n = 0) : 0 < ctN p n := by
  rcases Nat.eq_zero_or_pos (ctN p n) with q | q
  · exact absurd (by rw [ctI_N, q]; rfl) h
  · exact q
def sAgeM (F : Nat → Nat → Int32) (w mo : Int32) (k : Nat) : Bool := sLetBy F mo k && decide (F 8 k - F 1 (ix (F 6 k)) = w)
def aRate (F : Nat → Nat → Int32) (n c : Nat) (pa : Nat → Bool) (a mo w : Int32) : Int32 := r3 (rg a 0 300) (rg mo 0 300) (rg w 0 1) (if ctI (sExp F a mo) n = 0 then -3 else nI ((if w = 0 then ctN pa c else ctN (sExp F a mo) n) / Nat.gcd (ctN pa c) (ctN (sExp F a mo) n)))
def aThB (F : Nat → Nat → Int32) (c : Nat) : Int64 := orL (sHit F 1023 300) (fun k => bit1 (F 6 k)) c
def aCountC (F : Nat → Nat → Int32) (n c : Nat) (x : Int32) : Int32 := if rg x 0 8 = true then (if x = 0 then nI n else if x = 1 then nI c else if x = 7 then nI (ctN (bitL (aThB F c)) 64) else if x = 8 then smI (sCost F) c else ctI (sJud F (x - 2)) c) else -2
def aDigC (F : Nat → Nat → Int32) (n c : Nat) : Int64 := dgP F (dgC F (dgT F (fdL (fun j => (aCountC F n c (nI j)).toInt64) 199 9) n) c) 10
theorem rg_nI {a b : Nat} (h : rg (nI b) 0 (nI a) = false) (ha : a < 2 ^ 31) : a < b := by
  rcases Nat.lt_or_ge a b with q | q
  · exact q
  · exfalso
    have : rg (nI b) 0 (nI a) = true := by
      simp only [rg, Bool.and_eq_true, decide_eq_true_eq]
      exact ⟨nI_pos' (by omega), nI_le q ha⟩
    rw [this] at h; cases h
theorem nI_gcd0 {a b : Nat} (h : 0 < b) (hb : b ≤ 60) : ¬ nI (Nat.gcd a b) = 0 := by
  have h1 := lowest (a := a) h
  have h2 := Nat.gcd_le_right a h
  exact nI_ne0 h1 (by omega)
theorem rate_a {A B : Nat} (h : 0 < B) (hA : A ≤ 100) (hB : B ≤ 60) : nI A / nI (Nat.gcd A B) = nI (A / Nat.gcd A B) := by
  have h1 := lowest (a := A) h
  have h2 := Nat.gcd_le_right A h
  exact pk_div (by omega) h1 (by omega)
theorem rate_b {A B : Nat} (h : 0 < B) (hA : A ≤ 100) (hB : B ≤ 60) : nI B / nI (Nat.gcd A B) = nI (B / Nat.gcd A B) := by
  have h1 := lowest (a := A) h
  have h2 := Nat.gcd_le_right A h
  exact pk_div (by omega) h1 (by omega)
theorem aRate_v {F : Nat → Nat → Int32} {n c : Nat} {pa : Nat → Bool} {a mo w : Int32} (h1 : rg a 0 300 = true) (h2 : rg mo 0 300 = true) (h3 : rg w 0 1 = true) (h4 : ¬ ctI (sExp F a mo) n = 0) : aRate F n c pa a mo w = nI ((if w = 0 then ctN pa c else ctN (sExp F a mo) n) / Nat.gcd (ctN pa c) (ctN (sExp F a mo) n)) := by
  unfold aRate r3
  rw [if_pos h1, if_pos h2, if_pos h3, if_neg h4]
