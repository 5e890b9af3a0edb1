/-! class and model answer alike -/
theorem rg_natE {x : Int32} {N : Nat} {M : Int32} (hN : N < 2 ^ 31) (hM : M.toInt = (N : Int) - 1) (h : rg x 0 M = true) : ∃ j : Nat, j < N ∧ x = nI j := rg_nat hN hM h
/-- the last month by a threshold -/
theorem lsK_T {F : Nat → Nat → Int32} {t T : Nat} : ∀ N : Nat, (∀ k, k < N → (sProm F t (F 1 t + nI k) = true ↔ k < T)) → lsK F t N = if min T N = 0 then -1 else F 1 t + nI (min T N - 1)
  | 0, _ => by rw [Nat.min_zero]; rfl
  | N + 1, h => by
    have ih := lsK_T N (fun k hk => h k (by omega))
    rw [lsK]
    by_cases hp : N < T
    · rw [if_pos ((h N (by omega)).mpr hp), if_neg (by omega), show min T (N + 1) - 1 = N by omega]
    · rw [if_neg (fun q => hp ((h N (by omega)).mp q)), ih, show min T (N + 1) = min T N by omega]
theorem lsK_last {F : Nat → Nat → Int32} {n c : Nat} (hI : Inv F n c) {t : Nat} (ht : t < n) : lsK F t 121 = sLast F t := by
  obtain ⟨-, h1, h2, h3⟩ := hI.T ht
  obtain ⟨s0, hs0, es⟩ := rg_nat (N := 120) (by decide) (by decide) h1
  obtain ⟨r, hr, er⟩ := rg_nat (N := 5001) (by decide) (by decide) h2
  obtain ⟨ld, hld, el⟩ := rg_nat (N := 4) (by decide) (by decide) h3
  have eix : ix (F 3 t) = ld := by rw [el]; exact nI_clamp (by omega)
  obtain ⟨g1, g2⟩ := hI.Lb hld
  obtain ⟨mo, hmo, em⟩ := rg_nat (N := 121) (by decide) (by decide) g1
  obtain ⟨f, hf, ef⟩ := rg_nat (N := 600001) (by decide) (by decide) g2
  have hP : ∀ k, k < 121 → (sProm F t (F 1 t + nI k) = true ↔ (k < mo ∧ k * r < f)) := by
    intro k hk
    have hkr : k * r ≤ 120 * 5000 := Nat.mul_le_mul (by omega) (by omega)
    unfold sProm
    rw [eix, em, ef, er, es, nI_add, pk_sub (by omega), show s0 + k - s0 = k by omega, pk_mul]
    simp only [Bool.and_eq_true, decide_eq_true_eq]
    rw [nI_ltI (by omega) (by omega), nI_ltI (by omega) (by omega)]
    exact ⟨fun h => ⟨h.1.2, h.2⟩, fun h => ⟨⟨nI_pos' (by omega), h.1⟩, h.2⟩⟩
  unfold sLast
  rw [eix, em, ef, er]
  by_cases m0 : mo = 0
  · rw [lsK_T (T := 0) 121 (fun k hk => by rw [hP k hk]; omega), m0]; rfl
  rw [if_neg (nI_ne0 (by omega) (by omega))]
  by_cases f0 : f = 0
  · rw [lsK_T (T := 0) 121 (fun k hk => by rw [hP k hk, f0]; omega), f0]; rfl
  rw [if_neg (nI_ne0 (by omega) (by omega)), show (1 : Int32) = nI 1 from rfl, pk_sub (by omega), pk_sub (by omega)]
  by_cases r0 : r = 0
  · rw [lsK_T (T := mo) 121 (fun k hk => by rw [hP k hk, r0]; omega), if_neg (by omega), r0, if_neg (show ¬ (0 : Int32) < nI 0 by decide), show min mo 121 - 1 = mo - 1 by omega]
  · have hr1 : 0 < r := by omega
    have h9 : ∀ k, k ≤ (f - 1) / r ↔ k * r ≤ f - 1 := fun k => Nat.le_div_iff_mul_le hr1
    rw [pk_div (by omega) hr1 (by omega)]
    generalize hT : (f - 1) / r = T at h9
    have hd : T ≤ f - 1 := by rw [← hT]; exact Nat.div_le_self _ _
    have hPT : ∀ k, k < 121 → (sProm F t (F 1 t + nI k) = true ↔ k < min mo (T + 1)) := by
      intro k hk
      rw [hP k hk]
      have h8 := h9 k
      constructor
      · rintro ⟨a, b⟩
        have := h8.mpr (by omega)
        omega
      · intro h
        have := h8.mp (by omega)
        exact ⟨by omega, by omega⟩
    rw [lsK_T 121 hPT, if_neg (by omega), if_pos (show (0 : Int32) < nI r by rw [show (0 : Int32) = nI 0 from rfl, nI_ltI (by omega) (by omega)]; exact hr1)]
    by_cases q : T < mo - 1
    · rw [if_pos ((nI_ltI (by omega) (by omega)).mpr q), show min (min mo (T + 1)) 121 - 1 = T by omega]
    · rw [if_neg (fun h => q ((nI_ltI (by omega) (by omega)).mp h)), show min (min mo (T + 1)) 121 - 1 = mo - 1 by omega]
theorem e_last {F : Nat → Nat → Int32} {n c : Nat} (hI : Inv F n c) (x : Int32) : (if hasT n x = true then sLast F (ix x) else -2) = (if hasT n x = true then lsK F (ix x) 121 else -2) := by
  by_cases h : hasT n x = true
  · rw [if_pos h, if_pos h]
    have h60 := hI.n60
    obtain ⟨t, ht, rfl⟩ := hasT_nat h60 h
    rw [show ix (nI t) = t from nI_clamp (by omega), lsK_last hI ht]
  · rw [if_neg h, if_neg h]
theorem i_sub (s a x : Int32) : (s + a) - x = a ↔ x = s := by
  constructor
  · intro h
    have h1 : (s + a) - x + x = a + x := by rw [h]
    rw [Int32.sub_add_cancel, Int32.add_comm a x] at h1
    have h2 : s + a - a = x + a - a := by rw [h1]
    rw [Int32.add_sub_cancel, Int32.add_sub_cancel] at h2
    exact h2.symm
  · intro h; rw [h, Int32.add_comm s a, Int32.add_sub_cancel]
theorem e_table {F : Nat → Nat → Int32} {n c : Nat} (hI : Inv F n c) (s0 a mo : Int32) : ctI (sTab F s0 a mo) c = ctI (sTabM F s0 a mo) c := ctI_cong (fun k hk => by
  have h := (hI.C hk).2.2.2.2.2.2.2
  unfold sTab sTabM
  rw [h]
  apply b_eq
  simp only [Bool.and_eq_true, decide_eq_true_eq]
  constructor
  · rintro ⟨⟨h1, h2⟩, h3⟩; rw [h3] at h2; exact ⟨⟨h1, (i_sub s0 a _).mp h2⟩, h3⟩
  · rintro ⟨⟨h1, h2⟩, h3⟩; exact ⟨⟨h1, by rw [h3]; exact (i_sub s0 a _).mpr h2⟩, h3⟩)
theorem e_rate {F : Nat → Nat → Int32} {n c : Nat} (hI : Inv F n c) (a mo w : Int32) : aRate F n c (sAge F a mo) a mo w = aRate F n c (sAgeM F a mo) a mo w := by
  have h : ctN (sAge F a mo) c = ctN (sAgeM F a mo) c := ctN_cong (fun k hk => by
    unfold sAge sAgeM; rw [(hI.C hk).2.2.2.2.2.2.2])
  unfold aRate; rw [h]
theorem i_anti {a b : Int32} : (a ≤ b ∧ b ≤ a) ↔ b = a := by
  rw [Int32.le_iff_toInt_le, Int32.le_iff_toInt_le, ← Int32.toInt_inj]; omega
theorem e_del {F : Nat → Nat → Int32} {c : Nat} (d mo : Int32) : ctI (sDel F d d mo) c = ctI (sDelM F d mo) c := ctI_cong (fun k _ => by
  unfold sDel sDelM
  apply b_eq
  simp only [Bool.and_eq_true, decide_eq_true_eq]
  constructor
  · rintro ⟨⟨⟨h1, h2⟩, h3⟩, h4⟩; exact ⟨⟨h2, i_anti.mp ⟨h3, h4⟩⟩, h1⟩
  · rintro ⟨⟨h1, h2⟩, h3⟩; obtain ⟨g1, g2⟩ := i_anti.mpr h2; exact ⟨⟨⟨h3, h1⟩, g1⟩, g2⟩)
/-! sums -/
theorem smI_add {f g : Nat → Int32} : ∀ N : Nat, smI (fun i => f i + g i) N = smI f N + smI g N
  | 0 => rfl
  | N + 1 => by
    rw [smI, smI, smI, smI_add N]
    rw [Int32.add_assoc, Int32.add_assoc, ← Int32.add_assoc (smI g N), Int32.add_comm (smI g N) (f N), Int32.add_assoc]
theorem smI_z {f : Nat → Int32} : ∀ {N : Nat}, (∀ i, i < N → f i = 0) → smI f N = 0
  | 0, _ => rfl
  | N + 1, h => by rw [smI, smI_z (fun i hi => h i (by omega)), h N (by omega)]; rfl
theorem smI_one {v : Int32} {j : Nat} : ∀ N : Nat, N < 2 ^ 31 → smI (fun d => if d = j then v else 0) N = if j < N then v else 0
  | 0, _ => rfl
  | N + 1, h => by
    rw [smI, smI_one N (by omega)]
    by_cases q : N = j
    · rw [if_neg (by omega), if_pos q, if_pos (by omega), Int32.zero_add]
    · rw [if_neg q, Int32.add_zero]
      by_cases q2 : j < N
      · rw [if_pos q2, if_pos (by omega)]
      · rw [if_neg q2, if_neg (by omega)]
theorem smI_swap {g : Nat → Nat → Int32} {N : Nat} : ∀ c : Nat, smI (fun j => smI (fun k => g j k) c) N = smI (fun k => smI (fun j => g j k) N) c
  | 0 => smI_z (fun _ _ => rfl)
  | c + 1 => by
    show smI (fun j => smI (fun k => g j k) c + g j c) N = _
    rw [smI_add, smI_swap c]; rfl
theorem ct_sm {p : Nat → Bool} : ∀ c : Nat, ctI p c = smI (fun k => if p k = true then 1 else 0) c
  | 0 => rfl
  | c + 1 => by
    rw [ctI, smI, ct_sm c]
    split
    · rfl
    · rw [Int32.add_zero]
theorem exch {p : Nat → Nat → Bool} {q : Nat → Bool} {N c : Nat} (h : ∀ k, k < c → smI (fun d => if p d k = true then 1 else 0) N = if q k = true then 1 else 0) : smI (fun d => ctI (p d) c) N = ctI q c := by
  have e : (fun d => ctI (p d) c) = fun d => smI (fun k => if p d k = true then 1 else 0) c := funext fun d => ct_sm c
  rw [e, smI_swap, ct_sm]
  exact smI_cong h
theorem dly {F : Nat → Nat → Int32} {n c : Nat} (hI : Inv F n c) {k : Nat} (hk : k < c) : ∃ j, j < 301 ∧ F 9 k - F 8 k = nI j := by
  obtain ⟨-, -, h1, h2, h3, -⟩ := hI.C hk
  obtain ⟨a, ha, ea⟩ := rg_nat (N := 301) (by decide) (by decide) h1
  obtain ⟨b, hb, eb⟩ := rg_nat (N := 301) (by decide) (by decide) h2
  rw [ea, eb, nI_leI (by omega) (by omega)] at h3
  exact ⟨b - a, by omega, by rw [ea, eb, pk_sub h3]⟩
theorem e_und1 {F : Nat → Nat → Int32} {n c : Nat} (hI : Inv F n c) (mo : Int32) : smI (sLD F c mo) 12 = ctI (sDel F 0 11 mo) c := by
  show smI (fun d => ctI (sDelM F (nI d) mo) c) 12 = _
  apply exch
  intro k hk
  obtain ⟨j, hj, ej⟩ := dly hI hk
  have e : ∀ d, d < 12 → (if sDelM F (nI d) mo k = true then (1 : Int32) else 0) = (if d = j then (if (sLetBy F mo k && decide (F 8 k ≤ mo - 11)) = true then 1 else 0) else 0) := by
    intro d hd
    unfold sDelM
    rw [ej]
    by_cases q : d = j
    · subst q; simp
    · have : ¬ nI j = nI d := fun h => q ((nI_eq (by omega) (by omega)).mp h).symm
      simp [q, this]
  rw [smI_cong e, smI_one 12 (by decide)]
  unfold sDel
  rw [ej]
  by_cases q : j < 12
  · have h1 : (0 : Int32) ≤ nI j := nI_pos' (by omega)
    have h2 : nI j ≤ 11 := nI_le (b := 11) (by omega) (by decide)
    rw [if_pos q]
    cases sLetBy F mo k <;> simp [h1, h2]
  · have h2 : ¬ nI j ≤ 11 := nI_ge (a := 11) (by omega) (by omega)
    rw [if_neg q]; simp [h2]
theorem e_und2 {F : Nat → Nat → Int32} {n c : Nat} (hI : Inv F n c) (f0 mo : Int32) (he : mo - f0 < 11) : smI (sLE F c f0 mo) 12 = ctI (sDel F 0 (mo - f0) mo) c := by
  have e0 : sLE F c f0 mo = fun d => ctI (fun k => decide (nI d ≤ mo - f0) && sDelM F (nI d) mo k) c := funext fun d => by
    unfold sLE sLD
    by_cases q : nI d ≤ mo - f0
    · rw [if_pos q]; exact ctI_cong (fun k _ => by simp [q])
    · rw [if_neg q, ct_sm, smI_z (fun k _ => by simp [q])]
  rw [e0]
  apply exch
  intro k hk
  obtain ⟨j, hj, ej⟩ := dly hI hk
  have e : ∀ d, d < 12 → (if (decide (nI d ≤ mo - f0) && sDelM F (nI d) mo k) = true then (1 : Int32) else 0) = (if d = j then (if (decide (nI j ≤ mo - f0) && (sLetBy F mo k && decide (F 8 k ≤ mo - 11))) = true then 1 else 0) else 0) := by
    intro d hd
    unfold sDelM
    rw [ej]
    by_cases q : d = j
    · subst q; simp
    · have : ¬ nI j = nI d := fun h => q ((nI_eq (by omega) (by omega)).mp h).symm
      simp [q, this]
  rw [smI_cong e, smI_one 12 (by decide)]
  unfold sDel
  rw [ej]
  have h1 : (0 : Int32) ≤ nI j := nI_pos' (by omega)
  by_cases q : nI j ≤ mo - f0
  · have hj12 : j < 12 := by
      rw [Int32.le_iff_toInt_le, nI_toInt (by omega)] at q
      rw [Int32.lt_iff_toInt_lt] at he
      have : (11 : Int32).toInt = 11 := by decide
      omega
    rw [if_pos hj12]
    cases sLetBy F mo k <;> simp [h1, q]
  · by_cases q2 : j < 12
    · rw [if_pos q2]; simp [q]
    · rw [if_neg q2]; simp [q]
theorem e_undone {F : Nat → Nat → Int32} {n c : Nat} (hI : Inv F n c) (f0 mo : Int32) : aUndC F c f0 mo = aUndM F c f0 mo := by
  unfold aUndC aUndM
  by_cases he : mo - f0 < 11
  · rw [e_und1 hI, e_und2 hI f0 mo he]
  · simp only [if_neg he]
theorem sb_eq {f : Nat → Int32} {v : Int32} : ∀ N : Nat, sbI f v N = v - smI f N
  | 0 => by rw [sbI, smI, Int32.sub_zero]
  | N + 1 => by rw [sbI, sb_eq N, smI, Int32.sub_sub]
theorem fwm_mk {F : Nat → Nat → Int32} : ∀ (f : Nat) (x : Int32), rg (fwm F f x) 0 9 = true → ¬ F 13 (ix (fwm F f x)) = -1
  | 0, x, h => by rw [fwm] at h; exact absurd h (by decide)
  | f + 1, x, h => by
    by_cases h1 : rg x 0 9 = true
    · by_cases h2 : F 13 (ix x) = -1
      · rw [fwm, if_pos h1, if_pos h2] at h ⊢; exact fwm_mk f _ h
      · rw [fwm, if_pos h1, if_neg h2]; exact h2
    · rw [fwm, if_neg h1] at h; exact absurd h (by decide)
theorem e_left {F : Nat → Nat → Int32} {n c : Nat} (hI : Inv F n c) : sbI (fun j => smI (sPaid F (nI j)) c) (smI (sCost F) c) 6 = sbI (sPaid F (-1)) (smI (sCost F) c) c := by
  rw [sb_eq, sb_eq]
  congr 1
  show smI (fun j => smI (fun k => sPaid F (nI j) k) c) 6 = _
  rw [smI_swap]
  apply smI_cong
  intro k hk
  by_cases h1 : F 11 k = 0
  · by_cases h2 : rg (fwm F 10 (F 7 k)) 0 9 = true
    · have hm := fwm_mk 10 (F 7 k) h2
      obtain ⟨y, hy, ey⟩ := rg_nat (N := 10) (by decide) (by decide) h2
      have eix : ix (fwm F 10 (F 7 k)) = y := by rw [ey]; exact nI_clamp (by omega)
      rw [eix] at hm
      have h3 := (hI.Q hy).2.1
      rcases rg_m1 h3 with q | q
      · exact absurd q hm
      obtain ⟨z, hz, ez⟩ := rg_nat (N := 6) (by decide) (by decide) q
      have e : ∀ j, j < 6 → sPaid F (nI j) k = (if j = z then F 10 k * F 14 y / 100 else 0) := by
        intro j hj
        unfold sPaid
        rw [if_pos h1, if_pos h2, if_neg (nI_pos (by omega)), eix, ez]
        by_cases q : j = z
        · subst q; rw [if_pos rfl, if_pos rfl]
        · rw [if_neg q, if_neg (fun h => q ((nI_eq (by omega) (by omega)).mp h).symm)]
      rw [smI_cong e, smI_one 6 (by decide), if_pos hz]
      unfold sPaid
      rw [if_pos h1, if_pos h2, if_pos (by decide), eix]
    · rw [smI_z (fun j _ => by unfold sPaid; rw [if_pos h1, if_neg h2])]
      unfold sPaid; rw [if_pos h1, if_neg h2]
  · rw [smI_z (fun j _ => by unfold sPaid; rw [if_neg h1])]
    unfold sPaid; rw [if_neg h1]
