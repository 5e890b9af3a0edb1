theorem can_eq (pt bs fr to0 : Int32) : canK pt bs fr to0 = canC pt bs fr to0 := by
  unfold canK canC
  apply b_eq
  simp only [rg, Bool.and_eq_true, decide_eq_true_eq, Int32.le_iff_toInt_le]
  have e0 : (0 : Int32).toInt = 0 := by decide
  rw [e0]
  constructor
  · rintro ⟨⟨⟨⟨h1, h2⟩, h3⟩, h4⟩, h5⟩; exact ⟨⟨⟨h1, h2⟩, h3⟩, h5, h4.2⟩
  · rintro ⟨⟨⟨h1, h2⟩, h3⟩, h4⟩; exact ⟨⟨⟨⟨h1, h2⟩, h3⟩, by omega, h4.2⟩, h4.1⟩
theorem canC_b {pt bs fr to0 : Int32} (h : canC pt bs fr to0 = true) : rg bs 1 255 = true := by
  simp only [canC, Bool.and_eq_true] at h
  exact h.1.1.2
theorem cald_bit {F : Nat → Nat → Int32} {n c : Nat} (hI : Inv F n c) {pt bs fr to0 : Int32} (hc : canC pt bs fr to0 = true) {i : Nat} (hi : i < 64) : bitL (cald F n c pt bs fr to0) i = (decide (i < n) && sCl F c pt bs fr to0 i) := by
  have h60 := hI.n60
  unfold cald
  rw [bitL_and, bitL_not _ hi, bs_set (by omega) hi, bs_hit hI hi]
  have e1 : anyB (fun k => sHit F (wau F pt 10) 300 k && decide (F 6 k = nI i)) c = anyB (sCc F i pt) c := by
    apply anyB_cong
    intro k hk
    obtain ⟨-, h7, -, h9, -⟩ := hI.C hk
    obtain ⟨r, hr, er⟩ := rg_nat (N := 10) (by decide) (by decide) h7
    have h300 : F 9 k ≤ 300 := by simp only [rg, Bool.and_eq_true, decide_eq_true_eq] at h9; exact h9.2
    unfold sHit sLetBy sCc
    rw [er, sHas_bit (by omega), bitL_64 _ (by omega), bt_wau (by omega) 10 (by decide)]
    have hr' : r < 10 := hr
    cases decide (F 11 k = 0) <;> cases stn F pt 10 (nI r) <;> cases decide (F 6 k = nI i) <;> simp [h300, hr']
  rw [e1]
  unfold sCl sCal
  by_cases h : i < n
  · have e2 : sSold F bs fr to0 i = sCb F bs fr to0 i := by
      have hb := (hI.T h).1
      obtain ⟨r, hr, er⟩ := rg_nat (N := 8) (by decide) (by decide) hb
      have hbs := canC_b hc
      have hbs0 : rg bs 0 255 = true := by
        simp only [rg, Bool.and_eq_true, decide_eq_true_eq, Int32.le_iff_toInt_le] at hbs ⊢
        have e0 : (0 : Int32).toInt = 0 := by decide
        have e1 : (1 : Int32).toInt = 1 := by decide
        omega
      obtain ⟨j, hj, ej⟩ := rg_nat (N := 256) (by decide) (by decide) hbs0
      unfold sSold sCb
      rw [er, sHas_bit (by omega), bitL_64 _ (by omega), ej, bt_sshr1 j hj r hr]
    rw [e2]; simp [h]
  · simp [h]
theorem e_called {F : Nat → Nat → Int32} {n c : Nat} (hI : Inv F n c) (pt bs fr to0 : Int32) : (if canK pt bs fr to0 = true then nI (ctN (bitL (cald F n c pt bs fr to0)) 64) else -2) = (if canC pt bs fr to0 = true then ctI (sCl F c pt bs fr to0) n else -2) := by
  rw [can_eq]
  by_cases hc : canC pt bs fr to0 = true
  · rw [if_pos hc, if_pos hc, ct_in hI.n60 (fun i hi => cald_bit hI hc hi), ctI_N]
  · rw [if_neg hc, if_neg hc]
theorem e_calledAt {F : Nat → Nat → Int32} {n c : Nat} (hI : Inv F n c) (pt bs fr to0 i0 : Int32) : (if canK pt bs fr to0 = true then (if i0 < 0 then -2 else fnd (fun j => sHas (cald F n c pt bs fr to0) (nI j)) i0 60) else -2) = (if canC pt bs fr to0 = true then (if i0 < 0 then -2 else fnd (sCl F c pt bs fr to0) i0 n) else -2) := by
  rw [can_eq]
  by_cases hc : canC pt bs fr to0 = true
  · rw [if_pos hc, if_pos hc]
    have h60 := hI.n60
    have hb : ∀ j, j < 60 → sHas (cald F n c pt bs fr to0) (nI j) = (decide (j < n) && sCl F c pt bs fr to0 j) := fun j hj => by rw [sHas_bit (by omega), cald_bit hI hc (by omega)]
    have e := fnd_ext (p := fun j => sHas (cald F n c pt bs fr to0) (nI j)) (i := i0) (n := n) (60 - n) (fun k h1 h2 => by
      show sHas (cald F n c pt bs fr to0) (nI k) = false
      rw [hb k (by omega)]; simp [Nat.not_lt.mpr h1])
    rw [show n + (60 - n) = 60 by omega] at e
    rw [e, fnd_cong (r := sCl F c pt bs fr to0) (fun k hk => by
      show sHas (cald F n c pt bs fr to0) (nI k) = _
      rw [hb k (by omega)]; simp [hk])]
  · rw [if_neg hc, if_neg hc]
theorem thB_bit {F : Nat → Nat → Int32} {n c : Nat} (hI : Inv F n c) {i : Nat} (hi : i < 64) : bitL (aThB F c) i = (decide (i < n) && sThs F c i) := by
  have h60 := hI.n60
  unfold aThB
  rw [bs_hit hI hi]
  have e1 : anyB (fun k => sHit F 1023 300 k && decide (F 6 k = nI i)) c = anyB (sTh F i) c := by
    apply anyB_cong
    intro k hk
    obtain ⟨-, h7, -, h9, -⟩ := hI.C hk
    obtain ⟨r, hr, er⟩ := rg_nat (N := 10) (by decide) (by decide) h7
    have h300 : F 9 k ≤ 300 := by simp only [rg, Bool.and_eq_true, decide_eq_true_eq] at h9; exact h9.2
    unfold sHit sLetBy sTh
    rw [er, sHas_bit (by omega), bitL_64 _ (by omega), bt_1023 r hr]
    cases decide (F 11 k = 0) <;> cases decide (F 6 k = nI i) <;> simp [h300]
  rw [e1]
  by_cases h : i < n
  · simp [h, sThs]
  · have : anyB (sTh F i) c = false := by
      rcases hb : anyB (sTh F i) c with _ | _
      · rfl
      · exfalso
        obtain ⟨k, hk, h2⟩ := anyB_iff.mp hb
        unfold sTh at h2
        simp only [Bool.and_eq_true, decide_eq_true_eq] at h2
        have h3 := hI.ct hk
        rw [h2.2, show ix (nI i) = i from nI_clamp (by omega)] at h3
        exact h h3
    rw [this]; simp [h]
theorem e_count {F : Nat → Nat → Int32} {n c : Nat} (hI : Inv F n c) (x : Int32) : aCountC F n c x = aCount F n c x := by
  have h7 : nI (ctN (bitL (aThB F c)) 64) = ctI (sThs F c) n := by rw [ct_in hI.n60 (fun i hi => thB_bit hI hi), ctI_N]
  unfold aCountC aCount
  rw [h7]
  by_cases h : rg x 0 8 = true
  · obtain ⟨j, hj, rfl⟩ := rg_nat (N := 9) (by decide) (by decide) h
    rw [if_pos h]
    rcases (by omega : j = 0 ∨ j = 1 ∨ j = 2 ∨ j = 3 ∨ j = 4 ∨ j = 5 ∨ j = 6 ∨ j = 7 ∨ j = 8) with rfl | rfl | rfl | rfl | rfl | rfl | rfl | rfl | rfl <;> rfl
  · rw [if_neg h]
    have hn : ∀ j : Nat, j < 9 → ¬ x = nI j := fun j hj e => h (by
      rw [e]
      have : ∀ j, j < 9 → rg (nI j) 0 8 = true := by decide +kernel
      exact this j hj)
    rw [if_neg (show ¬ x = 0 from hn 0 (by decide)), if_neg (show ¬ x = 1 from hn 1 (by decide)), if_neg (show ¬ x = 2 from hn 2 (by decide)), if_neg (show ¬ x = 3 from hn 3 (by decide)), if_neg (show ¬ x = 4 from hn 4 (by decide)), if_neg (show ¬ x = 5 from hn 5 (by decide)), if_neg (show ¬ x = 6 from hn 6 (by decide)), if_neg (show ¬ x = 7 from hn 7 (by decide)), if_neg (show ¬ x = 8 from hn 8 (by decide))]
theorem fdL_cong {f g : Nat → Int64} {h : Int64} : ∀ {N : Nat}, (∀ i, i < N → f i = g i) → fdL f h N = fdL g h N
  | 0, _ => rfl
  | N + 1, e => by rw [fdL, fdL, fdL_cong (fun i hi => e i (by omega)), e N (by omega)]
theorem dgT_eq {F : Nat → Nat → Int32} {n c : Nat} (hI : Inv F n c) {h : Int64} : ∀ k : Nat, k ≤ n → dgT F h k = dgTM F h k
  | 0, _ => rfl
  | k + 1, hk => by rw [dgT, dgTM, dgT_eq hI k (by omega), lsK_last hI (by omega)]
theorem e_digest {F : Nat → Nat → Int32} {n c : Nat} (hI : Inv F n c) : aDigC F n c = aDigM F n c := by
  unfold aDigC aDigM
  rw [fdL_cong (g := fun j => (aCount F n c (nI j)).toInt64) (fun j _ => by rw [e_count hI]), dgT_eq hI n (Nat.le_refl _)]
