/-! what holds of the state at the start, and after each changing call -/
theorem ud_s {f : Nat → Int32} {k : Nat} {v : Int32} : upd f k v k = v := by simp [upd]
theorem ud_o {f : Nat → Int32} {k j : Nat} {v : Int32} (h : j ≠ k) : upd f k v j = f j := by simp [upd, h]
theorem rgI10 : ∀ i : Nat, i < 10 → rg (nI i) 0 9 = true := by decide +kernel
theorem ixN {i : Nat} (h : i < 100) : ix (nI i) = i := nI_clamp (by omega)
theorem itP_c {F G : Nat → Nat → Int32} (h : G 12 = F 12) (x : Int32) : ∀ j, itP G j x = itP F j x
  | 0 => rfl
  | j + 1 => by
    show (if rg (itP G j x) 0 9 = true then G 12 (ix (itP G j x)) else itP G j x) = (if rg (itP F j x) 0 9 = true then F 12 (ix (itP F j x)) else itP F j x)
    rw [itP_c h x j, h]
theorem inv_0 : Inv FZ 0 0 := by
  refine ⟨by decide, by decide, fun t h => absurd h (Nat.not_lt_zero _), fun i hi => ?_, fun k h => absurd h (Nat.not_lt_zero _), fun i hi => ?_⟩
  · show rg (fil 24 4 i) 0 120 = true ∧ rg (fil 60000 4 i) 0 600000 = true
    rw [fil_at, fil_at, if_pos hi, if_pos hi]; decide
  · refine ⟨?_, ?_, show rg (0 : Int32) 0 100 = true by decide, 1, ?_⟩
    · show rg (fil (-1) 10 i) (-1) 9 = true
      rw [fil_at, if_pos hi]; decide
    · show rg (fil (-1) 10 i) (-1) 5 = true
      rw [fil_at, if_pos hi]; decide
    · show (if rg (nI i) 0 9 = true then fil (-1) 10 (ix (nI i)) else nI i) = -1
      rw [if_pos (rgI10 i hi), ixN (by omega), fil_at, if_pos hi]
theorem adF_f {F : Nat → Nat → Int32} {n : Nat} {b0 mo mi ld : Int32} : adF false F n b0 mo mi ld = F := by
  funext k
  by_cases h0 : k = 0
  · rw [h0]; rfl
  by_cases h1 : k = 1
  · rw [h1]; rfl
  by_cases h2 : k = 2
  · rw [h2]; rfl
  by_cases h3 : k = 3
  · rw [h3]; rfl
  simp only [adF, if_neg h0, if_neg h1, if_neg h2, if_neg h3]
theorem prF_f {F : Nat → Nat → Int32} {l0 mo fa : Int32} : prF false F l0 mo fa = F := by
  funext k
  by_cases h0 : k = 4
  · rw [h0]; rfl
  by_cases h1 : k = 5
  · rw [h1]; rfl
  simp only [prF, if_neg h0, if_neg h1]
theorem unF_f {F : Nat → Nat → Int32} {p0 a0 : Int32} : unF false F p0 a0 = F := by
  funext k
  by_cases h0 : k = 12
  · rw [h0]; rfl
  simp only [unF, if_neg h0]
theorem mkF_f {F : Nat → Nat → Int32} {p0 w0 s0 : Int32} : mkF false F p0 w0 s0 = F := by
  funext k
  by_cases h0 : k = 13
  · rw [h0]; rfl
  by_cases h1 : k = 14
  · rw [h1]; rfl
  simp only [mkF, if_neg h0, if_neg h1]
theorem clF_f {F : Nat → Nat → Int32} {c : Nat} {x p0 mo to0 co ag jd : Int32} : clF false F c x p0 mo to0 co ag jd = F := by
  funext k
  by_cases h0 : k = 6
  · rw [h0]; rfl
  by_cases h1 : k = 7
  · rw [h1]; rfl
  by_cases h2 : k = 8
  · rw [h2]; rfl
  by_cases h3 : k = 9
  · rw [h3]; rfl
  by_cases h4 : k = 10
  · rw [h4]; rfl
  by_cases h5 : k = 11
  · rw [h5]; rfl
  by_cases h6 : k = 15
  · rw [h6]; rfl
  simp only [clF, if_neg h0, if_neg h1, if_neg h2, if_neg h3, if_neg h4, if_neg h5, if_neg h6]
theorem Inv.ad {F : Nat → Nat → Int32} {n c : Nat} (hI : Inv F n c) (b0 mo mi ld : Int32) : Inv (adF (okT b0 mo mi ld && decide (n < 60)) F n b0 mo mi ld) (adN (okT b0 mo mi ld && decide (n < 60)) n) c := by
  rcases hb : okT b0 mo mi ld && decide (n < 60) with _ | _
  · rw [adF_f]; exact hI
  rw [Bool.and_eq_true, decide_eq_true_eq] at hb
  obtain ⟨ho, hn⟩ := hb
  simp only [okT, Bool.and_eq_true] at ho
  obtain ⟨⟨⟨o1, o2⟩, o3⟩, o4⟩ := ho
  show Inv (adF true F n b0 mo mi ld) (n + 1) c
  refine ⟨by omega, hI.c100, fun t ht => ?_, fun i hi => hI.Lb hi, fun k hk => ?_, fun i hi => ?_⟩
  · show rg (upd (F 0) n b0 t) 0 7 = true ∧ rg (upd (F 1) n mo t) 0 119 = true ∧ rg (upd (F 2) n mi t) 0 5000 = true ∧ rg (upd (F 3) n ld t) 0 3 = true
    by_cases h : t = n
    · rw [h, ud_s, ud_s, ud_s, ud_s]; exact ⟨o1, o2, o3, o4⟩
    · rw [ud_o h, ud_o h, ud_o h, ud_o h]; exact hI.T (by omega)
  · obtain ⟨⟨t, c1, c2⟩, c3, c4, c5, c6, c7, c8, c9⟩ := hI.C hk
    refine ⟨⟨t, by omega, c2⟩, c3, c4, c5, c6, c7, c8, ?_⟩
    show F 15 k = F 8 k - upd (F 1) n mo (ix (F 6 k))
    have := hI.ct hk
    rw [ud_o (by omega)]; exact c9
  · obtain ⟨q1, q2, q3, j, q4⟩ := hI.Q hi
    exact ⟨q1, q2, q3, j, (itP_c (show (adF true F n b0 mo mi ld) 12 = F 12 from rfl) _ j).trans q4⟩
theorem Inv.pr {F : Nat → Nat → Int32} {n c : Nat} (hI : Inv F n c) (l0 mo fa : Int32) : Inv (prF (okP l0 mo fa) F l0 mo fa) n c := by
  rcases hb : okP l0 mo fa with _ | _
  · rw [prF_f]; exact hI
  simp only [okP, Bool.and_eq_true] at hb
  obtain ⟨⟨o1, o2⟩, o3⟩ := hb
  refine ⟨hI.n60, hI.c100, fun t ht => hI.T ht, fun i hi => ?_, fun k hk => hI.C hk, fun i hi => ?_⟩
  · show rg (upd (F 4) (ix l0) mo i) 0 120 = true ∧ rg (upd (F 5) (ix l0) fa i) 0 600000 = true
    by_cases h : i = ix l0
    · rw [h, ud_s, ud_s]; exact ⟨o2, o3⟩
    · rw [ud_o h, ud_o h]; exact hI.Lb hi
  · obtain ⟨q1, q2, q3, j, q4⟩ := hI.Q hi
    exact ⟨q1, q2, q3, j, (itP_c (show (prF true F l0 mo fa) 12 = F 12 from rfl) _ j).trans q4⟩
theorem Inv.mkr {F : Nat → Nat → Int32} {n c : Nat} (hI : Inv F n c) (p0 w0 s0 : Int32) : Inv (mkF (okM p0 w0 s0) F p0 w0 s0) n c := by
  rcases hb : okM p0 w0 s0 with _ | _
  · rw [mkF_f]; exact hI
  simp only [okM, Bool.and_eq_true] at hb
  obtain ⟨⟨o1, o2⟩, o3⟩ := hb
  refine ⟨hI.n60, hI.c100, fun t ht => hI.T ht, fun i hi => hI.Lb hi, fun k hk => hI.C hk, fun i hi => ?_⟩
  obtain ⟨q1, q2, q3, j, q4⟩ := hI.Q hi
  refine ⟨q1, ?_, ?_, j, (itP_c (show (mkF true F p0 w0 s0) 12 = F 12 from rfl) _ j).trans q4⟩
  · show rg (upd (F 13) (ix p0) w0 i) (-1) 5 = true
    by_cases h : i = ix p0
    · rw [h, ud_s]; exact o2
    · rw [ud_o h]; exact q2
  · show rg (upd (F 14) (ix p0) s0 i) 0 100 = true
    by_cases h : i = ix p0
    · rw [h, ud_s]; exact o3
    · rw [ud_o h]; exact q3
theorem sJudge_rg {F : Nat → Nat → Int32} {c : Nat} {g : Int32} {t : Nat} {p0 mo : Int32} : rg (sJudge F c g t p0 mo) 0 4 = true := by
  unfold sJudge
  split
  · decide
  split
  · decide
  split
  · split <;> decide
  · decide
theorem Inv.cl {F : Nat → Nat → Int32} {n c : Nat} (hI : Inv F n c) (g x p0 mo to0 co : Int32) : Inv (clF (okC n x p0 mo to0 co && decide (c < 100)) F c x p0 mo to0 co (mo - F 1 (ix x)) (sJudge F c g (ix x) p0 mo)) n (adN (okC n x p0 mo to0 co && decide (c < 100)) c) := by
  rcases hb : okC n x p0 mo to0 co && decide (c < 100) with _ | _
  · rw [clF_f]; exact hI
  rw [Bool.and_eq_true, decide_eq_true_eq] at hb
  obtain ⟨ho, hn⟩ := hb
  simp only [okC, Bool.and_eq_true] at ho
  obtain ⟨⟨⟨⟨⟨o1, o2⟩, o3⟩, o4⟩, o5⟩, o6⟩ := ho
  have o5' : ¬ to0 < mo := by simpa using o5
  show Inv (clF true F c x p0 mo to0 co (mo - F 1 (ix x)) (sJudge F c g (ix x) p0 mo)) n (c + 1)
  refine ⟨hI.n60, by omega, fun t ht => hI.T ht, fun i hi => hI.Lb hi, fun k hk => ?_, fun i hi => ?_⟩
  · show (∃ t, t < n ∧ upd (F 6) c x k = nI t) ∧ rg (upd (F 7) c p0 k) 0 9 = true ∧ rg (upd (F 8) c mo k) 0 300 = true ∧ rg (upd (F 9) c to0 k) 0 300 = true ∧ upd (F 8) c mo k ≤ upd (F 9) c to0 k ∧ rg (upd (F 10) c co k) 0 10000 = true ∧ rg (upd (F 11) c (sJudge F c g (ix x) p0 mo) k) 0 4 = true ∧ upd (F 15) c (mo - F 1 (ix x)) k = upd (F 8) c mo k - F 1 (ix (upd (F 6) c x k))
    by_cases h : k = c
    · rw [h, ud_s, ud_s, ud_s, ud_s, ud_s, ud_s, ud_s]
      exact ⟨hasT_nat hI.n60 o1, o2, o3, o4, i_nlt o5', o6, sJudge_rg, rfl⟩
    · rw [ud_o h, ud_o h, ud_o h, ud_o h, ud_o h, ud_o h, ud_o h]; exact hI.C (by omega)
  · obtain ⟨q1, q2, q3, j, q4⟩ := hI.Q hi
    exact ⟨q1, q2, q3, j, (itP_c (show (clF true F c x p0 mo to0 co (mo - F 1 (ix x)) (sJudge F c g (ix x) p0 mo)) 12 = F 12 from rfl) _ j).trans q4⟩
/-! a part put under another -/
theorem itP_1 {F : Nat → Nat → Int32} (k : Nat) (x : Int32) : itP F (k + 1) x = itP F k (if rg x 0 9 = true then F 12 (ix x) else x) := by
  rw [show k + 1 = 1 + k by omega, itP_add]; rfl
theorem stn_av {F : Nat → Nat → Int32} {p0 : Int32} (hp : rg p0 0 9 = true) : ∀ (f : Nat) (x : Int32), stn F p0 f x = false → ∀ k, k < f → ¬ itP F k x = p0
  | 0, _, _, k, hk => absurd hk (Nat.not_lt_zero _)
  | f + 1, x, h, k, hk => by
    by_cases hx : rg x 0 9 = true
    · rw [stn, if_pos hx] at h
      by_cases e : x = p0
      · rw [if_pos e] at h; cases h
      rw [if_neg e] at h
      cases k with
      | zero => exact e
      | succ k => rw [itP_1, if_pos hx]; exact stn_av hp f _ h k (by omega)
    · have e : ¬ x = p0 := fun e => hx (by rw [e]; exact hp)
      have all : ∀ j, itP F j x = x := by
        intro j
        induction j with
        | zero => rfl
        | succ j ih => rw [itP_1, if_neg hx]; exact ih
      rw [all k]; exact e
theorem itP_u {F G : Nat → Nat → Int32} {p : Nat} {a0 : Int32} (hp : p < 10) (hG : G 12 = upd (F 12) p a0) {x : Int32} {J : Nat} (h : ∀ k, k < J → ¬ itP F k x = nI p) : ∀ k, k ≤ J → itP G k x = itP F k x
  | 0, _ => rfl
  | k + 1, hk => by
    have ih := itP_u hp hG h k (by omega)
    show (if rg (itP G k x) 0 9 = true then G 12 (ix (itP G k x)) else itP G k x) = (if rg (itP F k x) 0 9 = true then F 12 (ix (itP F k x)) else itP F k x)
    rw [ih, hG]
    by_cases hy : rg (itP F k x) 0 9 = true
    · rw [if_pos hy, if_pos hy]
      obtain ⟨y, hy1, ey⟩ := rg_nat (N := 10) (by decide) (by decide) hy
      have hne := h k (by omega)
      rw [ey] at hne ⊢
      rw [ixN (by omega)]
      exact ud_o (fun e => hne (by rw [e]))
    · rw [if_neg hy, if_neg hy]
theorem Inv.un {F : Nat → Nat → Int32} {n c : Nat} (hI : Inv F n c) (p0 a0 : Int32) : Inv (unF (okU F p0 a0) F p0 a0) n c := by
  rcases hb : okU F p0 a0 with _ | _
  · rw [unF_f]; exact hI
  simp only [okU, Bool.and_eq_true] at hb
  obtain ⟨⟨o1, o2⟩, o3⟩ := hb
  have o3 : stn F p0 10 a0 = false := bnot_t o3
  obtain ⟨p, hp, rfl⟩ := rg_nat (N := 10) (by decide) (by decide) o1
  have hG : unF true F (nI p) a0 12 = upd (F 12) p a0 := by
    show upd (F 12) (ix (nI p)) a0 = _
    rw [ixN (by omega)]
  have hav := stn_av o1 10 a0 o3
  have hend : ∃ Ja, itP (unF true F (nI p) a0) Ja a0 = -1 := by
    rcases rg_m1 o2 with q | q
    · exact ⟨0, q⟩
    · obtain ⟨J, hJ, hm, -⟩ := chain hI q
      exact ⟨J, by rw [itP_u hp hG (fun k hk => hav k (by omega)) J (Nat.le_refl _)]; exact hm⟩
  refine ⟨hI.n60, hI.c100, fun t ht => hI.T ht, fun i hi => hI.Lb hi, fun k hk => hI.C hk, fun i hi => ?_⟩
  obtain ⟨q1, q2, q3, -⟩ := hI.Q hi
  refine ⟨?_, q2, q3, ?_⟩
  · rw [hG]
    by_cases h : i = p
    · rw [h, ud_s]; exact o2
    · rw [ud_o h]; exact q1
  · obtain ⟨J, -, hm, -⟩ := chain hI (rgI10 i hi)
    by_cases hx : ∃ k, itP F k (nI i) = nI p
    · obtain ⟨k, hk, hl⟩ := pk_least (fun k => itP F k (nI i) = nI p) hx
      obtain ⟨Ja, ha⟩ := hend
      have e1 : itP (unF true F (nI p) a0) k (nI i) = nI p := by rw [itP_u hp hG hl k (Nat.le_refl _)]; exact hk
      refine ⟨(k + 1) + Ja, ?_⟩
      rw [itP_add, itP_add, e1]
      have e2 : itP (unF true F (nI p) a0) 1 (nI p) = a0 := by
        show (if rg (nI p) 0 9 = true then unF true F (nI p) a0 12 (ix (nI p)) else nI p) = a0
        rw [if_pos o1, hG, ixN (by omega), ud_s]
      rw [e2]; exact ha
    · exact ⟨J, by rw [itP_u hp hG (J := J) (fun k _ e => hx ⟨k, e⟩) J (Nat.le_refl _)]; exact hm⟩
