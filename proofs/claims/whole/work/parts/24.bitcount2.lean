theorem m85 : mk8 85 8 = 6148914691236517205 := by decide +kernel
theorem m51 : mk8 51 8 = 3689348814741910323 := by decide +kernel
theorem m15 : mk8 15 8 = 1085102592571150095 := by decide +kernel
theorem shrL {n k : Nat} (hn : n < 2 ^ 64) (hk : k < 64) (K : Int32) (hK : K = nI k) : ((lN n).toUInt64 >>> (K.toInt64.toUInt64 &&& Int64.toUInt64 63)).toInt64 = lN (n / 2 ^ k) := by rw [hK]; exact wb_shr hn hk
theorem bc_ok {x y1 y2 y3 y4 y5 y6 : Int64} (e1 : y1 = x - ((x.toUInt64 >>> ((1 : Int32).toInt64.toUInt64 &&& Int64.toUInt64 63)).toInt64 &&& 6148914691236517205)) (e2 : y2 = (y1 &&& 3689348814741910323) + ((y1.toUInt64 >>> ((2 : Int32).toInt64.toUInt64 &&& Int64.toUInt64 63)).toInt64 &&& 3689348814741910323)) (e3 : y3 = (y2 + (y2.toUInt64 >>> ((4 : Int32).toInt64.toUInt64 &&& Int64.toUInt64 63)).toInt64) &&& 1085102592571150095) (e4 : y4 = y3 + (y3.toUInt64 >>> ((8 : Int32).toInt64.toUInt64 &&& Int64.toUInt64 63)).toInt64) (e5 : y5 = y4 + (y4.toUInt64 >>> ((16 : Int32).toInt64.toUInt64 &&& Int64.toUInt64 63)).toInt64) (e6 : y6 = y5 + (y5.toUInt64 >>> ((32 : Int32).toInt64.toUInt64 &&& Int64.toUInt64 63)).toInt64) : y6.toInt32 &&& 127 = ctI (bitL x) 64 := by
  obtain ⟨X, hX, rfl⟩ := wb_of x
  obtain ⟨r1, r3, r4, r5⟩ := ct_64 hX
  have hct : ctI (bitL (lN X)) 64 = nI (ctN (fun i => X.testBit i) 64) := by
    rw [ctI_N, ctN_cong (fun j hj => bitL_lN hj)]
  have l1 : S1 8 X < 2 ^ 64 := Nat.lt_of_le_of_lt (Nat.sub_le _ _) hX
  have l0 : X / 2 ^ 1 < 2 ^ 64 := Nat.lt_of_le_of_lt (Nat.div_le_self _ _) hX
  have a1 : y1 = lN (S1 8 X) := by
    rw [e1, shrL hX (by decide) 1 rfl, show (6148914691236517205 : Int64) = lN (mk8 85 8) by decide +kernel, wb_and l0 (by rw [m85]; decide), lN_sub (Nat.le_trans Nat.and_le_left (Nat.div_le_self _ _))]
    rfl
  have l2 : S2 8 (S1 8 X) < 2 ^ 64 := by
    unfold S2
    have h1 : S1 8 X &&& mk8 51 8 ≤ mk8 51 8 := Nat.and_le_right
    have h2 : S1 8 X / 4 &&& mk8 51 8 ≤ mk8 51 8 := Nat.and_le_right
    rw [m51] at h1 h2 ⊢
    omega
  have l2' : S2 8 (S1 8 X) + S2 8 (S1 8 X) / 2 ^ 4 < 2 ^ 64 := by
    unfold S2 at l2 ⊢
    have h1 : S1 8 X &&& mk8 51 8 ≤ mk8 51 8 := Nat.and_le_right
    have h2 : S1 8 X / 4 &&& mk8 51 8 ≤ mk8 51 8 := Nat.and_le_right
    rw [m51] at h1 h2 ⊢
    omega
  have a2 : y2 = lN (S2 8 (S1 8 X)) := by
    rw [e2, a1, shrL l1 (by decide) 2 rfl, show (3689348814741910323 : Int64) = lN (mk8 51 8) by decide +kernel, wb_and l1 (by rw [m51]; decide), wb_and (Nat.lt_of_le_of_lt (Nat.div_le_self _ _) l1) (by rw [m51]; decide), lN_add]
    rfl
  have a3 : y3 = lN (S3 8 (S2 8 (S1 8 X))) := by
    rw [e3, a2, shrL l2 (by decide) 4 rfl, lN_add, show (1085102592571150095 : Int64) = lN (mk8 15 8) by decide +kernel, wb_and l2' (by rw [m15]; decide)]
    rfl
  generalize S3 8 (S2 8 (S1 8 X)) = Y at *
  have a4 : y4 = lN (Y + Y / 256) := by rw [e4, a3, shrL (by omega) (by decide) 8 rfl, lN_add]
  have a5 : y5 = lN (Y + Y / 256 + (Y + Y / 256) / 65536) := by rw [e5, a4, shrL (by omega) (by decide) 16 rfl, lN_add]
  have a6 : y6 = lN (Y + Y / 256 + (Y + Y / 256) / 65536 + (Y + Y / 256 + (Y + Y / 256) / 65536) / 4294967296) := by rw [e6, a5, shrL (by omega) (by decide) 32 rfl, lN_add]
  rw [hct, a6, lN_i, show (127 : Int32) = nI 127 from rfl, nx_and, show (127 : Nat) = 2 ^ 7 - 1 from rfl, Nat.and_two_pow_sub_one_eq_mod, show (2 : Nat) ^ 7 = 128 from rfl, r1]
