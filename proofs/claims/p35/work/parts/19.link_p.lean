/-! ===== bodies: a link ===== -/
theorem vp20 {n : Nat} (h : n < 20) : vp_in (nI n) 20 := vp_in_nI h (by decide)
theorem nIc {n : Nat} (h : n < 500) : (nI n).toNatClampNeg = n := nI_clamp (by omega)
theorem xX0_has (o : Nat) (x1 : Int32) (μ : qMM) (ht : ∃ t, mS μ o = some (.inl (0, t))) (hp : PX0_has o x1 μ) : EX (SX0_has (rti 0 0 (QX0_has o x1 μ)) (fun _ _ _ => False)) 0 [some (.ref o), some (.int x1)] [] [] μ (0, 0) := by
  obtain ⟨h1, h2⟩ := hp
  simp only [eX0_has_0, eX0_has_1, eX0_has_2, eX0_has_3, eX0_has_6, eX0_has_7, eX0_has_8, eX0_has_11, rtv_at, rti_at, rtj_at, rtd_at, rta_at, qOk, qOkR, gX0_1, h1, PX8_inRange, QX8_inRange, qa2, true_and, QX0_has, List.length_nil, List.length_cons]
  by_cases g : 0 ≤ x1 ∧ x1 ≤ mI μ o 1 - 1
  · simp [g]
  · simp [g]
theorem xX0_isFull (o : Nat) (μ : qMM) (ht : ∃ t, mS μ o = some (.inl (0, t))) (hp : PX0_isFull o μ) : EX (SX0_isFull (rti 0 0 (QX0_isFull o μ)) (fun _ _ _ => False)) 0 [some (.ref o)] [] [] μ (0, 0) := by
  obtain ⟨h1, h2⟩ := hp
  simp only [eX0_isFull_0, eX0_isFull_1, eX0_isFull_4, eX0_isFull_6, eX0_isFull_9, eX0_isFull_10, eX0_isFull_13, eX0_isFull_14, rtv_at, rti_at, rtj_at, rtd_at, rta_at, qOk, qOkR, gX0_1, h1, QX0_isFull, List.length_nil, List.length_cons]
  by_cases g : 20 ≤ mI μ o 1
  · simp [g, Int32.not_lt.mpr g]
  · simp [g, Int32.not_le.mp g]
theorem xX0_put (o : Nat) (x1 : Int32) (μ : qMM) (ht : ∃ t, mS μ o = some (.inl (0, t))) (hp : PX0_put o x1 μ) : EX (SX0_put (rtv 0 0 (QX0_put o x1 μ)) (fun _ _ _ => False)) 0 [some (.ref o), some (.int x1)] [] [] μ (0, 0) := by
  obtain ⟨⟨h1, h2⟩, n, hn, hl⟩ := hp
  simp only [eX0_put_0, eX0_put_1, eX0_put_4, eX0_put_7, eX0_put_8, eX0_put_11, eX0_put_12, eX0_put_15, eX0_put_16, eX0_put_17, eX0_put_18i, eX0_put_18r, eX0_put_19, eX0_put_22, eX0_put_23, eX0_put_24, eX0_put_27, rtv_at, rti_at, rtj_at, rtd_at, rta_at, qOk, qOkR, gX0_0, gX0_1, pX0_1, h1, h2, tX0, obX0_wI, iA_wI, qA20, PX0_isFull, QX0_isFull, LkS, qa2, true_and, QX0_put, List.length_nil, List.length_cons]
  by_cases g : 20 ≤ mI μ o 1
  · simp [g]
  · have hn2 : n < 20 := by
      rcases Nat.lt_or_ge n 20 with z | z
      · exact z
      · exact absurd (by rw [hl]; exact nI_le z (by omega)) g
    rw [hl] at g
    simp [g, hl, vp20 hn2, wI_def, mI_wR]
theorem xX0_takeOut (o : Nat) (x1 : Int32) (μ : qMM) (ht : ∃ t, mS μ o = some (.inl (0, t))) (hp : PX0_takeOut o x1 μ) : EX (SX0_takeOut (rti 0 0 (QX0_takeOut o x1 μ)) (fun _ _ _ => False)) 0 [some (.ref o), some (.int x1), none] [] [] μ (0, 0) := by
  obtain ⟨⟨h1, h2⟩, hN, n, i, hn, hi, hl, rfl⟩ := hp
  have e1 : (nI i + 1) = nI (i + 1) := nI_1 i
  have e2 : nI n - nI i - 1 = nI (n - i - 1) := by
    rw [pk_sub (by omega), show (1 : Int32) = nI 1 from rfl, pk_sub (by omega)]
  simp only [eX0_takeOut_0, eX0_takeOut_1, eX0_takeOut_4, eX0_takeOut_5, eX0_takeOut_6, eX0_takeOut_7, eX0_takeOut_8, eX0_takeOut_11, eX0_takeOut_12, eX0_takeOut_13, eX0_takeOut_14, eX0_takeOut_15, eX0_takeOut_18, eX0_takeOut_19, eX0_takeOut_20, eX0_takeOut_23, eX0_takeOut_24, eX0_takeOut_25, eX0_takeOut_26, eX0_takeOut_27, eX0_takeOut_30, eX0_takeOut_31i, eX0_takeOut_31r, eX0_takeOut_32, eX0_takeOut_35, eX0_takeOut_36, eX0_takeOut_37, eX0_takeOut_40, eX0_takeOut_41, rtv_at, rti_at, rtj_at, rtd_at, rta_at, qOk, qOkR, gX0_0, gX0_1, pX0_1, h1, h2, obX0_wI, obX0_wR, iA_wI, qA20, vp20 (show i < 20 by omega), true_and, QX0_takeOut, List.length_nil, List.length_cons, hl, e1, e2]
  refine ⟨by simp, by simp, by simp, ⟨20, 20, _, _, h2, h2, nI_pos (by omega), nI_pos (by omega), nI_pos (by omega), ?_, ?_, hN⟩, ?_⟩
  · rw [nIc (by omega), nIc (by omega)]
    omega
  · rw [nIc (by omega), nIc (by omega)]
    omega
  · simp [nIc (show i < 500 by omega), nIc (show i + 1 < 500 by omega), nIc (show n < 500 by omega), nIc (show n - i - 1 < 500 by omega), wI_def, mI_wR, hl]
theorem xX0_copyFrom (o : Nat) (x1 : Nat) (μ : qMM) (ht : ∃ t, mS μ o = some (.inl (0, t))) (hp : PX0_copyFrom o x1 μ) : EX (SX0_copyFrom (rtv 0 0 (QX0_copyFrom o x1 μ)) (fun _ _ _ => False)) 0 [some (.ref o), some (.ref x1)] [] [] μ (0, 0) := by
  obtain ⟨⟨h1, h2⟩, ⟨h3, h4⟩, ⟨n, hn, hl⟩, hN, g1, g2, g3⟩ := hp
  simp only [eX0_copyFrom_0, eX0_copyFrom_1, eX0_copyFrom_2, eX0_copyFrom_5, eX0_copyFrom_8, eX0_copyFrom_9, eX0_copyFrom_12, eX0_copyFrom_13, eX0_copyFrom_14, eX0_copyFrom_17, eX0_copyFrom_18, eX0_copyFrom_19, eX0_copyFrom_22, eX0_copyFrom_25, rtv_at, rti_at, rtj_at, rtd_at, rta_at, qOk, qOkR, gX0_0, gX0_1, pX0_1, h1, h2, h3, obX0_wI, obX0_wR, iA_wI, true_and, QX0_copyFrom, List.length_nil, List.length_cons]
  simp only [wI_def, mI_wR, if_neg g1, if_neg g2, if_neg (show ¬ o + 1 = o by omega), hl, if_true, updE]
  refine ⟨by simp, by simp, by simp, ⟨20, 20, _, _, h4, h2, by decide, by decide, nI_pos (by omega), ?_, ?_, hN⟩, ?_⟩
  · rw [nIc (show n < 500 by omega)]
    simpa using hn
  · rw [nIc (show n < 500 by omega)]
    simpa using hn
  · simp
theorem mixR_snoc (f : Nat → Int32) : ∀ (n k : Nat) (h : Int64), mixR f k (n + 1) h = 31 * mixR f k n h + (f (k + n)).toInt64
  | 0, k, h => rfl
  | n + 1, k, h => by
    show mixR f (k + 1) (n + 1) _ = 31 * mixR f (k + 1) n _ + _
    rw [mixR_snoc f n (k + 1), show k + 1 + n = k + (n + 1) by omega]