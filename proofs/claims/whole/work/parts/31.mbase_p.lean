/-! ===== bodies: the reference's small ones ===== -/
theorem vpS {n : Nat} (h : n < 5514) : vp_in (nI n) 5514 := vp_in_nI h (by decide)
theorem vpP {n : Nat} (h : n < 22056) : vp_in (nI n) 22056 := vp_in_nI h (by decide)
theorem nIC {n : Nat} (h : n < 1000000) : (nI n).toNatClampNeg = n := nI_clamp (by omega)
theorem xX9_thrown (o : Nat) (μ : qMM) (ht : ∃ t, mS μ o = some (.inl (8, t))) (hp : PX9_thrown o μ) : EX (SX9_thrown (rti 0 0 (QX9_thrown o μ)) (fun _ _ _ => False)) 0 [some (.ref o)] [] [] μ (0, 0) := by
  obtain ⟨h1, h2⟩ := hp
  simp [eX9_thrown_0, eX9_thrown_1, eX9_thrown_4, rtv_at, rti_at, rtj_at, rtd_at, rta_at, qOk, qOkR, gX9_6, h1, QX9_thrown]
theorem xX9_in (x1 : Int32) (x2 : Int32) (x3 : Int32) (μ : qMM) (hp : PX9_in x1 x2 x3 μ) : EX (SX9_in (rti 0 0 (QX9_in x1 x2 x3 μ)) (fun _ _ _ => False)) 0 [some (.int x1), some (.int x2), some (.int x3)] [] [] μ (0, 0) := by
  simp only [eX9_in_0, eX9_in_1, eX9_in_2, eX9_in_5, eX9_in_6, eX9_in_7, eX9_in_10, eX9_in_11, eX9_in_14, eX9_in_15, rtv_at, rti_at, rtj_at, rtd_at, rta_at, qOk, qOkR, QX9_in]
  by_cases h1 : x2 ≤ x1 <;> by_cases h2 : x1 ≤ x3 <;> simp [h1, h2]
theorem xX9_fails (o : Nat) (x1 : Int32) (μ : qMM) (ht : ∃ t, mS μ o = some (.inl (8, t))) (hp : PX9_fails o x1 μ) : EX (SX9_fails (rti 0 0 (QX9_fails o x1 μ)) (fun _ _ _ => False)) 0 [some (.ref o), some (.int x1)] [] [] μ (0, 0) := by
  obtain ⟨h1, h2⟩ := hp
  simp [eX9_fails_0, eX9_fails_1, eX9_fails_2, eX9_fails_5, eX9_fails_6, rtv_at, rti_at, rtj_at, rtd_at, rta_at, qOk, qOkR, pX9_6, h1, QX9_fails, wI_def]
theorem xX9_tells (o : Nat) (x1 : Int32) (μ : qMM) (ht : ∃ t, mS μ o = some (.inl (8, t))) (hp : PX9_tells o x1 μ) : EX (SX9_tells (rti 0 0 (QX9_tells o x1 μ)) (fun _ _ _ => False)) 0 [some (.ref o), some (.int x1)] [] [] μ (0, 0) := by
  obtain ⟨h1, h2⟩ := hp
  simp [eX9_tells_0, eX9_tells_1, eX9_tells_2, eX9_tells_5, eX9_tells_6, rtv_at, rti_at, rtj_at, rtd_at, rta_at, qOk, qOkR, pX9_6, h1, QX9_tells, wI_def]
theorem cpy_succ {f g : Nat → Int32} {n : Nat} : upd (va_cpy f g 0 0 n) n (f n) = va_cpy f g 0 0 (n + 1) := by
  funext k
  unfold upd va_cpy
  by_cases h : k = n
  · subst h
    simp
  · have : (k < n + 1) ↔ (k < n) := by omega
    simp [h, this]
theorem xX9_hold_l (o : Nat) (μ : qMM) (h : MoS μ o) (R : Option Value → qMM → Nat × Nat → Prop) (X : String → qMM → Nat × Nat → Prop) (hR : R none (wR μ (o + 3) (va_cpy (mI μ (o + 1)) (mI μ (o + 3)) 0 0 5514)) (0, 0)) : ∀ k i : Nat, i + k = 5514 → EX (SX9_hold R X) 2 [some (.ref o), some (.int (nI i))] [] [] (wR μ (o + 3) (va_cpy (mI μ (o + 1)) (mI μ (o + 3)) 0 0 i)) (0, 0) := by
  obtain ⟨h1, h2, h3, h4, h5⟩ := h
  intro k
  induction k with
  | zero =>
    intro i hi
    have : i = 5514 := by omega
    subst this
    rw [eX9_hold_2]
    simp only [eX9_hold_3, eX9_hold_6, eX9_hold_9, eX9_hold_10, eX9_hold_13, eX9_hold_14, eX9_hold_15, eX9_hold_18, eX9_hold_19, eX9_hold_20, eX9_hold_21, eX9_hold_24, eX9_hold_27]
    exact ⟨fun _ => hR, fun h => absurd (by decide) h⟩
  | succ k ih =>
    intro i hi
    have := ih (i + 1) (by omega)
    rw [eX9_hold_2]
    simp only [eX9_hold_3, eX9_hold_6, eX9_hold_9, eX9_hold_10, eX9_hold_13, eX9_hold_14, eX9_hold_15, eX9_hold_18, eX9_hold_19, eX9_hold_20, eX9_hold_21, eX9_hold_24, eX9_hold_27, gX9_0, gX9_2, h1, h2, h4, obX9_wR, iA_wR, qA5514, vpS (show i < 5514 by omega), nIC (show i < 1000000 by omega), nI_1, true_and, wI_def, wR_wR, mI_wR, if_true, if_neg (show ¬ o + 1 = o + 3 by omega), cpy_succ]
    exact ⟨fun h => absurd h (nI_ge (b := 5514) (by omega) (by decide)), fun _ => this⟩
theorem xX9_hold (o : Nat) (μ : qMM) (ht : ∃ t, mS μ o = some (.inl (8, t))) (hp : PX9_hold o μ) : EX (SX9_hold (rtv 0 0 (QX9_hold o μ)) (fun _ _ _ => False)) 0 [some (.ref o), none] [] [] μ (0, 0) := by
  have h := xX9_hold_l o μ hp (rtv 0 0 (QX9_hold o μ)) (fun _ _ _ => False) (by simp [rtv_at, QX9_hold]) 5514 0 rfl
  have e : va_cpy (mI μ (o + 1)) (mI μ (o + 3)) 0 0 0 = mI μ (o + 3) := by funext k; simp [va_cpy]
  rw [e, wR_self] at h
  simp only [eX9_hold_0, eX9_hold_1]
  exact h
theorem xX9_restore_l (o : Nat) (μ : qMM) (h : MoS μ o) (R : Option Value → qMM → Nat × Nat → Prop) (X : String → qMM → Nat × Nat → Prop) (hR : R none (wR μ (o + 1) (va_cpy (mI μ (o + 3)) (mI μ (o + 1)) 0 0 5514)) (0, 0)) : ∀ k i : Nat, i + k = 5514 → EX (SX9_restore R X) 2 [some (.ref o), some (.int (nI i))] [] [] (wR μ (o + 1) (va_cpy (mI μ (o + 3)) (mI μ (o + 1)) 0 0 i)) (0, 0) := by
  obtain ⟨h1, h2, h3, h4, h5⟩ := h
  intro k
  induction k with
  | zero =>
    intro i hi
    have : i = 5514 := by omega
    subst this
    rw [eX9_restore_2]
    simp only [eX9_restore_3, eX9_restore_6, eX9_restore_9, eX9_restore_10, eX9_restore_13, eX9_restore_14, eX9_restore_15, eX9_restore_18, eX9_restore_19, eX9_restore_20, eX9_restore_21, eX9_restore_24, eX9_restore_27]
    exact ⟨fun _ => hR, fun h => absurd (by decide) h⟩
  | succ k ih =>
    intro i hi
    have := ih (i + 1) (by omega)
    rw [eX9_restore_2]
    simp only [eX9_restore_3, eX9_restore_6, eX9_restore_9, eX9_restore_10, eX9_restore_13, eX9_restore_14, eX9_restore_15, eX9_restore_18, eX9_restore_19, eX9_restore_20, eX9_restore_21, eX9_restore_24, eX9_restore_27, gX9_0, gX9_2, h1, h2, h4, obX9_wR, iA_wR, qA5514, vpS (show i < 5514 by omega), nIC (show i < 1000000 by omega), nI_1, true_and, wI_def, wR_wR, mI_wR, if_true, if_neg (show ¬ o + 3 = o + 1 by omega), cpy_succ]
    exact ⟨fun h => absurd h (nI_ge (b := 5514) (by omega) (by decide)), fun _ => this⟩
theorem xX9_restore (o : Nat) (μ : qMM) (ht : ∃ t, mS μ o = some (.inl (8, t))) (hp : PX9_restore o μ) : EX (SX9_restore (rtv 0 0 (QX9_restore o μ)) (fun _ _ _ => False)) 0 [some (.ref o), none] [] [] μ (0, 0) := by
  have h := xX9_restore_l o μ hp (rtv 0 0 (QX9_restore o μ)) (fun _ _ _ => False) (by simp [rtv_at, QX9_restore]) 5514 0 rfl
  have e : va_cpy (mI μ (o + 3)) (mI μ (o + 1)) 0 0 0 = mI μ (o + 1) := by funext k; simp [va_cpy]
  rw [e, wR_self] at h
  simp only [eX9_restore_0, eX9_restore_1]
  exact h
theorem xX9_modulo (x1 : Int32) (μ : qMM) (hp : PX9_modulo x1 μ) : EX (SX9_modulo (rti 0 0 (QX9_modulo x1 μ)) (fun _ _ _ => False)) 0 [some (.int x1)] [] [] μ (0, 0) := by
  simp [eX9_modulo_0, eX9_modulo_1, eX9_modulo_3, eX9_modulo_4, rtv_at, rti_at, rtj_at, rtd_at, rta_at, qOk, qOkR, QX9_modulo]
theorem low16 (x : Int32) : (if 32767 < x &&& 65535 then (x &&& 65535) - 65536 else x &&& 65535) = x.toInt16.toInt32 := by
  have h := pk_and x (m := 65535) 16 (by decide)
  have hq : x.toBitVec.toNat % 2 ^ 16 < 65536 := Nat.mod_lt _ (by decide)
  have h4 : x.toInt = if 2 * x.toBitVec.toNat < 2 ^ 32 then (x.toBitVec.toNat : Int) else (x.toBitVec.toNat : Int) - (2 ^ 32 : Nat) := BitVec.toInt_eq_toNat_cond x.toBitVec
  have hq2 : x.toInt % 65536 = ((x.toBitVec.toNat % 2 ^ 16 : Nat) : Int) := by
    rw [h4]
    split <;> omega
  have e1 : x.toInt16.toInt32.toInt = x.toInt.bmod (2 ^ 16) := by
    rw [Int16.toInt_toInt32, Int32.toInt_toInt16]
  have e2 : x.toInt.bmod (2 ^ 16) = if 2 * (x.toBitVec.toNat % 2 ^ 16) < 2 ^ 16 then ((x.toBitVec.toNat % 2 ^ 16 : Nat) : Int) else ((x.toBitVec.toNat % 2 ^ 16 : Nat) : Int) - (2 ^ 16 : Nat) := by
    rw [Int.bmod_def]
    show (if x.toInt % 65536 < (65536 + 1) / 2 then x.toInt % 65536 else x.toInt % 65536 - 65536) = _
    rw [hq2]
    split <;> split <;> omega
  rw [h]
  generalize x.toBitVec.toNat % 2 ^ 16 = q at *
  apply Int32.toInt_inj.mp
  rw [e1, e2]
  have hg : (32767 : Int32) < nI q ↔ 32767 < q := by
    show nI 32767 < nI q ↔ _
    rw [nI_ltI (by decide) (by omega)]
  by_cases hc : 32767 < q
  · rw [if_pos (hg.mpr hc), if_neg (by omega)]
    show (nI q - nI 65536).toInt = _
    rw [pk_sub_toInt (by omega) (by decide)]
    try omega
  · rw [if_neg (fun z => hc (hg.mp z)), if_pos (by omega), nI_toInt (by omega)]
theorem xX9_difference (x1 : Int32) (x2 : Int32) (μ : qMM) (hp : PX9_difference x1 x2 μ) : EX (SX9_difference (rti 0 0 (QX9_difference x1 x2 μ)) (fun _ _ _ => False)) 0 [some (.int x1), some (.int x2), none] [] [] μ (0, 0) := by
  simp only [eX9_difference_0, eX9_difference_1, eX9_difference_2, eX9_difference_3, eX9_difference_6, eX9_difference_7, eX9_difference_8, eX9_difference_11, eX9_difference_14, eX9_difference_15, eX9_difference_17, eX9_difference_18, eX9_difference_21, eX9_difference_22, rtv_at, rti_at, rtj_at, rtd_at, rta_at, qOk, qOkR, PX9_modulo, QX9_modulo, qa2, true_and, QX9_difference, List.length_nil, List.length_cons]
  rw [← low16]
  by_cases g : (32767 : Int32) < x1 - x2 &&& 65535
  · simp [g, Int32.not_le.mpr g]
  · simp [g, Int32.not_lt.mp g]
theorem xX9_greatest (x1 : Int32) (μ : qMM) (hp : PX9_greatest x1 μ) : EX (SX9_greatest (rti 0 0 (QX9_greatest x1 μ)) (fun _ _ _ => False)) 0 [some (.int x1)] [] [] μ (0, 0) := by
  simp only [eX9_greatest_0, eX9_greatest_1, eX9_greatest_4, eX9_greatest_7, eX9_greatest_10, eX9_greatest_11, eX9_greatest_12, eX9_greatest_15, eX9_greatest_17, eX9_greatest_20, eX9_greatest_22, rtv_at, rti_at, rtj_at, rtd_at, rta_at, qOk, qOkR, QX9_greatest]
  by_cases g : x1 = 0 <;> by_cases g2 : x1 = 3 <;> simp [g, g2]
theorem xX9_isPolicy (x1 : Int32) (x2 : Int32) (μ : qMM) (hp : PX9_isPolicy x1 x2 μ) : EX (SX9_isPolicy (rti 0 0 (QX9_isPolicy x1 x2 μ)) (fun _ _ _ => False)) 0 [some (.int x1), some (.int x2)] [] [] μ (0, 0) := by
  simp only [eX9_isPolicy_0, eX9_isPolicy_1, eX9_isPolicy_2, eX9_isPolicy_3, eX9_isPolicy_6, eX9_isPolicy_9, eX9_isPolicy_10, eX9_isPolicy_11, eX9_isPolicy_13, eX9_isPolicy_16, eX9_isPolicy_19, eX9_isPolicy_20, eX9_isPolicy_23, eX9_isPolicy_24, rtv_at, rti_at, rtj_at, rtd_at, rta_at, qOk, qOkR, PX9_in, QX9_in, qa2, true_and, QX9_isPolicy, List.length_nil, List.length_cons]
  by_cases g : 0 ≤ x1 ∧ x1 ≤ 2 <;> by_cases g2 : 0 ≤ x2 ∧ x2 ≤ 15 <;> simp [g, g2]
theorem xX9_goesOn (o : Nat) (μ : qMM) (ht : ∃ t, mS μ o = some (.inl (8, t))) (hp : PX9_goesOn o μ) : EX (SX9_goesOn (rtv 0 0 (QX9_goesOn o μ)) (fun _ _ _ => False)) 0 [some (.ref o)] [] [] μ (0, 0) := by
  obtain ⟨h1, h2, h3⟩ := hp
  simp only [eX9_goesOn_0, eX9_goesOn_1, eX9_goesOn_4, eX9_goesOn_5, eX9_goesOn_6, eX9_goesOn_9, eX9_goesOn_10, eX9_goesOn_11, eX9_goesOn_12, eX9_goesOn_15, eX9_goesOn_16, eX9_goesOn_17, eX9_goesOn_18, eX9_goesOn_21, eX9_goesOn_22, eX9_goesOn_23, eX9_goesOn_26, eX9_goesOn_27, eX9_goesOn_28, eX9_goesOn_31, eX9_goesOn_32, eX9_goesOn_33, eX9_goesOn_34, eX9_goesOn_37, eX9_goesOn_38, eX9_goesOn_39, eX9_goesOn_40, eX9_goesOn_43, eX9_goesOn_44, rtv_at, rti_at, rtj_at, rtd_at, rta_at, qOk, qOkR, gX9_0, h1, h2, obX9_wI, iA_wI, qA5514, PX9_modulo, QX9_modulo, qa2, true_and, QX9_goesOn, vpS (n := 1) (by decide), vpS (n := 2) (by decide), List.length_nil, List.length_cons]
  simp [goesF, wI_def, mI_wR, wR_wR, updE, vpl 1 5514 (by decide +kernel), vpl 2 5514 (by decide +kernel), vpl 4 5514 (by decide +kernel), vpl 5 5514 (by decide +kernel)]
  done
theorem ofE (p w : Nat) : (514 : Int32) + 10 * nI p + nI w = nI (514 + 10 * p + w) := by
  show nI 514 + nI 10 * nI p + nI w = _
  rw [pk_mul, nI_add, nI_add]
theorem xX9_of (o : Nat) (x1 : Int32) (x2 : Int32) (μ : qMM) (ht : ∃ t, mS μ o = some (.inl (8, t))) (hp : PX9_of o x1 x2 μ) : EX (SX9_of (rti 0 0 (QX9_of o x1 x2 μ)) (fun _ _ _ => False)) 0 [some (.ref o), some (.int x1), some (.int x2)] [] [] μ (0, 0) := by
  obtain ⟨⟨h1, h2, h3⟩, p, w, hp, hw, rfl, rfl⟩ := hp
  simp only [eX9_of_0, eX9_of_1, eX9_of_4, eX9_of_7, eX9_of_9, eX9_of_10, eX9_of_11, eX9_of_12, eX9_of_13, eX9_of_14, eX9_of_15, rtv_at, rti_at, rtj_at, rtd_at, rta_at, qOk, qOkR, gX9_0, h1, h2, qA5514, QX9_of, ofE, vpS (show 514 + 10 * p + w < 5514 by omega), nIC (show 514 + 10 * p + w < 1000000 by omega), nIC (show p < 1000000 by omega), nIC (show w < 1000000 by omega), true_and]
  simp
theorem xX9_puts (o : Nat) (x1 : Int32) (x2 : Int32) (x3 : Int32) (μ : qMM) (ht : ∃ t, mS μ o = some (.inl (8, t))) (hp : PX9_puts o x1 x2 x3 μ) : EX (SX9_puts (rtv 0 0 (QX9_puts o x1 x2 x3 μ)) (fun _ _ _ => False)) 0 [some (.ref o), some (.int x1), some (.int x2), some (.int x3)] [] [] μ (0, 0) := by
  obtain ⟨⟨h1, h2, h3⟩, p, w, hp, hw, rfl, rfl⟩ := hp
  simp only [eX9_puts_0, eX9_puts_1, eX9_puts_4, eX9_puts_7, eX9_puts_9, eX9_puts_10, eX9_puts_11, eX9_puts_12, eX9_puts_13, eX9_puts_14, eX9_puts_15, eX9_puts_16, rtv_at, rti_at, rtj_at, rtd_at, rta_at, qOk, qOkR, gX9_0, h1, h2, qA5514, QX9_puts, ofE, vpS (show 514 + 10 * p + w < 5514 by omega), nIC (show 514 + 10 * p + w < 1000000 by omega), nIC (show p < 1000000 by omega), nIC (show w < 1000000 by omega), true_and, wI_def]
  simp
theorem xX9_baseOf (x1 : Int32) (x2 : Int32) (x3 : Int32) (x4 : Int32) (x5 : Int32) (μ : qMM) (hp : PX9_baseOf x1 x2 x3 x4 x5 μ) : EX (SX9_baseOf (rti 0 0 (QX9_baseOf x1 x2 x3 x4 x5 μ)) (fun _ _ _ => False)) 0 [some (.int x1), some (.int x2), some (.int x3), some (.int x4), some (.int x5)] [] [] μ (0, 0) := by
  simp only [eX9_baseOf_0, eX9_baseOf_1, eX9_baseOf_2, eX9_baseOf_5, eX9_baseOf_6, eX9_baseOf_7, eX9_baseOf_8, eX9_baseOf_11, eX9_baseOf_14, eX9_baseOf_15, eX9_baseOf_17, eX9_baseOf_18, eX9_baseOf_19, eX9_baseOf_20, eX9_baseOf_23, eX9_baseOf_26, eX9_baseOf_27, rtv_at, rti_at, rtj_at, rtd_at, rta_at, qOk, qOkR, PX9_in, QX9_in, PX9_modulo, QX9_modulo, qa2, true_and, QX9_baseOf, baseF, List.length_nil, List.length_cons]
  by_cases g : x1 = 2 <;> by_cases g2 : 1 ≤ x2 ∧ x2 ≤ 2 <;> simp [g, g2]
theorem xX9_bytesFor (x1 : Int32) (μ : qMM) (hp : PX9_bytesFor x1 μ) : EX (SX9_bytesFor (rti 0 0 (QX9_bytesFor x1 μ)) (fun _ _ _ => False)) 0 [some (.int x1)] [] [] μ (0, 0) := by
  simp only [eX9_bytesFor_0, eX9_bytesFor_1, eX9_bytesFor_4, eX9_bytesFor_5, eX9_bytesFor_8, eX9_bytesFor_9, eX9_bytesFor_11, eX9_bytesFor_13, eX9_bytesFor_16, eX9_bytesFor_19, eX9_bytesFor_20, eX9_bytesFor_23, eX9_bytesFor_24, rtv_at, rti_at, rtj_at, rtd_at, rta_at, qOk, qOkR, PX9_in, QX9_in, QX9_bytesFor, bytesOf, qa2, true_and, List.length_nil, List.length_cons]
  by_cases h0 : x1 = 0 <;> by_cases h1 : (-128 : Int32) ≤ x1 <;> by_cases h2 : x1 ≤ 127 <;> simp [h0, h1, h2]
theorem xX9_formFor (o : Nat) (x1 : Int32) (x2 : Int32) (μ : qMM) (ht : ∃ t, mS μ o = some (.inl (8, t))) (hp : PX9_formFor o x1 x2 μ) : EX (SX9_formFor (rti 0 0 (QX9_formFor o x1 x2 μ)) (fun _ _ _ => False)) 0 [some (.ref o), some (.int x1), some (.int x2)] [] [] μ (0, 0) := by
  obtain ⟨h1, h2, h3⟩ := hp
  simp only [eX9_formFor_0, eX9_formFor_1, eX9_formFor_2, eX9_formFor_5, eX9_formFor_6, eX9_formFor_9, eX9_formFor_11, eX9_formFor_12, eX9_formFor_13, eX9_formFor_16, eX9_formFor_17, eX9_formFor_20, eX9_formFor_21, rtv_at, rti_at, rtj_at, rtd_at, rta_at, qOk, qOkR, gX9_0, h1, h2, qA5514, QX9_formFor]
  by_cases g : x2 = -1 <;> by_cases g2 : mI μ (o + 1) 8 = 1 <;> simp [g, g2, vpl 8 5514 (by decide +kernel)]
theorem xX9_maySend (o : Nat) (x1 : Int32) (μ : qMM) (ht : ∃ t, mS μ o = some (.inl (8, t))) (hp : PX9_maySend o x1 μ) : EX (SX9_maySend (rti 0 0 (QX9_maySend o x1 μ)) (fun _ _ _ => False)) 0 [some (.ref o), some (.int x1)] [] [] μ (0, 0) := by
  obtain ⟨h1, h2, h3⟩ := hp
  simp only [eX9_maySend_0, eX9_maySend_1, eX9_maySend_4, eX9_maySend_6, eX9_maySend_7, eX9_maySend_8, eX9_maySend_9, eX9_maySend_12, eX9_maySend_15, eX9_maySend_16, eX9_maySend_19, eX9_maySend_21, eX9_maySend_22, eX9_maySend_23, eX9_maySend_24, eX9_maySend_26, eX9_maySend_29, eX9_maySend_30, eX9_maySend_33, eX9_maySend_34, rtv_at, rti_at, rtj_at, rtd_at, rta_at, qOk, qOkR, gX9_0, h1, h2, qA5514, QX9_maySend]
  by_cases g : mI μ (o + 1) 9 + x1 ≤ 500 <;> by_cases g2 : mI μ (o + 1) 10 + x1 ≤ 20 <;> simp [g, g2, vpl 9 5514 (by decide +kernel), vpl 10 5514 (by decide +kernel)]
theorem placeE (x : Int32) : (66 : Int32) + 7 * (x &&& 63) = nI (66 + 7 * slotOf x) := by
  rw [(slot_and x).1]
  show nI 66 + nI 7 * nI _ = _
  rw [pk_mul, nI_add]
theorem xX9_placeOf (o : Nat) (x1 : Int32) (μ : qMM) (ht : ∃ t, mS μ o = some (.inl (8, t))) (hp : PX9_placeOf o x1 μ) : EX (SX9_placeOf (rti 0 0 (QX9_placeOf o x1 μ)) (fun _ _ _ => False)) 0 [some (.ref o), some (.int x1), none] [] [] μ (0, 0) := by
  obtain ⟨h1, h2, h3⟩ := hp
  have hs := slot_lt x1
  simp only [eX9_placeOf_0, eX9_placeOf_2, eX9_placeOf_4, eX9_placeOf_5, eX9_placeOf_7, eX9_placeOf_8, eX9_placeOf_9, eX9_placeOf_10, eX9_placeOf_11, eX9_placeOf_12, eX9_placeOf_15, eX9_placeOf_16, eX9_placeOf_19, eX9_placeOf_20, eX9_placeOf_21, eX9_placeOf_22, eX9_placeOf_25, eX9_placeOf_26, eX9_placeOf_29, eX9_placeOf_30, rtv_at, rti_at, rtj_at, rtd_at, rta_at, qOk, qOkR, gX9_0, h1, h2, qA5514, QX9_placeOf, placeF, placeE, vpS (show 66 + 7 * slotOf x1 < 5514 by omega), nIC (show 66 + 7 * slotOf x1 < 1000000 by omega), true_and]
  by_cases g : 0 ≤ x1
  · by_cases g2 : mI μ (o + 1) (66 + 7 * slotOf x1) = x1 <;> simp [g, g2, Int32.not_lt.mpr g]
  · simp [g, Int32.not_le.mp g]
theorem xX9_numberOf (o : Nat) (x1 : Int32) (μ : qMM) (ht : ∃ t, mS μ o = some (.inl (8, t))) (hp : PX9_numberOf o x1 μ) : EX (SX9_numberOf (rti 0 0 (QX9_numberOf o x1 μ)) (fun _ _ _ => False)) 0 [some (.ref o), some (.int x1), none] [] [] μ (0, 0) := by
  obtain ⟨h1, h2, h3⟩ := hp
  simp [eX9_numberOf_0, eX9_numberOf_1, eX9_numberOf_4, eX9_numberOf_6, eX9_numberOf_7, eX9_numberOf_8, eX9_numberOf_11, eX9_numberOf_13, eX9_numberOf_14, eX9_numberOf_15, eX9_numberOf_16, eX9_numberOf_17, eX9_numberOf_18, eX9_numberOf_19, eX9_numberOf_20, eX9_numberOf_21, eX9_numberOf_22, eX9_numberOf_24, eX9_numberOf_25, eX9_numberOf_26, rtv_at, rti_at, rtj_at, rtd_at, rta_at, qOk, qOkR, gX9_0, h1, h2, qA5514, QX9_numberOf, numF, vpl 55 5514 (by decide +kernel), vpl 52 5514 (by decide +kernel)]
theorem xX9_isIn (o : Nat) (x1 : Int32) (x2 : Int32) (μ : qMM) (ht : ∃ t, mS μ o = some (.inl (8, t))) (hp : PX9_isIn o x1 x2 μ) : EX (SX9_isIn (rti 0 0 (QX9_isIn o x1 x2 μ)) (fun _ _ _ => False)) 0 [some (.ref o), some (.int x1), some (.int x2)] [] [] μ (0, 0) := by
  obtain ⟨⟨h1, h2, h3⟩, hk⟩ := hp
  have hv : vp_in x1 5514 := by rcases hk with rfl | rfl <;> exact vpl _ _ (by decide +kernel)
  simp only [eX9_isIn_0, eX9_isIn_1, eX9_isIn_2, eX9_isIn_3, eX9_isIn_6, eX9_isIn_7, eX9_isIn_8, eX9_isIn_9, eX9_isIn_10, eX9_isIn_13, rtv_at, rti_at, rtj_at, rtd_at, rta_at, qOk, qOkR, gX9_0, h1, h2, qA5514, QX9_isIn, PX9_in, QX9_in, qa2, hv, true_and, List.length_nil, List.length_cons]
  by_cases g : 0 ≤ x2 ∧ x2 ≤ mI μ (o + 1) x1.toNatClampNeg - 1 <;> simp [g]
theorem xX9_spared (o : Nat) (μ : qMM) (ht : ∃ t, mS μ o = some (.inl (8, t))) (hp : PX9_spared o μ) : EX (SX9_spared (rti 0 0 (QX9_spared o μ)) (fun _ _ _ => False)) 0 [some (.ref o)] [] [] μ (0, 0) := by
  obtain ⟨h1, h2, h3⟩ := hp
  simp [eX9_spared_0, eX9_spared_2, eX9_spared_3, eX9_spared_6, eX9_spared_8, eX9_spared_9, eX9_spared_10, eX9_spared_11, eX9_spared_14, eX9_spared_16, eX9_spared_17, eX9_spared_18, rtv_at, rti_at, rtj_at, rtd_at, rta_at, qOk, qOkR, gX9_0, h1, h2, qA5514, QX9_spared, vpl 9 5514 (by decide +kernel), vpl 64 5514 (by decide +kernel)]
theorem xX9_counted (o : Nat) (x1 : Int32) (μ : qMM) (ht : ∃ t, mS μ o = some (.inl (8, t))) (hp : PX9_counted o x1 μ) : EX (SX9_counted (rti 0 0 (QX9_counted o x1 μ)) (fun _ _ _ => False)) 0 [some (.ref o), some (.int x1)] [] [] μ (0, 0) := by
  obtain ⟨⟨h1, h2, h3⟩, w, hw, rfl⟩ := hp
  have e : ∀ k : Nat, (57 : Int32) + nI (k + 1) - 1 = nI (57 + k) := fun k => by
    show nI 57 + nI (k + 1) - nI 1 = _
    rw [nI_add, pk_sub (by omega)]
    congr 1
  simp only [eX9_counted_0, eX9_counted_1, eX9_counted_4, eX9_counted_5, eX9_counted_8, eX9_counted_10, eX9_counted_11, eX9_counted_14, eX9_counted_15, eX9_counted_18, eX9_counted_20, eX9_counted_21, eX9_counted_22, eX9_counted_23, eX9_counted_24, eX9_counted_25, rtv_at, rti_at, rtj_at, rtd_at, rta_at, qOk, qOkR, gX9_0, h1, h2, qA5514, QX9_counted]
  cases w with
  | zero => simp [nI_0, vpl 9 5514 (by decide +kernel)]
  | succ k =>
    have h0 : ¬ nI (k + 1) = 0 := nI_ne0 (by omega) (by omega)
    simp [h0, e, vpS (show 57 + k < 5514 by omega), nIC (show 57 + k < 1000000 by omega), nIC (show k + 1 < 1000000 by omega), show 56 + (k + 1) = 57 + k by omega]
theorem recE (x : Int32) (w : Nat) : nI (66 + 7 * slotOf x) + 1 + nI w = nI (67 + 7 * slotOf x + w) := by
  rw [nI_1, nI_add]
  congr 1
  omega
theorem xX9_recordOf (o : Nat) (x1 : Int32) (x2 : Int32) (μ : qMM) (ht : ∃ t, mS μ o = some (.inl (8, t))) (hp : PX9_recordOf o x1 x2 μ) : EX (SX9_recordOf (rti 0 0 (QX9_recordOf o x1 x2 μ)) (fun _ _ _ => False)) 0 [some (.ref o), some (.int x1), some (.int x2), none] [] [] μ (0, 0) := by
  obtain ⟨h0, w, hw, rfl⟩ := hp
  obtain ⟨h1, h2, h3⟩ := id h0
  have hs := slot_lt x1
  simp only [eX9_recordOf_0, eX9_recordOf_1, eX9_recordOf_2, eX9_recordOf_5, eX9_recordOf_6, eX9_recordOf_7, eX9_recordOf_8, eX9_recordOf_11, eX9_recordOf_12, eX9_recordOf_15, eX9_recordOf_16, eX9_recordOf_19, eX9_recordOf_20, eX9_recordOf_21, eX9_recordOf_22, eX9_recordOf_23, eX9_recordOf_24, eX9_recordOf_25, rtv_at, rti_at, rtj_at, rtd_at, rta_at, qOk, qOkR, gX9_0, h0, h1, h2, tX9, qA5514, QX9_recordOf, PX9_placeOf, QX9_placeOf, placeF, recF, qa2, true_and, List.length_nil, List.length_cons]
  by_cases g : 0 ≤ x1 ∧ mI μ (o + 1) (66 + 7 * slotOf x1) = x1
  · have e : ¬ nI (66 + 7 * slotOf x1) = -1 := fun q => by
      have := nI_pos (n := 66 + 7 * slotOf x1) (by omega)
      rw [q] at this
      exact this (by decide)
    simp [g, e, recE, vpS (show 67 + 7 * slotOf x1 + w < 5514 by omega), nIC (show 67 + 7 * slotOf x1 + w < 1000000 by omega), nIC (show w < 1000000 by omega)]
  · simp [g]
theorem xX9_told (o : Nat) (x1 : Int32) (x2 : Int32) (μ : qMM) (ht : ∃ t, mS μ o = some (.inl (8, t))) (hp : PX9_told o x1 x2 μ) : EX (SX9_told (rti 0 0 (QX9_told o x1 x2 μ)) (fun _ _ _ => False)) 0 [some (.ref o), some (.int x1), some (.int x2)] [] [] μ (0, 0) := by
  obtain ⟨h0, p, w, hp, hw, rfl, rfl⟩ := hp
  simp only [eX9_told_0, eX9_told_1, eX9_told_2, eX9_told_3, eX9_told_4, eX9_told_7, eX9_told_8, eX9_told_11, eX9_told_12, eX9_told_13, eX9_told_14, eX9_told_17, rtv_at, rti_at, rtj_at, rtd_at, rta_at, qOk, qOkR, h0, tX9, QX9_told, PX9_of, QX9_of, qa2, true_and, List.length_nil, List.length_cons]
  have hlt : (nI w < 4) ↔ w < 4 := nI_ltI (b := 4) (by omega) (by decide)
  have e2 : nI w + 2 = nI (w + 2) := nI_add w 2
  by_cases g : w < 4
  · simp [hlt, g, nIC (show p < 1000000 by omega), nIC (show w < 1000000 by omega), show ¬ (4 : Int32) ≤ nI w from fun q => (Int32.not_le.mpr (hlt.mpr g)) q]
    exact ⟨ht, p, hp, w, by omega, rfl, rfl⟩
  · have g' : (4 : Int32) ≤ nI w := Int32.not_lt.mp (fun q => g (hlt.mp q))
    simp [hlt, g, g', e2, nIC (show p < 1000000 by omega), nIC (show w < 1000000 by omega), nIC (show w + 2 < 1000000 by omega)]
    exact ⟨ht, p, hp, w + 2, by omega, rfl, rfl⟩
theorem joinE (k n : Nat) : nI k + nI n = nI (k + n) := nI_add k n
theorem xX9_joins (o : Nat) (x1 : Int32) (x2 : Int32) (μ : qMM) (ht : ∃ t, mS μ o = some (.inl (8, t))) (hp : PX9_joins o x1 x2 μ) : EX (SX9_joins (rtv 0 0 (QX9_joins o x1 x2 μ)) (fun _ _ _ => False)) 0 [some (.ref o), some (.int x1), some (.int x2)] [] [] μ (0, 0) := by
  obtain ⟨⟨h1, h2, h3⟩, hk, n, hn, hl⟩ := hp
  obtain ⟨k, hk1, rfl⟩ : ∃ k : Nat, (k = 10 ∨ k = 31) ∧ x1 = nI k := by
    rcases hk with rfl | rfl
    · exact ⟨10, Or.inl rfl, rfl⟩
    · exact ⟨31, Or.inr rfl, rfl⟩
  have hk2 : k < 32 := by omega
  have hv := vpS (show k < 5514 by omega)
  have hc := nIC (show k < 1000000 by omega)
  rw [hc] at hl
  have hlt : (nI n < 20) ↔ n < 20 := nI_ltI (b := 20) (by omega) (by decide)
  simp only [eX9_joins_0, eX9_joins_1, eX9_joins_4, eX9_joins_5, eX9_joins_6, eX9_joins_8, eX9_joins_11, eX9_joins_12, eX9_joins_15, eX9_joins_16, eX9_joins_17, eX9_joins_18, eX9_joins_19, eX9_joins_20, eX9_joins_21, eX9_joins_22, eX9_joins_25, eX9_joins_26, eX9_joins_27, eX9_joins_30, eX9_joins_31, eX9_joins_32, eX9_joins_33, eX9_joins_34, eX9_joins_35, gX9_0, h1, h2, obX9_wI, iA_wI, qA5514, hv, hc, hl, QX9_joins, joinF, rtv_at, rti_at, rtj_at, rtd_at, rta_at, qOk, qOkR, true_and]
  by_cases g : n < 20
  · have g' := hlt.mpr g
    simp [g', Int32.not_le.mpr g', wI_def, mI_wR, updE, hl, nI_1, joinE, wR_wR, vpS (show k + (n + 1) < 5514 by omega), nIC (show k + (n + 1) < 1000000 by omega), nIC (show n + 1 < 1000000 by omega)]
  · have g' : ¬ nI n < 20 := fun q => g (hlt.mp q)
    simp [g', Int32.not_lt.mp g', wR_self]
theorem cpy_succ2 {f g : Nat → Int32} {sp n : Nat} : upd (va_cpy f g sp 0 n) n (f (n + sp)) = va_cpy f g sp 0 (n + 1) := by
  funext k
  unfold upd va_cpy
  by_cases h : k = n
  · subst h
    simp [Nat.add_comm]
  · have : (k < n + 1) ↔ (k < n) := by omega
    simp [h, this]
theorem cpy_succ3 {f g : Nat → Int32} {dp n : Nat} : upd (va_cpy f g 0 dp n) (dp + n) (f n) = va_cpy f g 0 dp (n + 1) := by
  funext k
  unfold upd va_cpy
  by_cases h : k = dp + n
  · subst h
    simp
  · by_cases h2 : dp ≤ k ∧ k < dp + n
    · rw [if_neg h, if_pos h2, if_pos (by omega)]
    · rw [if_neg h, if_neg h2, if_neg (by omega)]
theorem xX9_ends_l1 (o : Nat) (x1 : Int32) (μ : qMM) (h : MoS μ o) (R : Option Value → qMM → Nat × Nat → Prop) (X : String → qMM → Nat × Nat → Prop) (hR : ∀ a, EX (SX9_ends R X) 39 [some (.ref o), some (.int x1), a] [] [] (wR μ (o + 2) (va_cpy (mI μ (o + 2)) (mI μ (o + 2)) 5514 0 16542)) (0, 0)) : ∀ k i : Nat, i + k = 16542 → EX (SX9_ends R X) 10 [some (.ref o), some (.int x1), some (.int (nI i))] [] [] (wR μ (o + 2) (va_cpy (mI μ (o + 2)) (mI μ (o + 2)) 5514 0 i)) (0, 0) := by
  obtain ⟨h1, h2, h3, h4, h5⟩ := h
  intro k
  induction k with
  | zero =>
    intro i hi
    have : i = 16542 := by omega
    subst this
    rw [eX9_ends_10]
    simp only [eX9_ends_11, eX9_ends_14]
    exact ⟨fun _ => hR _, fun h => absurd (by decide) h⟩
  | succ k ih =>
    intro i hi
    have := ih (i + 1) (by omega)
    have e5 : nI i + 5514 = nI (i + 5514) := nI_add i 5514
    have e6 : va_cpy (mI μ (o + 2)) (mI μ (o + 2)) 5514 0 i (i + 5514) = mI μ (o + 2) (i + 5514) := by
      unfold va_cpy
      rw [if_neg (by omega)]
    rw [eX9_ends_10]
    simp only [eX9_ends_11, eX9_ends_14, eX9_ends_17, eX9_ends_18, eX9_ends_21, eX9_ends_22, eX9_ends_23, eX9_ends_26, eX9_ends_27, eX9_ends_30, eX9_ends_31, eX9_ends_32, eX9_ends_33, eX9_ends_36, gX9_1, h1, h3, obX9_wR, iA_wR, qA22056, e5, vpP (show i < 22056 by omega), vpP (show i + 5514 < 22056 by omega), nIC (show i < 1000000 by omega), nIC (show i + 5514 < 1000000 by omega), nI_1, true_and, wI_def, wR_wR, mI_wR, if_true, e6, cpy_succ2]
    exact ⟨fun h => absurd h (nI_ge (b := 16542) (by omega) (by decide)), fun _ => this⟩
theorem xX9_ends_l2 (o c : Nat) (x1 : Int32) (μ : qMM) (h : MoS μ o) (hc : c ≤ 3) (hp : mI μ o 3 = nI c) (R : Option Value → qMM → Nat × Nat → Prop) (X : String → qMM → Nat × Nat → Prop) (hR : ∀ a, EX (SX9_ends R X) 85 [some (.ref o), some (.int x1), a] [] [] (wR μ (o + 2) (va_cpy (mI μ (o + 3)) (mI μ (o + 2)) 0 (5514 * c) 5514)) (0, 0)) : ∀ k i : Nat, i + k = 5514 → EX (SX9_ends R X) 51 [some (.ref o), some (.int x1), some (.int (nI i))] [] [] (wR μ (o + 2) (va_cpy (mI μ (o + 3)) (mI μ (o + 2)) 0 (5514 * c) i)) (0, 0) := by
  obtain ⟨h1, h2, h3, h4, h5⟩ := h
  intro k
  induction k with
  | zero =>
    intro i hi
    have : i = 5514 := by omega
    subst this
    rw [eX9_ends_51]
    simp only [eX9_ends_52, eX9_ends_55]
    exact ⟨fun _ => hR _, fun h => absurd (by decide) h⟩
  | succ k ih =>
    intro i hi
    have := ih (i + 1) (by omega)
    have e5 : 5514 * nI c + nI i = nI (5514 * c + i) := by
      show nI 5514 * nI c + nI i = _
      rw [pk_mul, nI_add]
    rw [eX9_ends_51]
    simp only [eX9_ends_52, eX9_ends_55, eX9_ends_58, eX9_ends_59, eX9_ends_62, eX9_ends_65, eX9_ends_66, eX9_ends_69, eX9_ends_70, eX9_ends_71, eX9_ends_72, eX9_ends_73, eX9_ends_76, eX9_ends_77, eX9_ends_78, eX9_ends_79, eX9_ends_82, gX9_1, gX9_2, gX9_3, h1, h3, h4, obX9_wR, iA_wR, qA22056, qA5514, hp, e5, vpS (show i < 5514 by omega), vpP (show 5514 * c + i < 22056 by omega), nIC (show i < 1000000 by omega), nIC (show 5514 * c + i < 1000000 by omega), nI_1, true_and, wI_def, wR_wR, mI_wR, if_true, if_neg (show ¬ o + 3 = o + 2 by omega), if_neg (show ¬ o = o + 2 by omega), cpy_succ3]
    exact ⟨fun h => absurd h (nI_ge (b := 5514) (by omega) (by decide)), fun _ => this⟩
theorem cpy_zero {f g : Nat → Int32} {sp dp : Nat} : va_cpy f g sp dp 0 = g := by
  funext k
  unfold va_cpy
  rw [if_neg (by omega)]
theorem wR_comm {μ : qMM} {a b : Nat} {f g : Nat → Int32} (h : a ≠ b) : wR (wR μ a f) b g = wR (wR μ b g) a f := by
  unfold wR
  congr 2
  funext c
  by_cases h1 : c = a <;> by_cases h2 : c = b <;> simp [h1, h2] <;> omega
theorem xX9_ends (o : Nat) (x1 : Int32) (μ : qMM) (ht : ∃ t, mS μ o = some (.inl (8, t))) (hp : PX9_ends o x1 μ) : EX (SX9_ends (rti 0 0 (QX9_ends o x1 μ)) (fun _ _ _ => False)) 0 [some (.ref o), some (.int x1), none] [] [] μ (0, 0) := by
  obtain ⟨h0, c, hc, hl⟩ := hp
  obtain ⟨h1, h2, h3, h4, h5⟩ := id h0
  have fin : ∀ (a : Option Value) (μ1 : qMM) (d : Nat), MoS μ1 o → mI μ1 o 3 = nI d → (∀ c' : Nat, c' ≤ 4 → mI μ o 3 = nI c' → wR μ1 o (upd (upd (mI μ1 o) 3 (nI (d + 1))) 6 0) = wR (wR μ (o + 2) (pastF (mI μ (o + 3)) (mI μ (o + 2)) c')) o (upd (upd (mI μ o) 3 (nI (if c' = 4 then 4 else c' + 1))) 6 0)) → EX (SX9_ends (rti 0 0 (QX9_ends o x1 μ)) (fun _ _ _ => False)) 85 [some (.ref o), some (.int x1), a] [] [] μ1 (0, 0) := by
    intro a μ1 d hm hd hq
    have hm1 := hm.1
    simp only [eX9_ends_85, eX9_ends_86r, eX9_ends_87, eX9_ends_90, eX9_ends_91, eX9_ends_92, eX9_ends_95, eX9_ends_96, eX9_ends_97, eX9_ends_100, gX9_3, pX9_3, hm, hm1, obX9_wI, tX9, MoS_wI, PX9_tells, QX9_tells, qa2, hd, nI_1, rtv_at, rti_at, rtj_at, rtd_at, rta_at, qOk, qOkR, QX9_ends, true_and, List.length_nil, List.length_cons]
    refine ⟨by simp, by simp, by simp, ⟨fun c' hc' hl' => ?_, by simp⟩⟩
    rw [← hq c' hc' hl', wI_def, mI_wR_s, wR_wR]
  by_cases h4 : c = 4
  · subst h4
    have e1 := xX9_ends_l1 o x1 μ h0 (rti 0 0 (QX9_ends o x1 μ)) (fun _ _ _ => False) (fun a => by
      have g1 : mI (wR μ (o + 2) (va_cpy (mI μ (o + 2)) (mI μ (o + 2)) 5514 0 16542)) o = mI μ o := mI_wR_n (by omega)
      simp only [eX9_ends_39, eX9_ends_40r, eX9_ends_41, eX9_ends_44, eX9_ends_45, eX9_ends_46, eX9_ends_49, eX9_ends_50, gX9_3, pX9_3, h1, obX9_wR, g1, hl]
      have e2 := xX9_ends_l2 o 3 x1 (wI (wR μ (o + 2) (va_cpy (mI μ (o + 2)) (mI μ (o + 2)) 5514 0 16542)) o 3 (nI 4 - 1)) h0 (by decide) (by rw [wI_def, mI_wR_s]; rfl) (rti 0 0 (QX9_ends o x1 μ)) (fun _ _ _ => False) (fun a => fin a _ 3 h0 (by rw [mI_wR_n (by omega), wI_def, mI_wR_s]; rfl) (fun c' hc' hl' => ?_)) 5514 0 rfl
      · rw [cpy_zero, wR_self] at e2
        exact e2
      · have : c' = 4 := (nI_eq (by omega) (by decide)).mp (hl'.symm.trans hl)
        subst this
        rw [wI_def, g1]
        simp only [mI_wR, if_true, if_neg (show ¬ o + 3 = o by omega), if_neg (show ¬ o + 3 = o + 2 by omega), if_neg (show ¬ o + 2 = o by omega), if_neg (show ¬ o = o + 2 by omega)]
        rw [wR_comm (show o ≠ o + 2 by omega), wR_wR, wR_wR]
        unfold pastF
        rw [if_pos rfl]
        congr 1
        funext k
        unfold upd
        by_cases k6 : k = 6
        · simp [k6]
        · by_cases k3 : k = 3 <;> simp [k6, k3]) 16542 0 rfl
    rw [cpy_zero, wR_self] at e1
    simp only [eX9_ends_0, eX9_ends_1, eX9_ends_4, eX9_ends_5, eX9_ends_8, eX9_ends_9, gX9_3, h1, hl]
    exact ⟨fun h => absurd rfl h, fun _ => e1⟩
  · have e2 := xX9_ends_l2 o c x1 μ h0 (by omega) hl (rti 0 0 (QX9_ends o x1 μ)) (fun _ _ _ => False) (fun a => fin a _ c h0 (by rw [mI_wR_n (by omega)]; exact hl) (fun c' hc' hl' => ?_)) 5514 0 rfl
    · rw [cpy_zero, wR_self] at e2
      simp only [eX9_ends_0, eX9_ends_1, eX9_ends_4, eX9_ends_5, eX9_ends_49, eX9_ends_50, gX9_3, h1, hl]
      exact ⟨fun _ => e2, fun h => absurd (fun q => h4 ((nI_eq (b := 4) (by omega) (by decide)).mp q)) h⟩
    · have : c' = c := (nI_eq (by omega) (by omega)).mp (hl'.symm.trans hl)
      subst this
      unfold pastF
      rw [if_neg h4, if_neg h4, mI_wR_n (by omega)]
