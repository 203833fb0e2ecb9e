/-! ===== bodies: a sender ===== -/
theorem vp500 {n : Nat} (h : n < 500) : vp_in (nI n) 500 := vp_in_nI h (by decide)
theorem wR_congr {μ : qMM} {a : Nat} {f g : Nat → Int32} (h : ∀ k, f k = g k) : wR μ a f = wR μ a g := by rw [show f = g from funext h]
theorem xX5_step (o : Nat) (μ : qMM) (ht : ∃ t, mS μ o = some (.inl (4, t))) (hp : PX5_step o μ) : EX (SX5_step (rtv 0 0 (QX5_step o μ)) (fun _ _ _ => False)) 0 [some (.ref o)] [] [] μ (0, 0) := by
  obtain ⟨lg, h1, h2, h3, h4, h5⟩ := hp
  simp only [eX5_step_0, eX5_step_1, eX5_step_4, eX5_step_5, eX5_step_6, eX5_step_9, eX5_step_10, eX5_step_11, eX5_step_12, eX5_step_15, eX5_step_16, eX5_step_17, eX5_step_18, eX5_step_21, eX5_step_22, eX5_step_23, eX5_step_26, eX5_step_27, eX5_step_28, eX5_step_31, eX5_step_32, eX5_step_33, eX5_step_34, eX5_step_37, eX5_step_38, eX5_step_39, eX5_step_40, eX5_step_43, eX5_step_44, rtv_at, rti_at, rtj_at, rtd_at, rta_at, qOk, qOkR, gX5_1 lg, h1, obX5_wI, iA_wI, h2, qA6, PX3_wrapped, QX3_wrapped, qa2, v16, v26, v46, v56, ci1, ci2, ci4, ci5, true_and, QX5_step, List.length_nil, List.length_cons]
  simp [wI_def, mI_wR, wR_wR, goesF, updE]
theorem xX5_usedReference (o : Nat) (x1 : Int32) (x2 : Int32) (μ : qMM) (ht : ∃ t, mS μ o = some (.inl (4, t))) (hp : PX5_usedReference o x1 x2 μ) : EX (SX5_usedReference (rti 0 0 (QX5_usedReference o x1 x2 μ)) (fun _ _ _ => False)) 0 [some (.ref o), some (.int x1), some (.int x2)] [] [] μ (0, 0) := by
  obtain ⟨⟨lg, h0⟩, hn⟩ := hp
  obtain ⟨h1, h2, h3, h4, h5⟩ := id h0
  have ht := tX5 lg h1
  simp only [eX5_usedReference_0, eX5_usedReference_1, eX5_usedReference_4, eX5_usedReference_5, eX5_usedReference_8, eX5_usedReference_11, eX5_usedReference_12, eX5_usedReference_13, eX5_usedReference_14, eX5_usedReference_15, eX5_usedReference_18, rtv_at, rti_at, rtj_at, rtd_at, rta_at, qOk, qOkR, gX5_4 lg, h1, ht, PX5_trustedReference, QX5_trustedReference, qa2, QX5_usedReference, useC, true_and, qOk, List.length_nil, List.length_cons, ll0, ll1, ll2, ll3, ll4, Nat.le_refl, and_true]
  by_cases g : x1 = 0
  · simp [g]
  · by_cases g2 : mI μ o 4 = 0
    · simp [g, g2]
      exact ⟨⟨lg, h0⟩, hn⟩
    · simp [g, g2]
theorem xX5_savedBytes (o : Nat) (μ : qMM) (ht : ∃ t, mS μ o = some (.inl (4, t))) (hp : PX5_savedBytes o μ) : EX (SX5_savedBytes (rti 0 0 (QX5_savedBytes o μ)) (fun _ _ _ => False)) 0 [some (.ref o)] [] [] μ (0, 0) := by
  obtain ⟨lg, h1, h2, h3, h4, h5⟩ := hp
  simp [eX5_savedBytes_0, eX5_savedBytes_1, eX5_savedBytes_4, eX5_savedBytes_6, eX5_savedBytes_7, eX5_savedBytes_8, eX5_savedBytes_11, eX5_savedBytes_12, rtv_at, rti_at, rtj_at, rtd_at, rta_at, qOk, qOkR, gX5_5 lg, gX5_7 lg, h1, QX5_savedBytes]
theorem xX5_hear (o : Nat) (x1 : Int32) (μ : qMM) (ht : ∃ t, mS μ o = some (.inl (4, t))) (hp : PX5_hear o x1 μ) : EX (SX5_hear (rtv 0 0 (QX5_hear o x1 μ)) (fun _ _ _ => False)) 0 [some (.ref o), some (.int x1)] [] [] μ (0, 0) := by
  obtain ⟨⟨lg, h1, h2, h3, h4, h5⟩, ⟨n, hn, hl⟩, hx⟩ := hp
  simp only [eX5_hear_0, eX5_hear_1, eX5_hear_2, eX5_hear_5, eX5_hear_6, eX5_hear_7, eX5_hear_10, eX5_hear_13, eX5_hear_14, eX5_hear_15, eX5_hear_16, eX5_hear_19, eX5_hear_20, eX5_hear_21, eX5_hear_24, eX5_hear_27, eX5_hear_28, eX5_hear_31, eX5_hear_32, eX5_hear_33, eX5_hear_34, rtv_at, rti_at, rtj_at, rtd_at, rta_at, qOk, qOkR, gX5_2 lg, gX5_5 lg, gX5_8 lg, pX5_4 lg, h1, h3, qA500, PX8_inRange, QX8_inRange, qa2, true_and, QX5_hear, wI_def, List.length_nil, List.length_cons, ll0, ll1, ll2, ll3, ll4, Nat.le_refl, and_true]
  rcases hx with rfl | ⟨x, hx, rfl⟩
  · simp
  · have e1 : ¬ nI x = -1 := nI_m1 hx
    rw [if_neg e1]
    by_cases g : x < n
    · have e2 : nI x < mI μ o 5 := by rw [hl]; exact (nI_ltI (by omega) (by omega)).mpr g
      have e3 : (0 : Int32) ≤ nI x ∧ nI x ≤ mI μ o 5 - 1 := by
        rw [hl]
        refine ⟨nI_le (a := 0) (by omega) (by omega), ?_⟩
        rw [show nI n - 1 = nI (n - 1) from pk_sub (a := n) (b := 1) (by omega)]
        exact nI_le (by omega) (by omega)
      rw [if_pos e2]
      simp [e1, e3, vp500 (show x < 500 by omega)]
    · have e2 : ¬ nI x < mI μ o 5 := by rw [hl]; exact fun q => g ((nI_ltI (by omega) (by omega)).mp q)
      have e3 : ¬ ((0 : Int32) ≤ nI x ∧ nI x ≤ mI μ o 5 - 1) := by
        rw [hl]
        rintro ⟨-, q⟩
        rcases Nat.eq_zero_or_pos n with z | z
        · subst z
          have : nI x ≤ -1 := q
          have h0 : (0 : Int32) ≤ nI x := nI_le (a := 0) (by omega) (by omega)
          exact absurd (Int32.le_trans h0 this) (by decide)
        · rw [show nI n - 1 = nI (n - 1) from pk_sub (a := n) (b := 1) (by omega)] at q
          have := (nI_leI (by omega) (by omega)).mp q
          omega
      rw [if_neg e2]
      simp [e1, e3]
theorem xX5_sizeFrom (o : Nat) (x1 : Int32) (x2 : Int32) (μ : qMM) (ht : ∃ t, mS μ o = some (.inl (4, t))) (hp : PX5_sizeFrom o x1 x2 μ) : EX (SX5_sizeFrom (rti 0 0 (QX5_sizeFrom o x1 x2 μ)) (fun _ _ _ => False)) 0 [some (.ref o), some (.int x1), some (.int x2)] [] [] μ (0, 0) := by
  obtain ⟨⟨lg, h0, hl, hd⟩, hx, hN⟩ := hp
  obtain ⟨h1, h2, h3, h4, h5⟩ := id h0
  obtain ⟨l1, l2, l3, l4, l5, l6, l7, l8⟩ := id hl
  have key : ∀ (r : Int32) (μ' : qMM), (r = (if x1 = -1 then 12 else sizeC (rlC μ lg o x1 x2)) ∧ μ' = (if x1 = -1 then μ else wR (wR μ (o + 3) (bsC μ lg o x1 x2)) (o + 4) (rlC μ lg o x1 x2))) → QX5_sizeFrom o x1 x2 μ r μ' := by
    intro r μ' h lg' h'
    have : lg' = lg := by
      have := h'.1.symm.trans h1
      simpa using this
    subst this
    exact h
  by_cases h : x1 = -1
  · subst h
    simp only [eX5_sizeFrom_0, eX5_sizeFrom_1, eX5_sizeFrom_2, eX5_sizeFrom_5, eX5_sizeFrom_7, eX5_sizeFrom_8, eX5_sizeFrom_9, eX5_sizeFrom_12, eX5_sizeFrom_13, eX5_sizeFrom_16, eX5_sizeFrom_19, eX5_sizeFrom_20, eX5_sizeFrom_21, eX5_sizeFrom_22, eX5_sizeFrom_23, eX5_sizeFrom_26, eX5_sizeFrom_27, eX5_sizeFrom_28, eX5_sizeFrom_31, eX5_sizeFrom_32, eX5_sizeFrom_35, eX5_sizeFrom_36, eX5_sizeFrom_39, eX5_sizeFrom_40, eX5_sizeFrom_43, eX5_sizeFrom_46, eX5_sizeFrom_47, eX5_sizeFrom_50, eX5_sizeFrom_53, rtv_at, rti_at, rtj_at, rtd_at, rta_at, qOk, qOkR, qOk, List.length_nil, List.length_cons, ll0, ll1, ll2, ll3, ll4, Nat.le_refl, and_true, one0, eq_self, or_true, true_or, not_true_eq_false, not_false_eq_true, true_imp_iff, false_imp_iff, true_and, and_true, Classical.not_not]
    exact key _ _ ⟨rfl, rfl⟩
  · obtain ⟨r, hr, rfl⟩ := hx.resolve_left h
    have b1 := l7 r hr
    simp only [if_neg h] at key
    simp only [eX5_sizeFrom_0, eX5_sizeFrom_1, eX5_sizeFrom_2, eX5_sizeFrom_5, eX5_sizeFrom_7, eX5_sizeFrom_8, eX5_sizeFrom_9, eX5_sizeFrom_12, eX5_sizeFrom_13, eX5_sizeFrom_16, eX5_sizeFrom_19, eX5_sizeFrom_20, eX5_sizeFrom_21, eX5_sizeFrom_22, eX5_sizeFrom_23, eX5_sizeFrom_26, eX5_sizeFrom_27, eX5_sizeFrom_28, eX5_sizeFrom_31, eX5_sizeFrom_32, eX5_sizeFrom_35, eX5_sizeFrom_36, eX5_sizeFrom_39, eX5_sizeFrom_40, eX5_sizeFrom_43, eX5_sizeFrom_46, eX5_sizeFrom_47, eX5_sizeFrom_50, eX5_sizeFrom_53, rtv_at, rti_at, rtj_at, rtd_at, rta_at, qOk, qOkR, gX5_0 lg, gX5_1 lg, gX5_5 lg, gX5_9 lg, gX5_10 lg, gX1_0, h, h1, h2, h4, h5, l1, l2, qAal_rec (lg := lg), vp500 hr, nIc hr, PX3_putBase, QX3_putBase, PX3_putCarried, QX3_putCarried, PX3_sizeOf, QX3_sizeOf, b1, obX5_wR, iA_wR, hN, qOk, qa2, forall_eq, List.length_nil, List.length_cons, ll0, ll1, ll2, ll3, ll4, Nat.le_refl, and_true, one0, eq_self, or_true, true_or, not_true_eq_false, not_false_eq_true, true_imp_iff, false_imp_iff, true_and, and_true, Classical.not_not]
    refine ⟨by omega, ⟨by omega, by omega⟩, key _ _ ?_⟩
    simp [mI_wR, rlC, bsC, nIc hr]
theorem xX5_sentValue (o : Nat) (x1 : Int32) (x2 : Int32) (μ : qMM) (ht : ∃ t, mS μ o = some (.inl (4, t))) (hp : PX5_sentValue o x1 x2 μ) : EX (SX5_sentValue (rti 0 0 (QX5_sentValue o x1 x2 μ)) (fun _ _ _ => False)) 0 [some (.ref o), some (.int x1), some (.int x2)] [] [] μ (0, 0) := by
  obtain ⟨⟨lg, h0, hl⟩, p, w, hp, hw, rfl, rfl⟩ := hp
  obtain ⟨h1, h2, h3, h4, h5⟩ := id h0
  obtain ⟨l1, l2, l3, l4, l5, l6, l7, l8⟩ := id hl
  have b1 := l7 p hp
  have key : ∀ (r : Int32), r = sntC μ lg o p w → QX5_sentValue o (nI p) (nI w) μ r μ := by
    intro r h
    refine ⟨fun lg' h' => ?_, rfl⟩
    have : lg' = lg := by
      have := h'.1.symm.trans h1
      simpa using this
    subst this
    rw [nIc hp, nIc (show w < 500 by omega)]
    exact h
  have e4 : qSwT 1 68 4 7 #[31, 41, 51, 61] (nI w) = some (if w = 4 then 32 else if w = 5 then 42 else if w = 6 then 52 else if w = 7 then 62 else 69) := by
    rcases (by omega : w = 0 ∨ w = 1 ∨ w = 2 ∨ w = 3 ∨ w = 4 ∨ w = 5 ∨ w = 6 ∨ w = 7) with rfl | rfl | rfl | rfl | rfl | rfl | rfl | rfl <;> decide
  simp only [eX5_sentValue_0, eX5_sentValue_1, e4, qGo]
  have e5 : ∀ v, v = sntC μ lg o p w → rti 0 0 (QX5_sentValue o (nI p) (nI w) μ) (some (.int v)) μ (0, 0) := fun v hv => by rw [rti_at]; exact ⟨key v hv, by decide, by decide⟩
  by_cases g4 : w = 4
  · simp only [if_pos g4, eX5_sentValue_32, eX5_sentValue_33, eX5_sentValue_36, eX5_sentValue_39, eX5_sentValue_40, eX5_sentValue_41, eX5_sentValue_42, eX5_sentValue_43, eX5_sentValue_46, eX5_sentValue_49, eX5_sentValue_50, eX5_sentValue_51, eX5_sentValue_52, eX5_sentValue_53, eX5_sentValue_56, eX5_sentValue_59, eX5_sentValue_60, eX5_sentValue_61, eX5_sentValue_62, eX5_sentValue_63, eX5_sentValue_66, eX5_sentValue_67, eX5_sentValue_68, eX5_sentValue_69, eX5_sentValue_70, eX5_sentValue_73, eX5_sentValue_76, eX5_sentValue_77, eX5_sentValue_78, eX5_sentValue_79, eX5_sentValue_80, gX5_0 lg, gX5_8 lg, gX1_0, gX1_2, gX1_3, gX1_4, h1, h3, l1, l2, l4, l5, l6, qA6, qA500, qAal_rec (lg := lg), qAal_car (lg := lg), vp500 hp, nIc hp, true_and, qOk]
    exact e5 _ (by unfold sntC; rw [if_pos g4])
  · by_cases g5 : w = 5
    · simp only [if_neg g4, if_pos g5, eX5_sentValue_32, eX5_sentValue_33, eX5_sentValue_36, eX5_sentValue_39, eX5_sentValue_40, eX5_sentValue_41, eX5_sentValue_42, eX5_sentValue_43, eX5_sentValue_46, eX5_sentValue_49, eX5_sentValue_50, eX5_sentValue_51, eX5_sentValue_52, eX5_sentValue_53, eX5_sentValue_56, eX5_sentValue_59, eX5_sentValue_60, eX5_sentValue_61, eX5_sentValue_62, eX5_sentValue_63, eX5_sentValue_66, eX5_sentValue_67, eX5_sentValue_68, eX5_sentValue_69, eX5_sentValue_70, eX5_sentValue_73, eX5_sentValue_76, eX5_sentValue_77, eX5_sentValue_78, eX5_sentValue_79, eX5_sentValue_80, gX5_0 lg, gX5_8 lg, gX1_0, gX1_2, gX1_3, gX1_4, h1, h3, l1, l2, l4, l5, l6, qA6, qA500, qAal_rec (lg := lg), qAal_car (lg := lg), vp500 hp, nIc hp, true_and, qOk]
      exact e5 _ (by unfold sntC; rw [if_neg g4, if_pos g5])
    · by_cases g6 : w = 6
      · simp only [if_neg g4, if_neg g5, if_pos g6, eX5_sentValue_32, eX5_sentValue_33, eX5_sentValue_36, eX5_sentValue_39, eX5_sentValue_40, eX5_sentValue_41, eX5_sentValue_42, eX5_sentValue_43, eX5_sentValue_46, eX5_sentValue_49, eX5_sentValue_50, eX5_sentValue_51, eX5_sentValue_52, eX5_sentValue_53, eX5_sentValue_56, eX5_sentValue_59, eX5_sentValue_60, eX5_sentValue_61, eX5_sentValue_62, eX5_sentValue_63, eX5_sentValue_66, eX5_sentValue_67, eX5_sentValue_68, eX5_sentValue_69, eX5_sentValue_70, eX5_sentValue_73, eX5_sentValue_76, eX5_sentValue_77, eX5_sentValue_78, eX5_sentValue_79, eX5_sentValue_80, gX5_0 lg, gX5_8 lg, gX1_0, gX1_2, gX1_3, gX1_4, h1, h3, l1, l2, l4, l5, l6, qA6, qA500, qAal_rec (lg := lg), qAal_car (lg := lg), vp500 hp, nIc hp, true_and, qOk]
        exact e5 _ (by unfold sntC; rw [if_neg g4, if_neg g5, if_pos g6])
      · by_cases g7 : w = 7
        · simp only [if_neg g4, if_neg g5, if_neg g6, if_pos g7, eX5_sentValue_32, eX5_sentValue_33, eX5_sentValue_36, eX5_sentValue_39, eX5_sentValue_40, eX5_sentValue_41, eX5_sentValue_42, eX5_sentValue_43, eX5_sentValue_46, eX5_sentValue_49, eX5_sentValue_50, eX5_sentValue_51, eX5_sentValue_52, eX5_sentValue_53, eX5_sentValue_56, eX5_sentValue_59, eX5_sentValue_60, eX5_sentValue_61, eX5_sentValue_62, eX5_sentValue_63, eX5_sentValue_66, eX5_sentValue_67, eX5_sentValue_68, eX5_sentValue_69, eX5_sentValue_70, eX5_sentValue_73, eX5_sentValue_76, eX5_sentValue_77, eX5_sentValue_78, eX5_sentValue_79, eX5_sentValue_80, gX5_0 lg, gX5_8 lg, gX1_0, gX1_2, gX1_3, gX1_4, h1, h3, l1, l2, l4, l5, l6, qA6, qA500, qAal_rec (lg := lg), qAal_car (lg := lg), vp500 hp, nIc hp, true_and, qOk]
          exact e5 _ (by unfold sntC; rw [if_neg g4, if_neg g5, if_neg g6, if_pos g7])
        · simp only [if_neg g4, if_neg g5, if_neg g6, if_neg g7, eX5_sentValue_32, eX5_sentValue_33, eX5_sentValue_36, eX5_sentValue_39, eX5_sentValue_40, eX5_sentValue_41, eX5_sentValue_42, eX5_sentValue_43, eX5_sentValue_46, eX5_sentValue_49, eX5_sentValue_50, eX5_sentValue_51, eX5_sentValue_52, eX5_sentValue_53, eX5_sentValue_56, eX5_sentValue_59, eX5_sentValue_60, eX5_sentValue_61, eX5_sentValue_62, eX5_sentValue_63, eX5_sentValue_66, eX5_sentValue_67, eX5_sentValue_68, eX5_sentValue_69, eX5_sentValue_70, eX5_sentValue_73, eX5_sentValue_76, eX5_sentValue_77, eX5_sentValue_78, eX5_sentValue_79, eX5_sentValue_80, gX5_0 lg, gX5_8 lg, gX1_0, gX1_2, gX1_3, gX1_4, h1, h3, l1, l2, l4, l5, l6, qA6, qA500, qAal_rec (lg := lg), qAal_car (lg := lg), vp500 hp, nIc hp, nIc (show w < 500 by omega), b1, vp6 (show w < 6 by omega), true_and, qOk]
          exact e5 _ (by unfold sntC; rw [if_neg g4, if_neg g5, if_neg g6, if_neg g7])
theorem xX5_trustedReference_l (o n lg : Nat) (x1 : Int32) (μ : qMM) (h0 : SeS μ lg o) (hn : n ≤ 500) (h5 : mI μ o 5 = nI n) (R : Option Value → qMM → Nat × Nat → Prop) (X : String → qMM → Nat × Nat → Prop) : ∀ k : Nat, k ≤ n → R (some (.int (trust (mI μ (o + 2)) x1 n k))) μ (0, 0) → ∀ a4, EX (SX5_trustedReference R X) 19 [some (.ref o), some (.int x1), some (.int (nI (n - 15))), some (.int (nI k - 1)), a4] [] [] μ (0, 0) := by
  obtain ⟨h1, h2, h3, h4, h6⟩ := id h0
  intro k
  induction k with
  | zero =>
    intro hk hR a4
    rw [eX5_trustedReference_19]
    simp only [eX5_trustedReference_20, eX5_trustedReference_21, eX5_trustedReference_68, eX5_trustedReference_69, qOk, true_and]
    exact ⟨fun _ => hR, fun h => absurd (Int32.lt_iff_toInt_lt.mpr (by rw [nI_toInt (by omega)]; show (-1 : Int) < _; omega)) h⟩
  | succ m ih =>
    intro hk hR a4
    have e1 : nI (m + 1) - 1 = nI m := nI_pred m
    have e2 : nI n - nI m = nI (n - m) := pk_sub (by omega)
    have e3 : nI m + -1 = nI m - 1 := by
      rw [← Int32.sub_eq_add_neg]
    unfold trust at hR
    rw [e1, eX5_trustedReference_19]
    simp only [eX5_trustedReference_20, eX5_trustedReference_21, eX5_trustedReference_24, eX5_trustedReference_25, eX5_trustedReference_28, eX5_trustedReference_29, eX5_trustedReference_32, eX5_trustedReference_33, eX5_trustedReference_34, eX5_trustedReference_35, eX5_trustedReference_38, eX5_trustedReference_39, eX5_trustedReference_42, eX5_trustedReference_43, eX5_trustedReference_45, eX5_trustedReference_47, eX5_trustedReference_50, eX5_trustedReference_51, eX5_trustedReference_54, eX5_trustedReference_55, eX5_trustedReference_56, eX5_trustedReference_57, eX5_trustedReference_60, eX5_trustedReference_61, eX5_trustedReference_62, eX5_trustedReference_65, eX5_trustedReference_68, eX5_trustedReference_69, gX5_5 lg, gX5_8 lg, h1, h3, h5, e2, e3, qA500, vp500 (show m < 500 by omega), nIc (show m < 500 by omega), true_and, qOk, one0, eq_self, or_true, true_or, not_true_eq_false, not_false_eq_true, true_imp_iff, false_imp_iff, true_and, and_true, Classical.not_not]
    refine ⟨fun h => ?_, fun h => ?_⟩
    · have : ¬ n - m ≤ 15 := by
        have := (nI_ltI (by omega) (by omega)).mp h
        omega
      rw [if_neg this] at hR
      exact hR
    · have : n - m ≤ 15 := by
        rcases Nat.lt_or_ge m (n - 15) with q | q
        · exact absurd (nI_lt q (by omega)) h
        · omega
      rw [if_pos this] at hR
      by_cases g : mI μ (o + 2) m = 1
      · rw [if_pos (Or.inl g)] at hR
        exact ⟨fun _ => ⟨fun h => absurd g h, fun _ => hR⟩, fun _ => ⟨fun _ => ⟨fun h => absurd g h, fun _ => hR⟩, fun _ => hR⟩⟩
      · by_cases g2 : 0 < x1
        · by_cases g3 : x1 ≤ nI (n - m)
          · rw [if_pos (Or.inr ⟨g2, g3⟩)] at hR
            exact ⟨fun h => absurd g2 (Int32.not_lt.mpr h), fun _ => ⟨fun h => absurd g3 (Int32.not_le.mpr h), fun _ => hR⟩⟩
          · rw [if_neg (fun q => q.elim g (fun z => g3 z.2))] at hR
            exact ⟨fun h => absurd g2 (Int32.not_lt.mpr h), fun _ => ⟨fun _ => ⟨fun _ => ih (by omega) hR _, fun h => absurd h g⟩, fun h => absurd (Int32.not_le.mp g3) h⟩⟩
        · rw [if_neg (fun q => q.elim g (fun z => g2 z.1))] at hR
          exact ⟨fun _ => ⟨fun _ => ih (by omega) hR _, fun h => absurd h g⟩, fun h => absurd (Int32.not_lt.mp g2) h⟩
theorem xX5_trustedReference (o : Nat) (x1 : Int32) (μ : qMM) (ht : ∃ t, mS μ o = some (.inl (4, t))) (hp : PX5_trustedReference o x1 μ) : EX (SX5_trustedReference (rti 0 0 (QX5_trustedReference o x1 μ)) (fun _ _ _ => False)) 0 [some (.ref o), some (.int x1), none, none, none] [] [] μ (0, 0) := by
  obtain ⟨⟨lg, h0⟩, n, hn, hl⟩ := hp
  obtain ⟨h1, h2, h3, h4, h6⟩ := id h0
  have h := xX5_trustedReference_l o n lg x1 μ h0 hn hl (rti 0 0 (QX5_trustedReference o x1 μ)) (fun _ _ _ => False) n (Nat.le_refl _) (by simp [rti_at, QX5_trustedReference, truC, hl, nI_clamp (show n < 2 ^ 31 by omega)])
  simp only [eX5_trustedReference_0, eX5_trustedReference_1, eX5_trustedReference_2, eX5_trustedReference_5, eX5_trustedReference_7, eX5_trustedReference_8, eX5_trustedReference_11, eX5_trustedReference_12, eX5_trustedReference_13, eX5_trustedReference_16, eX5_trustedReference_17, eX5_trustedReference_18, gX5_5 lg, h1, hl, true_and, List.length_nil, List.length_cons, ll0, ll1, ll2, ll3, ll4, Nat.le_refl, and_true]
  have e : (if (0 : Int32) < nI n - 15 then nI n - 15 else 0) = nI (n - 15) := by
    rcases Nat.lt_or_ge 15 n with g | g
    · have : nI n - 15 = nI (n - 15) := pk_sub (a := n) (b := 15) (by omega)
      rw [this, if_pos (show (0 : Int32) < nI (n - 15) from nI_lt (a := 0) (by omega) (by omega))]
    · rw [show n - 15 = 0 by omega, if_neg]
      · rfl
      · rw [Int32.lt_iff_toInt_lt, show (15 : Int32) = nI 15 from rfl, pk_sub_toInt (by omega) (by decide)]
        show ¬ (0 : Int) < _
        omega
  rw [e]
  exact h _
theorem xX5_copyFrom (o : Nat) (x1 : Nat) (μ : qMM) (ht : ∃ t, mS μ o = some (.inl (4, t))) (hp : PX5_copyFrom o x1 μ) : EX (SX5_copyFrom (rtv 0 0 (QX5_copyFrom o x1 μ)) (fun _ _ _ => False)) 0 [some (.ref o), some (.ref x1)] [] [] μ (0, 0) := by
  obtain ⟨⟨lg, a0, b0⟩, ⟨n, hn, hl⟩, hb, hN, hd⟩ := hp
  obtain ⟨a1, a2, a3, a4, a5⟩ := id a0
  obtain ⟨b1, b2, b3, b4, b5⟩ := id b0
  have d1 : x1 ≠ o := by omega
  have d2 : x1 ≠ o + 1 := by omega
  have d3 : x1 + 2 ≠ o := by omega
  have d4 : x1 + 2 ≠ o + 1 := by omega
  simp only [eX5_copyFrom_0, eX5_copyFrom_1, eX5_copyFrom_4, eX5_copyFrom_5, eX5_copyFrom_8, eX5_copyFrom_11, eX5_copyFrom_12, eX5_copyFrom_13, eX5_copyFrom_16, eX5_copyFrom_19, eX5_copyFrom_20, eX5_copyFrom_21, eX5_copyFrom_24, eX5_copyFrom_27, eX5_copyFrom_28, eX5_copyFrom_29, eX5_copyFrom_32, eX5_copyFrom_35, eX5_copyFrom_36, eX5_copyFrom_37, eX5_copyFrom_40, eX5_copyFrom_43, eX5_copyFrom_44, eX5_copyFrom_45, eX5_copyFrom_48, eX5_copyFrom_51, eX5_copyFrom_52, eX5_copyFrom_53, eX5_copyFrom_56, eX5_copyFrom_59, eX5_copyFrom_60, eX5_copyFrom_63, eX5_copyFrom_64, eX5_copyFrom_65, eX5_copyFrom_68, eX5_copyFrom_69, eX5_copyFrom_70, eX5_copyFrom_73, eX5_copyFrom_76, rtv_at, rti_at, rtj_at, rtd_at, rta_at, qOk, qOkR, gX5_1 lg, gX5_2 lg, gX5_3 lg, gX5_4 lg, gX5_5 lg, gX5_6 lg, gX5_7 lg, gX5_8 lg, pX5_2 lg, pX5_3 lg, pX5_4 lg, pX5_5 lg, pX5_6 lg, pX5_7 lg, a1, b1, PX3_copyRow, QX3_copyRow, a2, b2, hN, obX5_wR, obX5_wI, true_and, forall_eq, QX5_copyFrom, wI_def, wR_wR, mI_wR, if_neg d1, if_neg d2, if_neg d3, if_neg d4, if_neg (show ¬ o = o + 1 by omega), if_neg (show ¬ o + 2 = o + 1 by omega), if_neg (show ¬ o + 2 = o by omega), if_pos, hb, List.length_nil, List.length_cons, ll0, ll1, ll2, ll3, ll4, Nat.le_refl, and_true]
  have e5 : upd (upd (upd (upd (upd (upd (mI μ o) 2 (mI μ x1 2)) 3 (mI μ x1 3)) 4 (mI μ x1 4)) 5 (mI μ x1 5)) 6 (mI μ x1 6)) 7 (mI μ x1 7) 5 = nI n := by
    rw [upd_n (by decide), upd_n (by decide), upd_s, hl]
  have ef : upd (upd (upd (upd (upd (upd (mI μ o) 2 (mI μ x1 2)) 3 (mI μ x1 3)) 4 (mI μ x1 4)) 5 (mI μ x1 5)) 6 (mI μ x1 6)) 7 (mI μ x1 7) = cpS (mI μ x1) (mI μ o) := by
    funext k
    unfold cpS
    simp only [updE]
    by_cases g : 2 ≤ k ∧ k ≤ 7
    · rw [if_pos g]
      rcases (by omega : k = 2 ∨ k = 3 ∨ k = 4 ∨ k = 5 ∨ k = 6 ∨ k = 7) with rfl | rfl | rfl | rfl | rfl | rfl <;> rfl
    · rw [if_neg g, if_neg (by omega), if_neg (by omega), if_neg (by omega), if_neg (by omega), if_neg (by omega), if_neg (by omega)]
  rw [e5, ef, hl, nI_clamp (by omega)]
  refine ⟨⟨500, 500, _, _, b3, a3, by decide, by decide, nI_pos (by omega), ?_, ?_, hN⟩, rfl⟩ <;> (show 0 + n ≤ 500; omega)
theorem sizeFrom_Q {μ : qMM} {lg o : Nat} (h0 : SeS μ lg o) {x1 x2 r : Int32} {μ' : qMM} : QX5_sizeFrom o x1 x2 μ r μ' = (r = (if x1 = -1 then 12 else sizeC (rlC μ lg o x1 x2)) ∧ μ' = (if x1 = -1 then μ else wR (wR μ (o + 3) (bsC μ lg o x1 x2)) (o + 4) (rlC μ lg o x1 x2))) := by
  apply propext
  refine ⟨fun h => h lg h0, fun h lg' h' => ?_⟩
  have : lg' = lg := by
    have := h'.1.symm.trans h0.1
    simpa using this
  subst this
  exact h
theorem SeS_lg {μ : qMM} {lg lg' o : Nat} (h : SeS μ lg o) (h' : SeS μ lg' o) : lg' = lg := by
  have := h'.1.symm.trans h.1
  simpa using this
theorem Sm_refl {μ : qMM} : Sm μ μ := ⟨mI μ, by cases μ; rfl⟩
theorem Sm_wR {μ ν : qMM} {a : Nat} {f : Nat → Int32} (h : Sm μ ν) : Sm μ (wR ν a f) := by
  obtain ⟨F, rfl⟩ := h
  rw [wR_wA, wA_wA]
  exact ⟨_, rfl⟩
theorem Sm_trans {μ ν ξ : qMM} (h : Sm μ ν) (k : Sm ν ξ) : Sm μ ξ := by
  obtain ⟨F, rfl⟩ := h
  obtain ⟨G, rfl⟩ := k
  rw [wA_wA]
  exact ⟨_, rfl⟩
theorem SndFx_car {μ μ' : qMM} {lg o n r : Nat} {u z form : Int32} {c c' : Nat → Int32} (h : ¬ u = -1 → ∀ j, j < 4 → c j = c' j) (fx : SndFx μ μ' lg o n r u z form c) : SndFx μ μ' lg o n r u z form c' := by
  obtain ⟨h1, h2, h3, h4, h5, h6, h7, h8, h9, h10⟩ := fx
  exact ⟨h1, h2, h3, h4, h5, h6, h7, h8, fun g j hj => by rw [← h g j hj]; exact h9 g j hj, h10⟩
abbrev useN (μ : qMM) (o : Nat) : Int32 := useC μ o (mI μ o 2) (mI μ o 3)
/-- the same out of the memory alone -/
theorem snd_mem {μ μ' : qMM} {lg o n : Nat} {s : Nat → Int32} (hP : SeP μ lg o s) (h9 : s 9 = nI n) (hn : n < 500) (fx : SndFx μ μ' lg o n (useN μ o).toNatClampNeg (useN μ o) (if useN μ o = -1 then 12 else sizeC (rlC μ lg o (useN μ o) (mI μ o 2))) (if useN μ o = -1 then 0 else mI μ o 2) (rlC μ lg o (useN μ o) (mI μ o 2))) :
    SnR μ' o (sndS s) ∧ LgR μ' lg (sndS s) ∧ StU μ μ' o 5 lg n := by
  obtain ⟨h0, hl, hd, hS, hL, hA, hD, hN⟩ := id hP
  obtain ⟨e1, e2, e3, e4, e5, e6, e7, ea⟩ := id hS
  obtain ⟨q1, q2, q3⟩ := ref_ok h9 (show n ≤ 500 by omega)
  have hu : useN μ o = if formF s = 0 then -1 else refF s := (use_eq hS h9 (by omega) hD.2.2.2.1).2
  have hun : useN μ o = -1 ↔ formF s = 0 := by
    rw [hu]
    by_cases g : formF s = 0
    · simp [g]
    · rw [if_neg g]
      rcases q3 with h | ⟨-, h⟩
      · exact absurd h g
      · exact ⟨fun z => absurd z h, fun z => absurd z g⟩
  have hr : ¬ useN μ o = -1 → useN μ o = nI (useN μ o).toNatClampNeg ∧ (useN μ o).toNatClampNeg < n := fun g => by
    have g' : ¬ formF s = 0 := fun z => g (hun.mpr z)
    rw [hu, if_neg g']
    obtain ⟨r, w1, w2, w3⟩ := q2.resolve_left (q3.resolve_left g').2
    rw [w3, nI_clamp (by omega)]
    exact ⟨rfl, w1⟩
  have hc : ¬ useN μ o = -1 → ∀ j, j < 4 → rlC μ lg o (useN μ o) (mI μ o 2) j = putC (mI μ (o + 1)) (putB (formF s) (s 9 - refF s) (mI μ (lg + 2 + (useN μ o).toNatClampNeg)) (mI μ (o + 3))) (mI μ (o + 4)) j := fun g j hj => by
    have g' : ¬ formF s = 0 := fun z => g (hun.mpr z)
    unfold rlC bsC
    rw [e5, e2, (q3.resolve_left g').1, show refF s = useN μ o by rw [hu, if_neg g']]
  have hform : (if useN μ o = -1 then 0 else mI μ o 2) = formF s := by
    by_cases g : formF s = 0
    · rw [if_pos (hun.mpr g), g]
    · rw [if_neg (fun z => g (hun.mp z)), e2]
      exact ((q3.resolve_left g).1).symm
  rw [hform] at fx
  refine snd_key (old := mI μ (o + 3)) (old' := mI μ (o + 4)) hP h9 hn hu hr ?_ rfl rfl (SndFx_car hc fx)
  · unfold sizeF
    by_cases g : formF s = 0
    · rw [if_pos (hun.mpr g), if_pos g]
    · have g2 := fun z => g (hun.mp z)
      rw [if_neg g2, if_neg g, ← size_eq (old := mI μ (o + 3)) (old' := mI μ (o + 4)) hD.2.2.2.2.1 hD.2.2.2.2.2]
      have er : refF s = useN μ o := by rw [hu, if_neg g]
      have wr := hr g2
      refine sizeC_congr fun j hj => ?_
      rw [hc g2 j hj, er]
      refine putC_congr (fun k hk => e1 k (by omega)) (fun k hk => putB_congr (fun i hi => ?_) (by omega)) hj
      exact (hL _ (by rw [q1]; exact wr.2)).1 i hi
theorem xX5_sendPresent (o : Nat) (μ : qMM) (ht : ∃ t, mS μ o = some (.inl (4, t))) (hp : PX5_sendPresent o μ) : EX (SX5_sendPresent (rti 0 0 (QX5_sendPresent o μ)) (fun _ _ _ => False)) 0 [some (.ref o), none, none, none] [] [] μ (0, 0) := by
  obtain ⟨lg, s, hP, n, hn, h9⟩ := hp
  obtain ⟨h0, hl, hd, hS, hL, hA, hD, hN⟩ := id hP
  obtain ⟨e1, e2, e3, e4, e5, e6, e7, ea⟩ := id hS
  have h59 : mI μ o 5 = nI n := by rw [e5, h9]
  have key : ∀ (μ' : qMM), SndFx μ μ' lg o n (useN μ o).toNatClampNeg (useN μ o) (if useN μ o = -1 then 12 else sizeC (rlC μ lg o (useN μ o) (mI μ o 2))) (if useN μ o = -1 then 0 else mI μ o 2) (rlC μ lg o (useN μ o) (mI μ o 2)) → QX5_sendPresent o μ (nI n) μ' := by
    intro μ' fx lg' s' hP' hn'
    have hlg := SeS_lg h0 hP'.1
    subst hlg
    have h9' : s' 9 = nI n := by rw [← hP'.2.2.2.1.2.2.2.2.1, h59]
    have en : nOf s' = n := by unfold nOf; rw [h9', nI_clamp (by omega)]
    obtain ⟨k1, k2, k3⟩ := snd_mem hP' h9' hn fx
    rw [en]
    exact ⟨h9'.symm, fx.1, k1, k2, k3⟩
  have hun := (use_eq hS h9 (by omega) hD.2.2.2.1).2
  obtain ⟨q1, q2, q3⟩ := ref_ok h9 (show n ≤ 500 by omega)
  have hur : useC μ o (mI μ o 2) (mI μ o 3) = -1 ∨ ∃ r, r < n ∧ useC μ o (mI μ o 2) (mI μ o 3) = nI r := by
    rw [hun]
    by_cases g : formF s = 0
    · exact Or.inl (if_pos g)
    · obtain ⟨r, w1, w2, w3⟩ := q2.resolve_left (q3.resolve_left g).2
      exact Or.inr ⟨r, w1, by rw [if_neg g, w3]⟩
  obtain ⟨h1, h2, h3, h4, h5⟩ := id h0
  obtain ⟨l1, l2, l3, l4, l5, l6, l7, l8⟩ := id hl
  have ht := tX5 lg h1
  have b1 := l7 n hn
  have b2 := l8 n hn
  have p1 : PX5_usedReference o (mI μ o 2) (mI μ o 3) μ := ⟨⟨lg, h0⟩, n, by omega, h59⟩
  have p2 : ∀ x2, PX5_sizeFrom o (useC μ o (mI μ o 2) (mI μ o 3)) x2 μ := fun x2 => ⟨⟨lg, h0, hl, hd⟩, hur.imp id (fun ⟨r, hr, e⟩ => ⟨r, by omega, e⟩), hN⟩
  unfold useN at key
  rcases hur with hu | ⟨r, hr, hu⟩
  · rw [hu] at key p2
    simp only [eX5_sendPresent_0, eX5_sendPresent_1, eX5_sendPresent_4, eX5_sendPresent_5, eX5_sendPresent_6, eX5_sendPresent_7, eX5_sendPresent_10, eX5_sendPresent_11, eX5_sendPresent_14, eX5_sendPresent_17, eX5_sendPresent_18, eX5_sendPresent_19, eX5_sendPresent_20, eX5_sendPresent_21, eX5_sendPresent_24, eX5_sendPresent_27, eX5_sendPresent_28, eX5_sendPresent_29, eX5_sendPresent_32, eX5_sendPresent_33, eX5_sendPresent_36, eX5_sendPresent_39, eX5_sendPresent_40, eX5_sendPresent_41, eX5_sendPresent_44, eX5_sendPresent_45, eX5_sendPresent_46, eX5_sendPresent_49, eX5_sendPresent_50i, eX5_sendPresent_50r, eX5_sendPresent_51, eX5_sendPresent_54, eX5_sendPresent_55, eX5_sendPresent_56, eX5_sendPresent_59, eX5_sendPresent_62, eX5_sendPresent_63, eX5_sendPresent_66, eX5_sendPresent_69, eX5_sendPresent_70, eX5_sendPresent_71, eX5_sendPresent_72, eX5_sendPresent_73, eX5_sendPresent_76, eX5_sendPresent_77, eX5_sendPresent_78, eX5_sendPresent_79, eX5_sendPresent_80, eX5_sendPresent_83, eX5_sendPresent_86, eX5_sendPresent_87, eX5_sendPresent_88, eX5_sendPresent_89, eX5_sendPresent_90, eX5_sendPresent_93, eX5_sendPresent_94, eX5_sendPresent_95, eX5_sendPresent_96, eX5_sendPresent_97, eX5_sendPresent_100, eX5_sendPresent_101, eX5_sendPresent_102, eX5_sendPresent_105, eX5_sendPresent_108, eX5_sendPresent_109, eX5_sendPresent_110, eX5_sendPresent_111, eX5_sendPresent_112, eX5_sendPresent_115, eX5_sendPresent_116, eX5_sendPresent_119, eX5_sendPresent_122, eX5_sendPresent_123, eX5_sendPresent_124, eX5_sendPresent_125, eX5_sendPresent_128, eX5_sendPresent_129, eX5_sendPresent_132, eX5_sendPresent_133, eX5_sendPresent_136, eX5_sendPresent_137, eX5_sendPresent_138, eX5_sendPresent_141, eX5_sendPresent_144, eX5_sendPresent_145, eX5_sendPresent_146, eX5_sendPresent_147, eX5_sendPresent_148, eX5_sendPresent_151, eX5_sendPresent_154, eX5_sendPresent_155, eX5_sendPresent_156, eX5_sendPresent_157, eX5_sendPresent_158, eX5_sendPresent_161, eX5_sendPresent_162, eX5_sendPresent_163, eX5_sendPresent_164, eX5_sendPresent_165i, eX5_sendPresent_165r, eX5_sendPresent_166, eX5_sendPresent_169, eX5_sendPresent_170, eX5_sendPresent_171, eX5_sendPresent_174, eX5_sendPresent_175i, eX5_sendPresent_175r, eX5_sendPresent_176, eX5_sendPresent_179, eX5_sendPresent_180, eX5_sendPresent_181, eX5_sendPresent_184, eX5_sendPresent_185, eX5_sendPresent_186, eX5_sendPresent_189, eX5_sendPresent_190, rtv_at, rti_at, rtj_at, rtd_at, rta_at, qOk, qOkR, gX5_0 lg, gX5_1 lg, gX5_2 lg, gX5_3 lg, gX5_4 lg, gX5_5 lg, gX5_6 lg, gX5_7 lg, gX5_8 lg, gX5_9 lg, gX5_10 lg, pX5_4 lg, pX5_5 lg, pX5_6 lg, pX5_7 lg, gX1_0, gX1_1, gX1_2, gX1_3, gX1_4, h1, h2, l1, l2, l3, l4, l5, l6, b1, h3, hN, ht, p1, p2, hu, h59, h0, QX5_usedReference, sizeFrom_Q h0, PX3_copyRow, QX3_copyRow, forall_eq, qAal_rec (lg := lg), qAal_car (lg := lg), qA500, vp500 hn, nIc hn, obX5_wR, obX5_wI, obX1_wR, obX1_wI, iA_wR, iA_wI, qa2, if_true, if_false, List.length_nil, List.length_cons, ll0, ll1, ll2, ll3, ll4, Nat.le_refl, and_true, one0, eq_self, or_true, true_or, not_true_eq_false, not_false_eq_true, true_imp_iff, false_imp_iff, true_and, and_true, Classical.not_not]
    apply key
    refine ⟨?_, ⟨?_, ?_, ?_, ?_, ?_, ?_⟩, ?_, ?_, fun j hj => ?_, ?_, ?_, ?_, fun h => absurd rfl h, fun b z1 z2 z3 z4 z5 z6 z7 z8 z9 => ?_⟩
    · simp only [wI_def]
      repeat (first | exact Sm_refl | apply Sm_wR)
    · simp (disch := omega) only [wI_def, mI_wR_s, mI_wR_n, upd_s, upd_n]
    · simp (disch := omega) only [wI_def, mI_wR_s, mI_wR_n, upd_s, upd_n]
    · simp (disch := omega) only [wI_def, mI_wR_s, mI_wR_n, upd_s, upd_n]
    · simp (disch := omega) only [wI_def, mI_wR_s, mI_wR_n, upd_s, upd_n]
    · simp (disch := omega) only [wI_def, mI_wR_s, mI_wR_n, upd_s, upd_n, if_true]
    · simp (disch := omega) only [wI_def, mI_wR_s, mI_wR_n, upd_s, upd_n, if_true]
    · simp (disch := omega) only [wI_def, mI_wR_s, mI_wR_n, upd_s, upd_n]
    · simp (disch := omega) only [wI_def, mI_wR_s, mI_wR_n, upd_s, upd_n]
    · simp (disch := omega) only [wI_def, mI_wR_s, mI_wR_n, upd_s, upd_n, cpyE, if_true, or_true]
      rw [if_pos (by omega)]
      congr 1
      omega
    · simp (disch := omega) only [wI_def, mI_wR_s, mI_wR_n, if_true]
    · simp (disch := omega) only [wI_def, mI_wR_s, mI_wR_n]
    · simp (disch := omega) only [wI_def, mI_wR_s, mI_wR_n, if_true]
    · simp (disch := omega) only [wI_def, mI_wR_s, mI_wR_n]
  · have hr1 : ¬ nI r = -1 := nI_m1 (by omega)
    have b3 := l7 r (by omega)
    rw [hu] at key p2
    simp only [if_neg hr1, nIc (show r < 500 by omega)] at key
    simp only [eX5_sendPresent_0, eX5_sendPresent_1, eX5_sendPresent_4, eX5_sendPresent_5, eX5_sendPresent_6, eX5_sendPresent_7, eX5_sendPresent_10, eX5_sendPresent_11, eX5_sendPresent_14, eX5_sendPresent_17, eX5_sendPresent_18, eX5_sendPresent_19, eX5_sendPresent_20, eX5_sendPresent_21, eX5_sendPresent_24, eX5_sendPresent_27, eX5_sendPresent_28, eX5_sendPresent_29, eX5_sendPresent_32, eX5_sendPresent_33, eX5_sendPresent_36, eX5_sendPresent_39, eX5_sendPresent_40, eX5_sendPresent_41, eX5_sendPresent_44, eX5_sendPresent_45, eX5_sendPresent_46, eX5_sendPresent_49, eX5_sendPresent_50i, eX5_sendPresent_50r, eX5_sendPresent_51, eX5_sendPresent_54, eX5_sendPresent_55, eX5_sendPresent_56, eX5_sendPresent_59, eX5_sendPresent_62, eX5_sendPresent_63, eX5_sendPresent_66, eX5_sendPresent_69, eX5_sendPresent_70, eX5_sendPresent_71, eX5_sendPresent_72, eX5_sendPresent_73, eX5_sendPresent_76, eX5_sendPresent_77, eX5_sendPresent_78, eX5_sendPresent_79, eX5_sendPresent_80, eX5_sendPresent_83, eX5_sendPresent_86, eX5_sendPresent_87, eX5_sendPresent_88, eX5_sendPresent_89, eX5_sendPresent_90, eX5_sendPresent_93, eX5_sendPresent_94, eX5_sendPresent_95, eX5_sendPresent_96, eX5_sendPresent_97, eX5_sendPresent_100, eX5_sendPresent_101, eX5_sendPresent_102, eX5_sendPresent_105, eX5_sendPresent_108, eX5_sendPresent_109, eX5_sendPresent_110, eX5_sendPresent_111, eX5_sendPresent_112, eX5_sendPresent_115, eX5_sendPresent_116, eX5_sendPresent_119, eX5_sendPresent_122, eX5_sendPresent_123, eX5_sendPresent_124, eX5_sendPresent_125, eX5_sendPresent_128, eX5_sendPresent_129, eX5_sendPresent_132, eX5_sendPresent_133, eX5_sendPresent_136, eX5_sendPresent_137, eX5_sendPresent_138, eX5_sendPresent_141, eX5_sendPresent_144, eX5_sendPresent_145, eX5_sendPresent_146, eX5_sendPresent_147, eX5_sendPresent_148, eX5_sendPresent_151, eX5_sendPresent_154, eX5_sendPresent_155, eX5_sendPresent_156, eX5_sendPresent_157, eX5_sendPresent_158, eX5_sendPresent_161, eX5_sendPresent_162, eX5_sendPresent_163, eX5_sendPresent_164, eX5_sendPresent_165i, eX5_sendPresent_165r, eX5_sendPresent_166, eX5_sendPresent_169, eX5_sendPresent_170, eX5_sendPresent_171, eX5_sendPresent_174, eX5_sendPresent_175i, eX5_sendPresent_175r, eX5_sendPresent_176, eX5_sendPresent_179, eX5_sendPresent_180, eX5_sendPresent_181, eX5_sendPresent_184, eX5_sendPresent_185, eX5_sendPresent_186, eX5_sendPresent_189, eX5_sendPresent_190, rtv_at, rti_at, rtj_at, rtd_at, rta_at, qOk, qOkR, gX5_0 lg, gX5_1 lg, gX5_2 lg, gX5_3 lg, gX5_4 lg, gX5_5 lg, gX5_6 lg, gX5_7 lg, gX5_8 lg, gX5_9 lg, gX5_10 lg, pX5_4 lg, pX5_5 lg, pX5_6 lg, pX5_7 lg, gX1_0, gX1_1, gX1_2, gX1_3, gX1_4, h1, h2, h4, h5, l1, l2, l3, l4, l5, l6, b1, b2, b3, h3, hN, ht, p1, p2, hu, hr1, h59, h0, QX5_usedReference, sizeFrom_Q h0, PX3_copyRow, QX3_copyRow, forall_eq, qAal_rec (lg := lg), qAal_car (lg := lg), qA6, v46, v56, ci4, ci5, qA500, vp500 hn, nIc hn, obX5_wR, obX5_wI, obX1_wR, obX1_wI, oA_wR, oA_wI, iA_wR, iA_wI, mN_wR, mN_wI, qa2, if_true, if_false, List.length_nil, List.length_cons, ll0, ll1, ll2, ll3, ll4, Nat.le_refl, and_true, one0, eq_self, or_true, true_or, not_true_eq_false, not_false_eq_true, true_imp_iff, false_imp_iff, true_and, and_true, Classical.not_not]
    refine ⟨⟨4, 4, _, _, h5, b2, by decide, by decide, by decide, by decide, by decide⟩, key _ ?_⟩
    refine ⟨?_, ⟨?_, ?_, ?_, ?_, ?_, ?_⟩, ?_, ?_, fun j hj => ?_, ?_, ?_, ?_, fun h j hj => ?_, fun b z1 z2 z3 z4 z5 z6 z7 z8 z9 => ?_⟩
    · simp only [wI_def]
      repeat (first | exact Sm_refl | apply Sm_wR)
    · simp (disch := omega) only [wI_def, mI_wR_s, mI_wR_n, upd_s, upd_n]
    · simp (disch := omega) only [wI_def, mI_wR_s, mI_wR_n, upd_s, upd_n]
    · simp (disch := omega) only [wI_def, mI_wR_s, mI_wR_n, upd_s, upd_n]
    · simp (disch := omega) only [wI_def, mI_wR_s, mI_wR_n, upd_s, upd_n]
    · simp (disch := omega) only [wI_def, mI_wR_s, mI_wR_n, upd_s, upd_n, hr1, if_false, Int32.add_zero]
    · simp (disch := omega) only [wI_def, mI_wR_s, mI_wR_n, upd_s, upd_n, hr1, if_false]
    · simp (disch := omega) only [wI_def, mI_wR_s, mI_wR_n, upd_s, upd_n]
    · simp (disch := omega) only [wI_def, mI_wR_s, mI_wR_n, upd_s, upd_n]
    · simp (disch := omega) only [wI_def, mI_wR_s, mI_wR_n, cpyE, hr1, or_false]
      rcases (by omega : j = 0 ∨ j = 1 ∨ j = 2 ∨ j = 3 ∨ j = 4 ∨ j = 5) with rfl | rfl | rfl | rfl | rfl | rfl
      all_goals simp (disch := omega) only [upd_s, upd_n, cpyE]
      · rfl
      · rfl
      · rfl
      · rfl
      · unfold bsC
        rw [putB_at (by decide), nIc (show r < 500 by omega)]
        simp
      · unfold bsC
        rw [putB_at (by decide), nIc (show r < 500 by omega)]
        simp
    · simp (disch := omega) only [wI_def, mI_wR_s, mI_wR_n]
    · simp (disch := omega) only [wI_def, mI_wR_s, mI_wR_n]
    · simp (disch := omega) only [wI_def, mI_wR_s, mI_wR_n]
    · simp (disch := omega) only [wI_def, mI_wR_s, mI_wR_n, cpyE, ci0, ci4]
      rw [if_pos (by omega)]
      congr 1
      omega
    · simp (disch := omega) only [wI_def, mI_wR_s, mI_wR_n]
/-! the digest of a sender -/
def dGk (v : Nat → Int32) (h : Int64) : Nat → Int64
  | 0 => h
  | w + 1 => mixF (dGk v h w) (v w)
def dGs (v : Nat → Nat → Int32) (h : Int64) : Nat → Int64
  | 0 => h
  | p + 1 => dGk (v p) (dGs v h p) 8
theorem dGk_congr {v v' : Nat → Int32} {h : Int64} : ∀ n, (∀ k, k < n → v k = v' k) → dGk v h n = dGk v' h n
  | 0, _ => rfl
  | n + 1, e => by
    unfold dGk
    rw [dGk_congr n (fun k hk => e k (by omega)), e n (by omega)]
theorem dGs_congr {v v' : Nat → Nat → Int32} {h : Int64} : ∀ n, (∀ p, p < n → ∀ k, k < 8 → v p k = v' p k) → dGs v h n = dGs v' h n
  | 0, _ => rfl
  | n + 1, e => by
    unfold dGs
    rw [dGs_congr n (fun p hp => e p (by omega)), dGk_congr 8 (e n (by omega))]
theorem mixL_G {s : Nat → Int32} {a : Nat} {h : Int64} : ∀ n, mixL s a h n = dGk (fun k => s (a + k)) h n
  | 0 => rfl
  | n + 1 => by
    unfold mixL dGk
    rw [mixL_G n]
def hdC (μ : qMM) (o : Nat) : Nat → Int32 := fun k => if k < 6 then mI μ (o + 1) k else mI μ o (k - 4)
theorem sntV_Q {μ : qMM} {lg o : Nat} (h0 : SeS μ lg o) {x1 x2 r : Int32} {μ' : qMM} : QX5_sentValue o x1 x2 μ r μ' = (r = sntC μ lg o x1.toNatClampNeg x2.toNatClampNeg ∧ μ' = μ) := by
  apply propext
  refine ⟨fun h => ⟨h.1 lg h0, h.2⟩, fun h => ⟨fun lg' h' => ?_, h.2⟩⟩
  rw [SeS_lg h0 h']
  exact h.1