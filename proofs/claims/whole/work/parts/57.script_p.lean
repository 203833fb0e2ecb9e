/-! ===== bodies: the script ===== -/
theorem xX4_isPlainLetter (x1 : Int32) (μ : qMM) (hp : PX4_isPlainLetter x1 μ) : EX (SX4_isPlainLetter (rti 0 0 (QX4_isPlainLetter x1 μ)) (fun _ _ _ => False)) 0 [some (.int x1)] [] [] μ (0, 0) := by
  simp only [eX4_isPlainLetter_0, eX4_isPlainLetter_1, eX4_isPlainLetter_3, eX4_isPlainLetter_6, eX4_isPlainLetter_7, eX4_isPlainLetter_9, eX4_isPlainLetter_12, eX4_isPlainLetter_13, eX4_isPlainLetter_16, eX4_isPlainLetter_17, rtv_at, rti_at, rtj_at, rtd_at, rta_at, qOk, qOkR, QX4_isPlainLetter, qOk, List.length_nil, List.length_cons, ll0, ll1, ll2, ll3, ll4, Nat.le_refl, and_true, one0, eq_self, or_true, true_or, not_true_eq_false, not_false_eq_true, true_imp_iff, false_imp_iff, true_and, and_true, Classical.not_not]
  by_cases h1 : x1 = 110 <;> by_cases h2 : x1 = 115 <;> simp [h1, h2]
theorem xX4_isNumberedLetter (x1 : Int32) (μ : qMM) (hp : PX4_isNumberedLetter x1 μ) : EX (SX4_isNumberedLetter (rti 0 0 (QX4_isNumberedLetter x1 μ)) (fun _ _ _ => False)) 0 [some (.int x1)] [] [] μ (0, 0) := by
  simp only [eX4_isNumberedLetter_0, eX4_isNumberedLetter_1, eX4_isNumberedLetter_3, eX4_isNumberedLetter_6, eX4_isNumberedLetter_7, eX4_isNumberedLetter_9, eX4_isNumberedLetter_12, eX4_isNumberedLetter_13, eX4_isNumberedLetter_15, eX4_isNumberedLetter_18, eX4_isNumberedLetter_19, eX4_isNumberedLetter_21, eX4_isNumberedLetter_24, eX4_isNumberedLetter_25, eX4_isNumberedLetter_27, eX4_isNumberedLetter_30, eX4_isNumberedLetter_31, eX4_isNumberedLetter_34, eX4_isNumberedLetter_35, rtv_at, rti_at, rtj_at, rtd_at, rta_at, qOk, qOkR, QX4_isNumberedLetter, qOk, List.length_nil, List.length_cons, ll0, ll1, ll2, ll3, ll4, Nat.le_refl, and_true, one0, eq_self, or_true, true_or, not_true_eq_false, not_false_eq_true, true_imp_iff, false_imp_iff, true_and, and_true, Classical.not_not]
  by_cases h1 : x1 = 100 <;> by_cases h2 : x1 = 108 <;> by_cases h3 : x1 = 99 <;> by_cases h4 : x1 = 97 <;> by_cases h5 : x1 = 120 <;> simp [h1, h2, h3, h4, h5]
theorem xX4_isDigit (x1 : Int32) (μ : qMM) (hp : PX4_isDigit x1 μ) : EX (SX4_isDigit (rti 0 0 (QX4_isDigit x1 μ)) (fun _ _ _ => False)) 0 [some (.int x1)] [] [] μ (0, 0) := by
  simp only [eX4_isDigit_0, eX4_isDigit_1, eX4_isDigit_3, eX4_isDigit_5, eX4_isDigit_8, rtv_at, rti_at, rtj_at, rtd_at, rta_at, qOk, qOkR, QX4_isDigit, PX8_inRange, QX8_inRange, qa2, qOk, List.length_nil, List.length_cons, ll0, ll1, ll2, ll3, ll4, Nat.le_refl, and_true, one0, eq_self, or_true, true_or, not_true_eq_false, not_false_eq_true, true_imp_iff, false_imp_iff, true_and, and_true, Classical.not_not]
  by_cases h1 : 48 ≤ x1 ∧ x1 ≤ 57 <;> simp [h1]
theorem vp50 {n : Nat} (h : n < 50) : vp_in (nI n) 50 := vp_in_nI h (by decide)
theorem xX4_addOrder (o : Nat) (x1 : Int32) (x2 : Int32) (μ : qMM) (ht : ∃ t, mS μ o = some (.inl (3, t))) (hp : PX4_addOrder o x1 x2 μ) : EX (SX4_addOrder (rtv 0 0 (QX4_addOrder o x1 x2 μ)) (fun _ _ _ => False)) 0 [some (.ref o), some (.int x1), some (.int x2)] [] [] μ (0, 0) := by
  obtain ⟨⟨h1, h2, h3, h4⟩, k, hk, hl⟩ := hp
  have e50 : ¬ (50 : Int32) ≤ nI k := fun z => by
    have := (nI_leI (a := 50) (by decide) (by omega)).mp z
    omega
  simp only [eX4_addOrder_0, eX4_addOrder_1, eX4_addOrder_4, eX4_addOrder_6, eX4_addOrder_9, eX4_addOrder_10, eX4_addOrder_13, eX4_addOrder_14, eX4_addOrder_17, eX4_addOrder_18, eX4_addOrder_19, eX4_addOrder_20, eX4_addOrder_23, eX4_addOrder_24, eX4_addOrder_27, eX4_addOrder_28, eX4_addOrder_29, eX4_addOrder_30i, eX4_addOrder_30r, eX4_addOrder_31, eX4_addOrder_34, eX4_addOrder_35, eX4_addOrder_36, eX4_addOrder_39, rtv_at, rti_at, rtj_at, rtd_at, rta_at, qOk, qOkR, gX4_2, gX4_3, gX4_4, pX4_4, h1, h3, h4, obX4_wI, obX4_wR, iA_wI, iA_wR, qA50, hl, wI_def, mI_wR_n (show o ≠ o + 2 by omega), mI_wR_n (show o ≠ o + 3 by omega), mI_wR_n (show o + 3 ≠ o + 2 by omega), vp50 hk, e50, QX4_addOrder, addO, List.length_nil, List.length_cons, ll0, ll1, ll2, ll3, ll4, Nat.le_refl, and_true, one0, eq_self, or_true, true_or, not_true_eq_false, not_false_eq_true, true_imp_iff, false_imp_iff, true_and, and_true, Classical.not_not]
theorem readT (o n b d : Nat) (c v : Int32) (t : Nat → Int32) (ν : qMM) (h0 : ScS ν o) (hd : d ≤ 2) (hb : b < n) (hn : n ≤ 100) (k : Nat) (hk : k < 50) (h4 : mI ν o 4 = nI k) (ht : ∃ t, mS ν o = some (.inl (3, t))) (R : Option Value → qMM → Nat × Nat → Prop) (X : String → qMM → Nat × Nat → Prop)
    (hS : (t b = 59 ∧ (0 < d ∨ isPla c)) → EX (SX4_readOrders R X) 14 [some (.ref o), some (.int (-1)), some (.int v), some (.int (nI d)), some (.int (nI (b + 1))), some (.int (t b))] [] [] (addO ν o c v) (0, 0))
    (hF : ¬ (t b = 59 ∧ (0 < d ∨ isPla c)) → R (some (.int (nI b))) ν (0, 0)) : EX (SX4_readOrders R X) 103 [some (.ref o), some (.int c), some (.int v), some (.int (nI d)), some (.int (nI b)), some (.int (t b))] [] [] ν (0, 0) := by
  have pa : PX4_addOrder o c v ν := ⟨h0, k, hk, h4⟩
  have hdd : (0 : Int32) < nI d ↔ 0 < d := nI_ltI (a := 0) (by decide) (by omega)
  simp only [eX4_readOrders_0, eX4_readOrders_1, eX4_readOrders_2, eX4_readOrders_5, eX4_readOrders_6, eX4_readOrders_7, eX4_readOrders_8, eX4_readOrders_9, eX4_readOrders_10, eX4_readOrders_11, eX4_readOrders_12, eX4_readOrders_16, eX4_readOrders_17, eX4_readOrders_20, eX4_readOrders_23, eX4_readOrders_24, eX4_readOrders_27, eX4_readOrders_29, eX4_readOrders_30, eX4_readOrders_32, eX4_readOrders_33, eX4_readOrders_34, eX4_readOrders_37, eX4_readOrders_39, eX4_readOrders_42, eX4_readOrders_45, eX4_readOrders_47, eX4_readOrders_50, eX4_readOrders_53, eX4_readOrders_55, eX4_readOrders_56, eX4_readOrders_58, eX4_readOrders_59, eX4_readOrders_60, eX4_readOrders_61, eX4_readOrders_62, eX4_readOrders_63, eX4_readOrders_66, eX4_readOrders_67, eX4_readOrders_70, eX4_readOrders_73, eX4_readOrders_74, eX4_readOrders_75, eX4_readOrders_78, eX4_readOrders_80, eX4_readOrders_83, eX4_readOrders_86, eX4_readOrders_88, eX4_readOrders_89, eX4_readOrders_90, eX4_readOrders_92, eX4_readOrders_93, eX4_readOrders_95, eX4_readOrders_96, eX4_readOrders_97, eX4_readOrders_100, eX4_readOrders_103, eX4_readOrders_105, eX4_readOrders_107, eX4_readOrders_110, eX4_readOrders_111, eX4_readOrders_114, eX4_readOrders_115, eX4_readOrders_118, eX4_readOrders_121, eX4_readOrders_122, eX4_readOrders_123, eX4_readOrders_124, eX4_readOrders_127, eX4_readOrders_128, eX4_readOrders_129, eX4_readOrders_132, eX4_readOrders_134, eX4_readOrders_135, eX4_readOrders_138, eX4_readOrders_141, eX4_readOrders_142, eX4_readOrders_143, eX4_readOrders_146, eX4_readOrders_147, eX4_readOrders_150, eX4_readOrders_151, eX4_readOrders_154, PX4_isPlainLetter, QX4_isPlainLetter, pa, QX4_addOrder, ht, qa2, forall_eq, hdd, nI_1, qOk, List.length_nil, List.length_cons, ll0, ll1, ll2, ll3, ll4, Nat.le_refl, and_true, one0, eq_self, or_true, true_or, not_true_eq_false, not_false_eq_true, true_imp_iff, false_imp_iff, true_and, and_true, Classical.not_not]
  by_cases g : t b = 59
  · by_cases g2 : 0 < d
    · exact ⟨fun z => absurd g z, fun _ => ⟨fun _ => hS ⟨g, Or.inl g2⟩, fun z => absurd g2 z⟩⟩
    · by_cases g3 : isPla c
      · simp only [if_pos g3, one0, eq_self, or_true, true_or, not_true_eq_false, not_false_eq_true, true_imp_iff, false_imp_iff, true_and, and_true, Classical.not_not]
        exact ⟨fun z => absurd g z, fun _ => ⟨fun z => absurd z g2, fun _ => hS ⟨g, Or.inr g3⟩⟩⟩
      · simp only [if_neg g3, one0, eq_self, or_true, true_or, not_true_eq_false, not_false_eq_true, true_imp_iff, false_imp_iff, true_and, and_true, Classical.not_not]
        exact ⟨fun z => absurd g z, fun _ => ⟨fun z => absurd z g2, fun _ => hF (fun z => z.2.elim g2 g3)⟩⟩
  · exact ⟨fun _ => hF (fun z => g z.1), fun z => absurd z g⟩
theorem readH (o n b : Nat) (c v : Int32) (dd a5 : Option Value) (ν : qMM) (h0 : ScS ν o) (hb : b ≤ n) (hn : n ≤ 100) (h1 : mI ν o 1 = nI n) (R : Option Value → qMM → Nat × Nat → Prop) (X : String → qMM → Nat × Nat → Prop)
    (hE : b = n → EX (SX4_readOrders R X) 141 [some (.ref o), some (.int c), some (.int v), dd, some (.int (nI b)), a5] [] [] ν (0, 0))
    (hS : b < n → EX (SX4_readOrders R X) 32 [some (.ref o), some (.int c), some (.int v), dd, some (.int (nI b)), some (.int (mI ν (o + 1) b))] [] [] ν (0, 0)) : EX (SX4_readOrders R X) 14 [some (.ref o), some (.int c), some (.int v), dd, some (.int (nI b)), a5] [] [] ν (0, 0) := by
  rw [eX4_readOrders_14]
  rcases Nat.lt_or_ge b n with g | g
  · have hlt : nI b < nI n := nI_lt g (by omega)
    simp only [eX4_readOrders_16, eX4_readOrders_17, eX4_readOrders_20, eX4_readOrders_23, eX4_readOrders_24, eX4_readOrders_27, eX4_readOrders_29, eX4_readOrders_30, gX4_0, gX4_1, h0.1, h0.2.1, h1, qA100, vp100 (show b < 100 by omega), nIc (show b < 500 by omega), one0, eq_self, or_true, true_or, not_true_eq_false, not_false_eq_true, true_imp_iff, false_imp_iff, true_and, and_true, Classical.not_not]
    exact ⟨fun z => absurd hlt (Int32.not_lt.mpr z), fun _ => hS g⟩
  · have : b = n := by omega
    subst this
    simp only [eX4_readOrders_16, eX4_readOrders_17, eX4_readOrders_20, gX4_1, h0.1, h1]
    exact ⟨fun _ => hE rfl, fun z => absurd (Int32.le_refl _) z⟩
/-- in the midst of an order -/
theorem readM (o n b d : Nat) (c v : Int32) (a5 : Option Value) (ν : qMM) (h0 : ScS ν o) (hc : isNum c ∨ isPla c) (hd : d ≤ 2) (hb : b ≤ n) (hn : n ≤ 100) (h1 : mI ν o 1 = nI n) (k : Nat) (hk : k < 50) (h4 : mI ν o 4 = nI k) (ht : ∃ t, mS ν o = some (.inl (3, t))) (R : Option Value → qMM → Nat × Nat → Prop) (X : String → qMM → Nat × Nat → Prop)
    (hE : b = n → R (some (.int (nI n))) ν (0, 0))
    (hD : b < n → (isNum c ∧ d < 2 ∧ 48 ≤ mI ν (o + 1) b ∧ mI ν (o + 1) b ≤ 57) → EX (SX4_readOrders R X) 14 [some (.ref o), some (.int c), some (.int (10 * v + mI ν (o + 1) b - 48)), some (.int (nI (d + 1))), some (.int (nI (b + 1))), some (.int (mI ν (o + 1) b))] [] [] ν (0, 0))
    (hS : b < n → ¬ (isNum c ∧ d < 2 ∧ 48 ≤ mI ν (o + 1) b ∧ mI ν (o + 1) b ≤ 57) → (mI ν (o + 1) b = 59 ∧ (0 < d ∨ isPla c)) → EX (SX4_readOrders R X) 14 [some (.ref o), some (.int (-1)), some (.int v), some (.int (nI d)), some (.int (nI (b + 1))), some (.int (mI ν (o + 1) b))] [] [] (addO ν o c v) (0, 0))
    (hF : b < n → ¬ (isNum c ∧ d < 2 ∧ 48 ≤ mI ν (o + 1) b ∧ mI ν (o + 1) b ≤ 57) → ¬ (mI ν (o + 1) b = 59 ∧ (0 < d ∨ isPla c)) → R (some (.int (nI b))) ν (0, 0)) : EX (SX4_readOrders R X) 14 [some (.ref o), some (.int c), some (.int v), some (.int (nI d)), some (.int (nI b)), a5] [] [] ν (0, 0) := by
  have hc1 : ¬ c = -1 := by
    rcases hc with (rfl | rfl | rfl | rfl | rfl) | (rfl | rfl) <;> decide
  refine readH o n b c v _ a5 ν h0 hb hn h1 R X (fun e => ?_) (fun hbn => ?_)
  · subst e
    simp only [eX4_readOrders_141, eX4_readOrders_142, eX4_readOrders_143, eX4_readOrders_150, eX4_readOrders_151, eX4_readOrders_154, gX4_1, h0.1, h1, hc1, qOk, one0, eq_self, or_true, true_or, not_true_eq_false, not_false_eq_true, true_imp_iff, false_imp_iff, true_and, and_true, Classical.not_not]
    exact hE rfl
  · have tail : ¬ (isNum c ∧ d < 2 ∧ 48 ≤ mI ν (o + 1) b ∧ mI ν (o + 1) b ≤ 57) → EX (SX4_readOrders R X) 103 [some (.ref o), some (.int c), some (.int v), some (.int (nI d)), some (.int (nI b)), some (.int (mI ν (o + 1) b))] [] [] ν (0, 0) := fun g => readT o n b d c v (mI ν (o + 1)) ν h0 hd hbn hn k hk h4 ht R X (hS hbn g) (hF hbn g)
    have h2 : (2 : Int32) ≤ nI d ↔ ¬ d < 2 := by
      rw [show (2 : Int32) = nI 2 from rfl, nI_leI (by decide) (by omega)]
      omega
    simp only [eX4_readOrders_32, eX4_readOrders_33, eX4_readOrders_34, eX4_readOrders_66, eX4_readOrders_67, eX4_readOrders_70, eX4_readOrders_73, eX4_readOrders_74, eX4_readOrders_75, eX4_readOrders_78, eX4_readOrders_80, eX4_readOrders_83, eX4_readOrders_86, eX4_readOrders_88, eX4_readOrders_89, eX4_readOrders_90, eX4_readOrders_92, eX4_readOrders_93, eX4_readOrders_95, eX4_readOrders_96, eX4_readOrders_97, eX4_readOrders_100, eX4_readOrders_135, eX4_readOrders_138, PX4_isNumberedLetter, QX4_isNumberedLetter, PX4_isDigit, QX4_isDigit, hc1, h2, qa2, nI_1, List.length_nil, List.length_cons, ll0, ll1, ll2, ll3, ll4, Nat.le_refl, and_true, one0, eq_self, or_true, true_or, not_true_eq_false, not_false_eq_true, true_imp_iff, false_imp_iff, true_and, and_true, Classical.not_not]
    by_cases g1 : isNum c
    · simp only [if_pos g1, one0, eq_self, or_true, true_or, not_true_eq_false, not_false_eq_true, true_imp_iff, false_imp_iff, true_and, and_true, Classical.not_not]
      by_cases g2 : d < 2
      · by_cases g3 : 48 ≤ mI ν (o + 1) b ∧ mI ν (o + 1) b ≤ 57
        · simp only [if_pos g3, g2, one0, eq_self, or_true, true_or, not_true_eq_false, not_false_eq_true, true_imp_iff, false_imp_iff, true_and, and_true, Classical.not_not]
          exact hD hbn ⟨g1, g2, g3⟩
        · simp only [if_neg g3, g2, one0, eq_self, or_true, true_or, not_true_eq_false, not_false_eq_true, true_imp_iff, false_imp_iff, true_and, and_true, Classical.not_not]
          exact tail (fun z => g3 z.2.2)
      · simp only [g2, one0, eq_self, or_true, true_or, not_true_eq_false, not_false_eq_true, true_imp_iff, false_imp_iff, true_and, and_true, Classical.not_not]
        exact tail (fun z => g2 z.2.1)
    · simp only [if_neg g1, one0, eq_self, or_true, true_or, not_true_eq_false, not_false_eq_true, true_imp_iff, false_imp_iff, true_and, and_true, Classical.not_not]
      exact tail (fun z => g1 z.1)
