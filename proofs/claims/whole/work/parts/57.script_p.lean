/-! ===== bodies: the script ===== -/
theorem xX4_isPlainLetter (x1 : Int32) (μ : qMM) (hp : PX4_isPlainLetter x1 μ) : EX (SX4_isPlainLetter (rti 0 0 (QX4_isPlainLetter x1 μ)) (fun _ _ _ => False)) 0 [some (.int x1)] [] [] μ (0, 0) := by
  simp only [eX4_isPlainLetter_0, eX4_isPlainLetter_1, eX4_isPlainLetter_3, eX4_isPlainLetter_6, eX4_isPlainLetter_7, eX4_isPlainLetter_9, eX4_isPlainLetter_12, eX4_isPlainLetter_13, eX4_isPlainLetter_16, eX4_isPlainLetter_17, rtv_at, rti_at, rtj_at, rtd_at, rta_at, qOk, qOkR, QX4_isPlainLetter, qOk, List.length_nil, List.length_cons, ll0, ll1, ll2, ll3, ll4, Nat.le_refl, and_true, one0, eq_self, or_true, true_or, not_true_eq_false, not_false_eq_true, true_imp_iff, false_imp_iff, true_and, and_true, Classical.not_not]
  by_cases h1 : x1 = 110 <;> by_cases h2 : x1 = 115 <;> simp [h1, h2]
theorem xX4_isNumberedLetter (x1 : Int32) (μ : qMM) (hp : PX4_isNumberedLetter x1 μ) : EX (SX4_isNumberedLetter (rti 0 0 (QX4_isNumberedLetter x1 μ)) (fun _ _ _ => False)) 0 [some (.int x1)] [] [] μ (0, 0) := by
  simp only [eX4_isNumberedLetter_0, eX4_isNumberedLetter_1, eX4_isNumberedLetter_3, eX4_isNumberedLetter_6, eX4_isNumberedLetter_7, eX4_isNumberedLetter_9, eX4_isNumberedLetter_12, eX4_isNumberedLetter_13, eX4_isNumberedLetter_15, eX4_isNumberedLetter_18, eX4_isNumberedLetter_19, eX4_isNumberedLetter_21, eX4_isNumberedLetter_24, eX4_isNumberedLetter_25, eX4_isNumberedLetter_27, eX4_isNumberedLetter_30, eX4_isNumberedLetter_31, eX4_isNumberedLetter_34, eX4_isNumberedLetter_35, rtv_at, rti_at, rtj_at, rtd_at, rta_at, qOk, qOkR, QX4_isNumberedLetter, qOk, List.length_nil, List.length_cons, ll0, ll1, ll2, ll3, ll4, Nat.le_refl, and_true, one0, eq_self, or_true, true_or, not_true_eq_false, not_false_eq_true, true_imp_iff, false_imp_iff, true_and, and_true, Classical.not_not]
  by_cases h1 : x1 = 100 <;> by_cases h2 : x1 = 108 <;> by_cases h3 : x1 = 99 <;> by_cases h4 : x1 = 97 <;> by_cases h5 : x1 = 120 <;> simp [h1, h2, h3, h4, h5]
theorem xX4_isDigit (x1 : Int32) (μ : qMM) (hp : PX4_isDigit x1 μ) : EX (SX4_isDigit (rti 0 0 (QX4_isDigit x1 μ)) (fun _ _ _ => False)) 0 [some (.int x1)] [] [] μ (0, 0) := by
  simp only [eX4_isDigit_0, eX4_isDigit_1, eX4_isDigit_3, eX4_isDigit_5, eX4_isDigit_8, rtv_at, rti_at, rtj_at, rtd_at, rta_at, qOk, qOkR, QX4_isDigit, PX8_inRange, QX8_inRange, qa2, qOk, List.length_nil, List.length_cons, ll0, ll1, ll2, ll3, ll4, Nat.le_refl, and_true, one0, eq_self, or_true, true_or, not_true_eq_false, not_false_eq_true, true_imp_iff, false_imp_iff, true_and, and_true, Classical.not_not]
  by_cases h1 : 48 ≤ x1 ∧ x1 ≤ 57 <;> simp [h1]
theorem vp50 {n : Nat} (h : n < 50) : vp_in (nI n) 50 := vp_in_nI h (by decide)
theorem xX4_addOrder (o : Nat) (x1 : Int32) (x2 : Int32) (μ : qMM) (ht : ∃ t, mS μ o = some (.inl (3, t))) (hp : PX4_addOrder o x1 x2 μ) : EX (SX4_addOrder (rtv 0 0 (QX4_addOrder o x1 x2 μ)) (fun _ _ _ => False)) 0 [some (.ref o), some (.int x1), some (.int x2)] [] [] μ (0, 0) := by
  obtain ⟨⟨h1, h2, h3, h4⟩, k, hk, hl⟩ := hp
  have e50 : ¬ (50 : Int32) ≤ nI k := fun z => by
    have := (nI_leI (a := 50) (by decide) (by omega)).mp z
    omega
  simp only [eX4_addOrder_0, eX4_addOrder_1, eX4_addOrder_4, eX4_addOrder_6, eX4_addOrder_9, eX4_addOrder_10, eX4_addOrder_13, eX4_addOrder_14, eX4_addOrder_17, eX4_addOrder_18, eX4_addOrder_19, eX4_addOrder_20, eX4_addOrder_23, eX4_addOrder_24, eX4_addOrder_27, eX4_addOrder_28, eX4_addOrder_29, eX4_addOrder_30i, eX4_addOrder_30r, eX4_addOrder_31, eX4_addOrder_34, eX4_addOrder_35, eX4_addOrder_36, eX4_addOrder_39, rtv_at, rti_at, rtj_at, rtd_at, rta_at, qOk, qOkR, gX4_2, gX4_3, gX4_4, pX4_4, h1, h3, h4, obX4_wI, obX4_wR, iA_wI, iA_wR, qA50, hl, wI_def, mI_wR_n (show o ≠ o + 2 by omega), mI_wR_n (show o ≠ o + 3 by omega), mI_wR_n (show o + 3 ≠ o + 2 by omega), vp50 hk, e50, QX4_addOrder, addO, List.length_nil, List.length_cons, ll0, ll1, ll2, ll3, ll4, Nat.le_refl, and_true, one0, eq_self, or_true, true_or, not_true_eq_false, not_false_eq_true, true_imp_iff, false_imp_iff, true_and, and_true, Classical.not_not]
theorem readT (o n b d : Nat) (c v : Int32) (t : Nat → Int32) (ν : qMM) (h0 : ScS ν o) (hd : d ≤ 2) (hb : b < n) (hn : n ≤ 100) (k : Nat) (hk : k < 50) (h4 : mI ν o 4 = nI k) (ht : ∃ t, mS ν o = some (.inl (3, t))) (R : Option Value → qMM → Nat × Nat → Prop) (X : String → qMM → Nat × Nat → Prop)
    (hS : (t b = 59 ∧ (0 < d ∨ isPla c)) → EX (SX4_readOrders R X) 14 [some (.ref o), some (.int (-1)), some (.int v), some (.int (nI d)), some (.int (nI (b + 1))), some (.int (t b))] [] [] (addO ν o c v) (0, 0))
    (hF : ¬ (t b = 59 ∧ (0 < d ∨ isPla c)) → R (some (.int (nI b))) ν (0, 0)) : EX (SX4_readOrders R X) 103 [some (.ref o), some (.int c), some (.int v), some (.int (nI d)), some (.int (nI b)), some (.int (t b))] [] [] ν (0, 0) := by
  have pa : PX4_addOrder o c v ν := ⟨h0, k, hk, h4⟩
  have hdd : (0 : Int32) < nI d ↔ 0 < d := nI_ltI (a := 0) (by decide) (by omega)
  simp only [eX4_readOrders_0, eX4_readOrders_1, eX4_readOrders_2, eX4_readOrders_5, eX4_readOrders_6, eX4_readOrders_7, eX4_readOrders_8, eX4_readOrders_9, eX4_readOrders_10, eX4_readOrders_11, eX4_readOrders_12, eX4_readOrders_16, eX4_readOrders_17, eX4_readOrders_20, eX4_readOrders_23, eX4_readOrders_24, eX4_readOrders_27, eX4_readOrders_29, eX4_readOrders_30, eX4_readOrders_32, eX4_readOrders_33, eX4_readOrders_34, eX4_readOrders_37, eX4_readOrders_39, eX4_readOrders_42, eX4_readOrders_45, eX4_readOrders_47, eX4_readOrders_50, eX4_readOrders_53, eX4_readOrders_55, eX4_readOrders_56, eX4_readOrders_58, eX4_readOrders_59, eX4_readOrders_60, eX4_readOrders_61, eX4_readOrders_62, eX4_readOrders_63, eX4_readOrders_66, eX4_readOrders_67, eX4_readOrders_70, eX4_readOrders_73, eX4_readOrders_74, eX4_readOrders_75, eX4_readOrders_78, eX4_readOrders_80, eX4_readOrders_83, eX4_readOrders_86, eX4_readOrders_88, eX4_readOrders_89, eX4_readOrders_90, eX4_readOrders_92, eX4_readOrders_93, eX4_readOrders_95, eX4_readOrders_96, eX4_readOrders_97, eX4_readOrders_100, eX4_readOrders_103, eX4_readOrders_105, eX4_readOrders_107, eX4_readOrders_110, eX4_readOrders_111, eX4_readOrders_114, eX4_readOrders_115, eX4_readOrders_118, eX4_readOrders_121, eX4_readOrders_122, eX4_readOrders_123, eX4_readOrders_124, eX4_readOrders_127, eX4_readOrders_128, eX4_readOrders_129, eX4_readOrders_132, eX4_readOrders_134, eX4_readOrders_135, eX4_readOrders_138, eX4_readOrders_141, eX4_readOrders_142, eX4_readOrders_143, eX4_readOrders_146, eX4_readOrders_147, eX4_readOrders_150, eX4_readOrders_151, eX4_readOrders_154, PX4_isPlainLetter, QX4_isPlainLetter, pa, QX4_addOrder, ht, qa2, forall_eq, hdd, nI_1, qOk, List.length_nil, List.length_cons, ll0, ll1, ll2, ll3, ll4, Nat.le_refl, and_true, one0, eq_self, or_true, true_or, not_true_eq_false, not_false_eq_true, true_imp_iff, false_imp_iff, true_and, and_true, Classical.not_not]
  by_cases g : t b = 59
  · by_cases g2 : 0 < d
    · exact ⟨fun z => absurd g z, fun _ => ⟨fun _ => hS ⟨g, Or.inl g2⟩, fun z => absurd g2 z⟩⟩
    · by_cases g3 : isPla c
      · simp only [if_pos g3, one0, eq_self, or_true, true_or, not_true_eq_false, not_false_eq_true, true_imp_iff, false_imp_iff, true_and, and_true, Classical.not_not]
        exact ⟨fun z => absurd g z, fun _ => ⟨fun z => absurd z g2, fun _ => hS ⟨g, Or.inr g3⟩⟩⟩
      · simp only [if_neg g3, one0, eq_self, or_true, true_or, not_true_eq_false, not_false_eq_true, true_imp_iff, false_imp_iff, true_and, and_true, Classical.not_not]
        exact ⟨fun z => absurd g z, fun _ => ⟨fun z => absurd z g2, fun _ => hF (fun z => z.2.elim g2 g3)⟩⟩
  · exact ⟨fun _ => hF (fun z => g z.1), fun z => absurd z g⟩
theorem readH (o n b : Nat) (c v : Int32) (dd a5 : Option Value) (ν : qMM) (h0 : ScS ν o) (hb : b ≤ n) (hn : n ≤ 100) (h1 : mI ν o 1 = nI n) (R : Option Value → qMM → Nat × Nat → Prop) (X : String → qMM → Nat × Nat → Prop)
    (hE : b = n → EX (SX4_readOrders R X) 141 [some (.ref o), some (.int c), some (.int v), dd, some (.int (nI b)), a5] [] [] ν (0, 0))
    (hS : b < n → EX (SX4_readOrders R X) 32 [some (.ref o), some (.int c), some (.int v), dd, some (.int (nI b)), some (.int (mI ν (o + 1) b))] [] [] ν (0, 0)) : EX (SX4_readOrders R X) 14 [some (.ref o), some (.int c), some (.int v), dd, some (.int (nI b)), a5] [] [] ν (0, 0) := by
  rw [eX4_readOrders_14]
  rcases Nat.lt_or_ge b n with g | g
  · have hlt : nI b < nI n := nI_lt g (by omega)
    simp only [eX4_readOrders_16, eX4_readOrders_17, eX4_readOrders_20, eX4_readOrders_23, eX4_readOrders_24, eX4_readOrders_27, eX4_readOrders_29, eX4_readOrders_30, gX4_0, gX4_1, h0.1, h0.2.1, h1, qA100, vp100 (show b < 100 by omega), nIc (show b < 500 by omega), one0, eq_self, or_true, true_or, not_true_eq_false, not_false_eq_true, true_imp_iff, false_imp_iff, true_and, and_true, Classical.not_not]
    exact ⟨fun z => absurd hlt (Int32.not_lt.mpr z), fun _ => hS g⟩
  · have : b = n := by omega
    subst this
    simp only [eX4_readOrders_16, eX4_readOrders_17, eX4_readOrders_20, gX4_1, h0.1, h1]
    exact ⟨fun _ => hE rfl, fun z => absurd (Int32.le_refl _) z⟩
/-- in the midst of an order -/
theorem readM (o n b d : Nat) (c v : Int32) (a5 : Option Value) (ν : qMM) (h0 : ScS ν o) (hc : isNum c ∨ isPla c) (hd : d ≤ 2) (hb : b ≤ n) (hn : n ≤ 100) (h1 : mI ν o 1 = nI n) (k : Nat) (hk : k < 50) (h4 : mI ν o 4 = nI k) (ht : ∃ t, mS ν o = some (.inl (3, t))) (R : Option Value → qMM → Nat × Nat → Prop) (X : String → qMM → Nat × Nat → Prop)
    (hE : b = n → R (some (.int (nI n))) ν (0, 0))
    (hD : b < n → (isNum c ∧ d < 2 ∧ 48 ≤ mI ν (o + 1) b ∧ mI ν (o + 1) b ≤ 57) → EX (SX4_readOrders R X) 14 [some (.ref o), some (.int c), some (.int (10 * v + mI ν (o + 1) b - 48)), some (.int (nI (d + 1))), some (.int (nI (b + 1))), some (.int (mI ν (o + 1) b))] [] [] ν (0, 0))
    (hS : b < n → ¬ (isNum c ∧ d < 2 ∧ 48 ≤ mI ν (o + 1) b ∧ mI ν (o + 1) b ≤ 57) → (mI ν (o + 1) b = 59 ∧ (0 < d ∨ isPla c)) → EX (SX4_readOrders R X) 14 [some (.ref o), some (.int (-1)), some (.int v), some (.int (nI d)), some (.int (nI (b + 1))), some (.int (mI ν (o + 1) b))] [] [] (addO ν o c v) (0, 0))
    (hF : b < n → ¬ (isNum c ∧ d < 2 ∧ 48 ≤ mI ν (o + 1) b ∧ mI ν (o + 1) b ≤ 57) → ¬ (mI ν (o + 1) b = 59 ∧ (0 < d ∨ isPla c)) → R (some (.int (nI b))) ν (0, 0)) : EX (SX4_readOrders R X) 14 [some (.ref o), some (.int c), some (.int v), some (.int (nI d)), some (.int (nI b)), a5] [] [] ν (0, 0) := by
  have hc1 : ¬ c = -1 := by
    rcases hc with (rfl | rfl | rfl | rfl | rfl) | (rfl | rfl) <;> decide
  refine readH o n b c v _ a5 ν h0 hb hn h1 R X (fun e => ?_) (fun hbn => ?_)
  · subst e
    simp only [eX4_readOrders_141, eX4_readOrders_142, eX4_readOrders_143, eX4_readOrders_150, eX4_readOrders_151, eX4_readOrders_154, gX4_1, h0.1, h1, hc1, qOk, one0, eq_self, or_true, true_or, not_true_eq_false, not_false_eq_true, true_imp_iff, false_imp_iff, true_and, and_true, Classical.not_not]
    exact hE rfl
  · have tail : ¬ (isNum c ∧ d < 2 ∧ 48 ≤ mI ν (o + 1) b ∧ mI ν (o + 1) b ≤ 57) → EX (SX4_readOrders R X) 103 [some (.ref o), some (.int c), some (.int v), some (.int (nI d)), some (.int (nI b)), some (.int (mI ν (o + 1) b))] [] [] ν (0, 0) := fun g => readT o n b d c v (mI ν (o + 1)) ν h0 hd hbn hn k hk h4 ht R X (hS hbn g) (hF hbn g)
    have h2 : (2 : Int32) ≤ nI d ↔ ¬ d < 2 := by
      rw [show (2 : Int32) = nI 2 from rfl, nI_leI (by decide) (by omega)]
      omega
    simp only [eX4_readOrders_32, eX4_readOrders_33, eX4_readOrders_34, eX4_readOrders_66, eX4_readOrders_67, eX4_readOrders_70, eX4_readOrders_73, eX4_readOrders_74, eX4_readOrders_75, eX4_readOrders_78, eX4_readOrders_80, eX4_readOrders_83, eX4_readOrders_86, eX4_readOrders_88, eX4_readOrders_89, eX4_readOrders_90, eX4_readOrders_92, eX4_readOrders_93, eX4_readOrders_95, eX4_readOrders_96, eX4_readOrders_97, eX4_readOrders_100, eX4_readOrders_135, eX4_readOrders_138, PX4_isNumberedLetter, QX4_isNumberedLetter, PX4_isDigit, QX4_isDigit, hc1, h2, qa2, nI_1, List.length_nil, List.length_cons, ll0, ll1, ll2, ll3, ll4, Nat.le_refl, and_true, one0, eq_self, or_true, true_or, not_true_eq_false, not_false_eq_true, true_imp_iff, false_imp_iff, true_and, and_true, Classical.not_not]
    by_cases g1 : isNum c
    · simp only [if_pos g1, one0, eq_self, or_true, true_or, not_true_eq_false, not_false_eq_true, true_imp_iff, false_imp_iff, true_and, and_true, Classical.not_not]
      by_cases g2 : d < 2
      · by_cases g3 : 48 ≤ mI ν (o + 1) b ∧ mI ν (o + 1) b ≤ 57
        · simp only [if_pos g3, g2, one0, eq_self, or_true, true_or, not_true_eq_false, not_false_eq_true, true_imp_iff, false_imp_iff, true_and, and_true, Classical.not_not]
          exact hD hbn ⟨g1, g2, g3⟩
        · simp only [if_neg g3, g2, one0, eq_self, or_true, true_or, not_true_eq_false, not_false_eq_true, true_imp_iff, false_imp_iff, true_and, and_true, Classical.not_not]
          exact tail (fun z => g3 z.2.2)
      · simp only [g2, one0, eq_self, or_true, true_or, not_true_eq_false, not_false_eq_true, true_imp_iff, false_imp_iff, true_and, and_true, Classical.not_not]
        exact tail (fun z => g2 z.2.1)
    · simp only [if_neg g1, one0, eq_self, or_true, true_or, not_true_eq_false, not_false_eq_true, true_imp_iff, false_imp_iff, true_and, and_true, Classical.not_not]
      exact tail (fun z => g1 z.1)
theorem dg_yes {t : Nat → Int32} {n b : Nat} (hb : b < n) (h : 48 ≤ t b ∧ t b ≤ 57) : dgF t n b = t b - 48 ∧ ¬ dgF t n b = -1 := by
  have e : dgF t n b = t b - 48 := by
    unfold dgF
    rw [if_pos ⟨hb, h.1, h.2⟩]
  refine ⟨e, ?_⟩
  rw [e]
  intro z
  have : t b = -1 + 48 := by rw [← z, Int32.sub_add_cancel]
  rw [this] at h
  exact absurd h.1 (by decide)
theorem dg_no {t : Nat → Int32} {n b : Nat} (h : ¬ (b < n ∧ 48 ≤ t b ∧ t b ≤ 57)) : dgF t n b = -1 := by
  unfold dgF
  rw [if_neg h]
theorem readN (o n a : Nat) (v : Int32) (dd a5 : Option Value) (ν : qMM) (h0 : ScS ν o) (ha : a < n) (hn : n ≤ 100) (h1 : mI ν o 1 = nI n) (k : Nat) (hk : k < 50) (h4 : mI ν o 4 = nI k) (ht : ∃ t, mS ν o = some (.inl (3, t))) (R : Option Value → qMM → Nat × Nat → Prop) (X : String → qMM → Nat × Nat → Prop)
    (hS : ordG (mI ν (o + 1)) n a → ∀ v dd a5, EX (SX4_readOrders R X) 14 [some (.ref o), some (.int (-1)), some (.int v), some (.int dd), some (.int (nI (ordA (mI ν (o + 1)) n a))), a5] [] [] (addO ν o (mI ν (o + 1) a) (ordN (mI ν (o + 1)) n a)) (0, 0))
    (hF : ¬ ordG (mI ν (o + 1)) n a → R (some (.int (nI (ordA (mI ν (o + 1)) n a)))) ν (0, 0)) : EX (SX4_readOrders R X) 14 [some (.ref o), some (.int (-1)), some (.int v), dd, some (.int (nI a)), a5] [] [] ν (0, 0) := by
  refine readH o n a (-1) v dd a5 ν h0 (by omega) hn h1 R X (fun e => by omega) (fun _ => ?_)
  generalize htx : mI ν (o + 1) = t at *
  simp only [eX4_readOrders_32, eX4_readOrders_33, eX4_readOrders_34, eX4_readOrders_37, eX4_readOrders_39, eX4_readOrders_42, eX4_readOrders_45, eX4_readOrders_47, eX4_readOrders_50, eX4_readOrders_53, eX4_readOrders_55, eX4_readOrders_56, eX4_readOrders_58, eX4_readOrders_59, eX4_readOrders_60, eX4_readOrders_61, eX4_readOrders_62, eX4_readOrders_63, eX4_readOrders_135, eX4_readOrders_138, PX4_isPlainLetter, QX4_isPlainLetter, PX4_isNumberedLetter, QX4_isNumberedLetter, qa2, nI_1, qOk, List.length_nil, List.length_cons, ll0, ll1, ll2, ll3, ll4, Nat.le_refl, and_true, one0, eq_self, or_true, true_or, not_true_eq_false, not_false_eq_true, true_imp_iff, false_imp_iff, true_and, and_true, Classical.not_not]
  have step : isNum (t a) ∨ isPla (t a) → EX (SX4_readOrders R X) 14 [some (.ref o), some (.int (t a)), some (.int 0), some (.int 0), some (.int (nI (a + 1))), some (.int (t a))] [] [] ν (0, 0) := by
    intro hc
    have e1 : ordA t n a = if ordG t n a then semA t n a + 1 else semA t n a := by
      unfold ordA ordE
      rw [if_pos hc]
    refine readM o n (a + 1) 0 (t a) 0 _ ν h0 hc (by decide) (by omega) hn h1 k hk h4 ht R X (fun e => ?_) ?_ ?_ ?_
    · -- the end
      have d1 : dgF t n (a + 1) = -1 := dg_no (by omega)
      have s1 : semA t n a = a + 1 := by
        unfold semA
        rw [d1, if_pos rfl, ite_self]
      have g : ¬ ordG t n a := fun z => by
        have := z.2.1
        omega
      rw [if_neg g, s1, e] at e1
      have := hF g
      rw [e1] at this
      exact this
    · rw [htx]
      rintro hb ⟨hnum, -, hd1, hd2⟩
      obtain ⟨d1, d1'⟩ := dg_yes (n := n) hb ⟨hd1, hd2⟩
      refine readM o n (a + 1 + 1) 1 (t a) _ _ ν h0 hc (by decide) (by omega) hn h1 k hk h4 ht R X (fun e => ?_) ?_ ?_ ?_
      · have d2 : dgF t n (a + 2) = -1 := dg_no (by omega)
        have s1 : semA t n a = a + 2 := by
          unfold semA
          rw [if_pos hnum, if_neg d1', if_pos d2]
        have g : ¬ ordG t n a := fun z => by
          have := z.2.1
          omega
        rw [if_neg g, s1, show a + 2 = n by omega] at e1
        have := hF g
        rw [e1] at this
        exact this
      · rw [htx]
        rintro hb2 ⟨-, -, hd3, hd4⟩
        obtain ⟨d2, d2'⟩ := dg_yes (n := n) (b := a + 2) hb2 ⟨hd3, hd4⟩
        have s1 : semA t n a = a + 3 := by
          unfold semA
          rw [if_pos hnum, if_neg d1', if_neg d2']
        have sn : ordN t n a = 10 * (10 * 0 + t (a + 1) - 48) + t (a + 1 + 1) - 48 := by
          unfold ordN
          rw [if_pos hnum, if_neg d1', if_neg d2', d1, d2, Int32.mul_zero, Int32.zero_add, Int32.sub_eq_add_neg (t (a + 2)), ← Int32.add_assoc, ← Int32.sub_eq_add_neg]
        refine readM o n (a + 1 + 1 + 1) 2 (t a) _ _ ν h0 hc (by decide) (by omega) hn h1 k hk h4 ht R X (fun e => ?_) ?_ ?_ ?_
        · have g : ¬ ordG t n a := fun z => by
            have := z.2.1
            omega
          rw [if_neg g, s1, show a + 3 = n by omega] at e1
          have := hF g
          rw [e1] at this
          exact this
        · rintro - ⟨-, z, -⟩
          exact absurd z (by decide)
        · rw [htx]
          rintro hb3 - ⟨z, -⟩
          have g : ordG t n a := ⟨Or.inr ⟨hnum, d1'⟩, by rw [s1]; omega, by rw [s1]; exact z⟩
          rw [if_pos g, s1] at e1
          have := hS g (10 * (10 * 0 + t (a + 1) - 48) + t (a + 1 + 1) - 48) (nI 2) (some (.int (t (a + 1 + 1 + 1))))
          rw [e1, sn] at this
          exact this
        · rw [htx]
          intro hb3 _ z
          have g : ¬ ordG t n a := fun w => z ⟨by have := w.2.2; rw [s1] at this; exact this, Or.inl (by decide)⟩
          rw [if_neg g, s1] at e1
          have := hF g
          rw [e1] at this
          exact this
      · rw [htx]
        rintro hb2 hno ⟨z, -⟩
        have d2 : dgF t n (a + 2) = -1 := dg_no (fun w => hno ⟨hnum, by decide, w.2⟩)
        have s1 : semA t n a = a + 2 := by
          unfold semA
          rw [if_pos hnum, if_neg d1', if_pos d2]
        have sn : ordN t n a = 10 * 0 + t (a + 1) - 48 := by
          unfold ordN
          rw [if_pos hnum, if_neg d1', if_pos d2, d1, Int32.mul_zero, Int32.zero_add]
        have g : ordG t n a := ⟨Or.inr ⟨hnum, d1'⟩, by rw [s1]; omega, by rw [s1]; exact z⟩
        rw [if_pos g, s1] at e1
        have := hS g (10 * 0 + t (a + 1) - 48) (nI 1) (some (.int (t (a + 1 + 1))))
        rw [e1, sn] at this
        exact this
      · rw [htx]
        intro hb2 hno z
        have d2 : dgF t n (a + 2) = -1 := dg_no (fun w => hno ⟨hnum, by decide, w.2⟩)
        have s1 : semA t n a = a + 2 := by
          unfold semA
          rw [if_pos hnum, if_neg d1', if_pos d2]
        have g : ¬ ordG t n a := fun w => z ⟨by have := w.2.2; rw [s1] at this; exact this, Or.inl (by decide)⟩
        rw [if_neg g, s1] at e1
        have := hF g
        rw [e1] at this
        exact this
    · rw [htx]
      rintro hb hno ⟨z, z2⟩
      have hp := z2.resolve_left (by decide)
      have hnn : ¬ isNum (t a) := by
        intro w
        rcases hp with e | e <;> rw [e] at w <;> revert w <;> decide
      have s1 : semA t n a = a + 1 := by
        unfold semA
        rw [if_neg hnn]
      have sn : ordN t n a = 0 := by
        unfold ordN
        rw [if_neg hnn]
      have g : ordG t n a := ⟨Or.inl hp, by rw [s1]; omega, by rw [s1]; exact z⟩
      rw [if_pos g, s1] at e1
      have := hS g 0 (nI 0) (some (.int (t (a + 1))))
      rw [e1, sn] at this
      exact this
    · rw [htx]
      intro hb hno z
      have d1 : isNum (t a) → dgF t n (a + 1) = -1 := fun w => dg_no (fun q => hno ⟨w, by decide, q.2⟩)
      have s1 : semA t n a = a + 1 := by
        unfold semA
        by_cases w : isNum (t a)
        · rw [if_pos w, if_pos (d1 w)]
        · rw [if_neg w]
      have g : ¬ ordG t n a := by
        rintro ⟨w1, -, w3⟩
        rw [s1] at w3
        rcases w1 with w | ⟨w, w'⟩
        · exact z ⟨w3, Or.inr w⟩
        · exact w' (d1 w)
      rw [if_neg g, s1] at e1
      have := hF g
      rw [e1] at this
      exact this
  by_cases hp : isPla (t a)
  · simp only [if_pos hp, one0, eq_self, or_true, true_or, not_true_eq_false, not_false_eq_true, true_imp_iff, false_imp_iff, true_and, and_true, Classical.not_not]
    exact step (Or.inr hp)
  · by_cases hnum : isNum (t a)
    · simp only [if_neg hp, if_pos hnum, one0, eq_self, or_true, true_or, not_true_eq_false, not_false_eq_true, true_imp_iff, false_imp_iff, true_and, and_true, Classical.not_not]
      exact step (Or.inl hnum)
    · simp only [if_neg hp, if_neg hnum, one0, eq_self, or_true, true_or, not_true_eq_false, not_false_eq_true, true_imp_iff, false_imp_iff, true_and, and_true, Classical.not_not]
      have g : ¬ ordG t n a := fun z => z.1.elim hp (fun w => hnum w.1)
      have e1 : ordA t n a = a := by
        unfold ordA ordE
        rw [if_neg g, if_neg (fun z => z.elim hnum hp)]
      have := hF g
      rw [e1] at this
      exact this
theorem sem_2 {t : Nat → Int32} {n a : Nat} (h : ordG t n a) : a + 2 ≤ ordA t n a := by
  have := sem_gt (t := t) (n := n) (a := a)
  unfold ordA
  rw [if_pos h]
  omega
theorem OrU_add {μ ν : qMM} {o : Nat} {c v : Int32} (h : OrU μ ν o) : OrU μ (addO ν o c v) o := by
  obtain ⟨h1, h2, h3⟩ := h
  refine ⟨Sm_wR (Sm_wR (Sm_wR h1)), fun b b1 b2 b3 => ?_, fun j hj => ?_⟩
  · unfold addO
    rw [mI_wR_n b1, mI_wR_n b3, mI_wR_n b2, h2 b b1 b2 b3]
  · unfold addO
    rw [mI_wR_s, upd_n hj, h3 j hj]
theorem OrR_add {ν : qMM} {o : Nat} {c v : Int32} {l : List (Int32 × Int32)} (hl : l.length < 50) (h : OrR ν o l) : OrR (addO ν o c v) o (l ++ [(c, v)]) := by
  obtain ⟨h1, h2⟩ := h
  unfold OrR addO
  rw [mI_wR_s, upd_s, mI_wR_n (show o + 2 ≠ o by omega), mI_wR_n (show o + 2 ≠ o + 3 by omega), mI_wR_s, mI_wR_n (show o + 3 ≠ o by omega), mI_wR_s, h1, nI_clamp (by omega), nI_1]
  refine ⟨by simp, fun i c' v' hi => ?_⟩
  rcases Nat.lt_or_ge i l.length with g | g
  · rw [List.getElem?_append_left g] at hi
    rw [upd_n (by omega), upd_n (by omega)]
    exact h2 i c' v' hi
  · rw [List.getElem?_append_right g] at hi
    have : i = l.length := by
      rcases Nat.eq_or_lt_of_le g with e | e
      · exact e.symm
      · have : i - l.length = (i - l.length - 1) + 1 := by omega
        rw [this] at hi
        simp at hi
    subst this
    rw [Nat.sub_self] at hi
    simp at hi
    rw [upd_s, upd_s]
    exact hi
theorem readL (o n : Nat) (μ : qMM) (h0 : ScS μ o) (hn : n ≤ 100) (h1 : mI μ o 1 = nI n) (R : Option Value → qMM → Nat × Nat → Prop) (X : String → qMM → Nat × Nat → Prop) : ∀ (k a : Nat) (v : Int32) (dd a5 : Option Value) (ν : qMM) (l : List (Int32 × Int32)), OrU μ ν o → OrR ν o l → l.length * 2 ≤ a → a ≤ n → n ≤ a + k →
    (∀ e ν', ordX (mI μ (o + 1)) n k a = some e → OrU μ ν' o → R (some (.int (nI e))) ν' (0, 0)) → (ordX (mI μ (o + 1)) n k a = none → ∀ ν', OrU μ ν' o → OrR ν' o (l ++ ordL (mI μ (o + 1)) n k a) → R (some (.int (-1))) ν' (0, 0)) →
    EX (SX4_readOrders R X) 14 [some (.ref o), some (.int (-1)), some (.int v), dd, some (.int (nI a)), a5] [] [] ν (0, 0) := by
  have hend : ∀ (k a : Nat) (v : Int32) (dd a5 : Option Value) (ν : qMM) (l : List (Int32 × Int32)), OrU μ ν o → OrR ν o l → a = n → (ordX (mI μ (o + 1)) n k a = none → ∀ ν', OrU μ ν' o → OrR ν' o (l ++ ordL (mI μ (o + 1)) n k a) → R (some (.int (-1))) ν' (0, 0)) → EX (SX4_readOrders R X) 14 [some (.ref o), some (.int (-1)), some (.int v), dd, some (.int (nI a)), a5] [] [] ν (0, 0) := by
    intro k a v dd a5 ν l hu hr e hR
    have h0' : ScS ν o := by obtain ⟨F, hF⟩ := hu.1; rw [hF]; exact h0
    refine readH o n a (-1) v dd a5 ν h0' (by omega) hn (by rw [hu.2.2 1 (by decide), h1]) R X (fun _ => ?_) (fun z => by omega)
    simp only [eX4_readOrders_141, eX4_readOrders_142, eX4_readOrders_143, eX4_readOrders_146, eX4_readOrders_147, eX4_readOrders_154, qOk, one0, eq_self, or_true, true_or, not_true_eq_false, not_false_eq_true, true_imp_iff, false_imp_iff, true_and, and_true, Classical.not_not]
    have el : ordL (mI μ (o + 1)) n k a = [] := by
      cases k with
      | zero => rfl
      | succ k => unfold ordL; rw [if_neg (fun z => by omega)]
    refine hR ?_ ν hu (by rw [el, List.append_nil]; exact hr)
    cases k with
    | zero => rfl
    | succ k => unfold ordX; rw [if_neg (by omega)]
  intro k
  induction k with
  | zero => exact fun a v dd a5 ν l hu hr hl ha hk hE hR => hend 0 a v dd a5 ν l hu hr (by omega) hR
  | succ k ih =>
    intro a v dd a5 ν l hu hr hl ha hk hE hR
    by_cases g : a < n
    · have h0' : ScS ν o := by obtain ⟨F, hF⟩ := hu.1; rw [hF]; exact h0
      have et : mI ν (o + 1) = mI μ (o + 1) := hu.2.1 _ (by omega) (by omega) (by omega)
      have hx : ordX (mI μ (o + 1)) n (k + 1) a = if ordG (mI μ (o + 1)) n a then ordX (mI μ (o + 1)) n k (ordA (mI μ (o + 1)) n a) else some (ordA (mI μ (o + 1)) n a) := by
        show (if a < n then _ else _) = _
        rw [if_pos g]
      rw [hx] at hE hR
      refine readN o n a v dd a5 ν h0' g hn (by rw [hu.2.2 1 (by decide), h1]) l.length (by omega) hr.1 (tX4 h0'.1) R X ?_ ?_
      · rw [et]
        intro G v' dd' a5'
        rw [if_pos G] at hE hR
        obtain ⟨p1, p2⟩ := ord_prog G
        have p3 := sem_2 G
        have hL : ordL (mI μ (o + 1)) n (k + 1) a = (mI μ (o + 1) a, ordN (mI μ (o + 1)) n a) :: ordL (mI μ (o + 1)) n k (ordA (mI μ (o + 1)) n a) := by
          show (if a < n ∧ ordG (mI μ (o + 1)) n a then _ else _) = _
          rw [if_pos ⟨g, G⟩]
        refine ih (ordA (mI μ (o + 1)) n a) v' (some (.int dd')) a5' _ (l ++ [(mI μ (o + 1) a, ordN (mI μ (o + 1)) n a)]) (OrU_add hu) (OrR_add (by omega) hr) (by rw [List.length_append]; show (l.length + 1) * 2 ≤ _; omega) p2 (by omega) hE (fun hx ν' hu' hr' => hR hx ν' hu' ?_)
        rw [hL]
        rw [List.append_assoc] at hr'
        exact hr'
      · rw [et]
        intro G
        rw [if_neg G] at hE
        exact hE _ ν rfl hu
    · exact hend (k + 1) a v dd a5 ν l hu hr (by omega) hR
theorem xX4_readOrders (o : Nat) (μ : qMM) (ht : ∃ t, mS μ o = some (.inl (3, t))) (hp : PX4_readOrders o μ) : EX (SX4_readOrders (rti 0 0 (QX4_readOrders o μ)) (fun _ _ _ => False)) 0 [some (.ref o), none, none, none, none, none] [] [] μ (0, 0) := by
  obtain ⟨h0, n, hn, h1⟩ := hp
  have h4 : ScS (wR μ o (upd (mI μ o) 4 0)) o := h0
  have hu : OrU μ (wR μ o (upd (mI μ o) 4 0)) o := ⟨Sm_wR Sm_refl, fun b b1 _ _ => mI_wR_n b1, fun j hj => by rw [mI_wR_s, upd_n hj]⟩
  have hr : OrR (wR μ o (upd (mI μ o) 4 0)) o [] := ⟨by rw [mI_wR_s, upd_s]; rfl, fun i c v h => by simp at h⟩
  simp only [eX4_readOrders_0, eX4_readOrders_1, eX4_readOrders_2, eX4_readOrders_5, eX4_readOrders_6, eX4_readOrders_7, eX4_readOrders_8, eX4_readOrders_9, eX4_readOrders_10, eX4_readOrders_11, eX4_readOrders_12, pX4_4, h0.1, wI_def]
  have key : ∀ r ν, r = ordR (ordX (mI μ (o + 1)) n 100 0) → OrU μ ν o → (ordX (mI μ (o + 1)) n 100 0 = none → OrR ν o (ordL (mI μ (o + 1)) n 100 0)) → rti 0 0 (QX4_readOrders o μ) (some (.int r)) ν (0, 0) := fun r ν e1 e2 e3 => by
    rw [rti_at]
    refine ⟨fun n' hn' h1' => ?_, by decide, by decide⟩
    have : n' = n := (nI_eq (by omega) (by omega)).mp (h1'.symm.trans h1)
    subst this
    exact ⟨e1, e2, e3⟩
  refine readL o n μ h0 hn h1 _ _ 100 0 0 _ _ _ [] hu hr (Nat.zero_le _) (Nat.zero_le _) (by omega) (fun e ν' he hu' => ?_) (fun he ν' hu' hr' => ?_)
  · exact key _ ν' (by rw [he]; rfl) hu' (fun z => by rw [he] at z; cases z)
  · exact key _ ν' (by rw [he]; rfl) hu' (fun _ => hr')
