/-! ===== bodies: the reference's sender and receiver ===== -/
theorem ll0 : (0 ≤ 4) = True := eq_true (by decide)
theorem ll1 : (0 + 1 ≤ 4) = True := eq_true (by decide)
theorem ll2 : (0 + 1 + 1 ≤ 4) = True := eq_true (by decide)
theorem ll3 : (0 + 1 + 1 + 1 ≤ 4) = True := eq_true (by decide)
theorem ll4 : (0 + 1 + 1 + 1 + 1 ≤ 4) = True := eq_true (by decide)
theorem one0 : ((1 : Int32) = 0) = False := eq_false (by decide)
theorem trust_r (ack : Nat → Int32) (c : Int32) (n : Nat) : ∀ k : Nat, trust ack c n k = -1 ∨ ∃ m, m < k ∧ n - m ≤ 15 ∧ trust ack c n k = nI m
  | 0 => Or.inl rfl
  | m + 1 => by
    unfold trust
    by_cases h1 : n - m ≤ 15
    · rw [if_pos h1]
      by_cases h2 : ack m = 1 ∨ (0 < c ∧ c ≤ nI (n - m))
      · rw [if_pos h2]
        exact Or.inr ⟨m, by omega, h1, rfl⟩
      · rw [if_neg h2]
        rcases trust_r ack c n m with h | ⟨m', h3, h4, h5⟩
        · exact Or.inl h
        · exact Or.inr ⟨m', by omega, h4, h5⟩
    · rw [if_neg h1]
      exact Or.inl rfl
theorem nI_m1 {n : Nat} (h : n < 2 ^ 31) : ¬ nI n = -1 := fun q => by
  have := nI_pos h
  rw [q] at this
  exact this (by decide)
theorem xX9_trusted_l (o n : Nat) (x1 : Int32) (μ : qMM) (h0 : MoS μ o) (hn : n ≤ 500) (R : Option Value → qMM → Nat × Nat → Prop) (X : String → qMM → Nat × Nat → Prop) : ∀ k : Nat, k ≤ n → R (some (.int (trust (ackF (mI μ (o + 1))) x1 n k))) μ (0, 0) → EX (SX9_trusted R X) 12 [some (.ref o), some (.int x1), some (.int (nI n)), some (.int (nI k - 1))] [] [] μ (0, 0) := by
  obtain ⟨h1, h2, h3⟩ := id h0
  intro k
  induction k with
  | zero =>
    intro hk hR
    rw [eX9_trusted_12]
    simp only [eX9_trusted_13, eX9_trusted_54, eX9_trusted_55, qOk, true_and]
    exact ⟨fun _ => hR, fun h => absurd (by decide) h⟩
  | succ m ih =>
    intro hk hR
    have e1 : nI (m + 1) - 1 = nI m := by
      show nI (m + 1) - nI 1 = _
      rw [pk_sub (by omega)]
      rfl
    have e2 : nI n - nI m = nI (n - m) := pk_sub (by omega)
    have e3 : nI m + -1 = nI m - 1 := by
      rw [← Int32.sub_eq_add_neg]
    unfold trust at hR
    rw [e1, eX9_trusted_12]
    simp only [eX9_trusted_13, eX9_trusted_16, eX9_trusted_17, eX9_trusted_18, eX9_trusted_19, eX9_trusted_21, eX9_trusted_24, eX9_trusted_25, eX9_trusted_26, eX9_trusted_28, eX9_trusted_31, eX9_trusted_32, eX9_trusted_35, eX9_trusted_36, eX9_trusted_39, eX9_trusted_40, eX9_trusted_41, eX9_trusted_42, eX9_trusted_43, eX9_trusted_46, eX9_trusted_47, eX9_trusted_48, eX9_trusted_51, eX9_trusted_54, eX9_trusted_55, e2, e3, h0, tX9, h1, PX9_of, QX9_of, qa2, true_and, qOk, nIC (show m < 1000000 by omega), show (9 : Int32).toNatClampNeg = 9 from rfl, List.length_nil, List.length_cons]
    refine ⟨fun h => absurd h (nI_pos (by omega)), fun _ => ⟨fun h => ?_, fun h => ⟨by simp, by simp, by simp, ⟨m, 9, by omega, by omega, rfl, rfl⟩, ?_⟩⟩⟩
    · have : ¬ n - m ≤ 15 := fun q => absurd h (Int32.not_lt.mpr (nI_le (b := 15) q (by decide)))
      rw [if_neg this] at hR
      exact hR
    · have : n - m ≤ 15 := by
        rcases Nat.lt_or_ge 15 (n - m) with q | q
        · exact absurd (nI_lt (a := 15) q (by omega)) h
        · exact q
      rw [if_pos this] at hR
      by_cases g : mI μ (o + 1) (514 + 10 * m + 9) = 1
      · rw [if_pos (Or.inl g)] at hR
        exact ⟨fun _ => hR, fun h => absurd g h⟩
      · refine ⟨fun h => absurd h g, fun _ => ?_⟩
        by_cases g2 : 0 < x1
        · by_cases g3 : x1 ≤ nI (n - m)
          · rw [if_pos (Or.inr ⟨g2, g3⟩)] at hR
            exact ⟨fun h => absurd g2 (Int32.not_lt.mpr h), fun _ => ⟨fun h => absurd g3 (Int32.not_le.mpr h), fun _ => hR⟩⟩
          · rw [if_neg (fun q => q.elim g (fun z => g3 z.2))] at hR
            exact ⟨fun h => absurd g2 (Int32.not_lt.mpr h), fun _ => ⟨fun _ => ih (by omega) hR, fun h => absurd (Int32.not_le.mp g3) h⟩⟩
        · rw [if_neg (fun q => q.elim g (fun z => g2 z.1))] at hR
          exact ⟨fun _ => ih (by omega) hR, fun h => absurd (Int32.not_lt.mp g2) h⟩
theorem xX9_trusted (o : Nat) (x1 : Int32) (μ : qMM) (ht : ∃ t, mS μ o = some (.inl (8, t))) (hp : PX9_trusted o x1 μ) : EX (SX9_trusted (rti 0 0 (QX9_trusted o x1 μ)) (fun _ _ _ => False)) 0 [some (.ref o), some (.int x1), none, none] [] [] μ (0, 0) := by
  obtain ⟨h0, n, hn, hl⟩ := hp
  obtain ⟨h1, h2, h3⟩ := id h0
  have h := xX9_trusted_l o n x1 μ h0 hn (rti 0 0 (QX9_trusted o x1 μ)) (fun _ _ _ => False) n (Nat.le_refl _) (by simp [rti_at, QX9_trusted, nOf, hl, nIC (show n < 1000000 by omega)])
  simp only [eX9_trusted_0, eX9_trusted_1, eX9_trusted_4, eX9_trusted_6, eX9_trusted_7, eX9_trusted_8, eX9_trusted_9, eX9_trusted_10, eX9_trusted_11, gX9_0, h1, h2, qA5514, vpl 9 5514 (by decide +kernel), true_and, show (9 : Int32).toNatClampNeg = 9 from rfl, hl]
  exact h
theorem xX9_senderBase (o : Nat) (x1 : Int32) (x2 : Int32) (x3 : Int32) (x4 : Int32) (μ : qMM) (ht : ∃ t, mS μ o = some (.inl (8, t))) (hp : PX9_senderBase o x1 x2 x3 x4 μ) : EX (SX9_senderBase (rti 0 0 (QX9_senderBase o x1 x2 x3 x4 μ)) (fun _ _ _ => False)) 0 [some (.ref o), some (.int x1), some (.int x2), some (.int x3), some (.int x4)] [] [] μ (0, 0) := by
  obtain ⟨h0, r, f, hr, hf, rfl, rfl⟩ := hp
  have e1 : (3 : Int32) + nI f = nI (3 + f) := nI_add 3 f
  have hi : ((1 : Int32) ≤ nI f ∧ nI f ≤ 2) ↔ (1 ≤ f ∧ f ≤ 2) := by
    have a1 : (1 : Int32) ≤ nI f ↔ 1 ≤ f := nI_leI (a := 1) (by decide) (by omega)
    have a2 : nI f ≤ 2 ↔ f ≤ 2 := nI_leI (b := 2) (by omega) (by decide)
    rw [a1, a2]
  simp only [eX9_senderBase_0, eX9_senderBase_1, eX9_senderBase_3, eX9_senderBase_4, eX9_senderBase_5, eX9_senderBase_7, eX9_senderBase_10, eX9_senderBase_12, eX9_senderBase_13, eX9_senderBase_14, eX9_senderBase_17, eX9_senderBase_20, eX9_senderBase_21, eX9_senderBase_22, eX9_senderBase_23, eX9_senderBase_25, eX9_senderBase_26, eX9_senderBase_29, eX9_senderBase_32, eX9_senderBase_33, eX9_senderBase_34, eX9_senderBase_37, rtv_at, rti_at, rtj_at, rtd_at, rta_at, qOk, qOkR, h0, tX9, ht, PX9_of, QX9_of, PX9_in, QX9_in, PX9_baseOf, QX9_baseOf, qa2, true_and, e1, hi, nIC (show r < 1000000 by omega), nIC (show f < 1000000 by omega), nIC (show 3 + f < 1000000 by omega), QX9_senderBase, sbF, List.length_nil, List.length_cons]
  refine ⟨by simp, by simp, by simp, ⟨r, f, hr, by omega, rfl, rfl⟩, by simp, ?_⟩
  by_cases g : 1 ≤ f ∧ f ≤ 2
  · simp [g]
    exact ⟨r, hr, 3 + f, by omega, rfl, rfl⟩
  · simp [g]
theorem f12 {f : Nat} (h : f < 4) : ((1 : Int32) ≤ nI f ∧ nI f ≤ 2) ↔ (1 ≤ f ∧ f ≤ 2) := by
  have a1 : (1 : Int32) ≤ nI f ↔ 1 ≤ f := nI_leI (a := 1) (by decide) (by omega)
  have a2 : nI f ≤ 2 ↔ f ≤ 2 := nI_leI (b := 2) (by omega) (by decide)
  rw [a1, a2]
theorem xX9_sizeOf_l (o r : Nat) (x1 d : Int32) (μ : qMM) (h0 : MoS μ o) (hr : r < 500) (R : Option Value → qMM → Nat × Nat → Prop) (X : String → qMM → Nat × Nat → Prop) (hR : R (some (.int (szL (mI μ (o + 1)) x1 r d 4))) μ (0, 0)) : ∀ k f : Nat, f + k = 4 → ∀ a6 a7, EX (SX9_sizeOf R X) 23 [some (.ref o), some (.int x1), some (.int (nI r)), some (.int (szL (mI μ (o + 1)) x1 r d f)), some (.int d), some (.int (nI f)), a6, a7] [] [] μ (0, 0) := by
  obtain ⟨h1, h2, h3⟩ := id h0
  intro k
  induction k with
  | zero =>
    intro f hf a6 a7
    have : f = 4 := by omega
    subst this
    rw [eX9_sizeOf_23]
    simp only [eX9_sizeOf_25, eX9_sizeOf_26, eX9_sizeOf_96, eX9_sizeOf_97, qOk, true_and]
    exact ⟨fun _ => hR, fun h => absurd (by decide) h⟩
  | succ k ih =>
    intro f hf a6 a7
    have ih := ih (f + 1) (by omega)
    unfold szL at ih
    have hf4 : f < 4 := by omega
    rw [eX9_sizeOf_23]
    simp only [eX9_sizeOf_0, eX9_sizeOf_1, eX9_sizeOf_4, eX9_sizeOf_6, eX9_sizeOf_7, eX9_sizeOf_8, eX9_sizeOf_9, eX9_sizeOf_10, eX9_sizeOf_13, eX9_sizeOf_15, eX9_sizeOf_16, eX9_sizeOf_17, eX9_sizeOf_18, eX9_sizeOf_20, eX9_sizeOf_21, eX9_sizeOf_25, eX9_sizeOf_26, eX9_sizeOf_29, eX9_sizeOf_30, eX9_sizeOf_31, eX9_sizeOf_32, eX9_sizeOf_34, eX9_sizeOf_36, eX9_sizeOf_39, eX9_sizeOf_41, eX9_sizeOf_42, eX9_sizeOf_45, eX9_sizeOf_46, eX9_sizeOf_48, eX9_sizeOf_49, eX9_sizeOf_50, eX9_sizeOf_52, eX9_sizeOf_53, eX9_sizeOf_55, eX9_sizeOf_56, eX9_sizeOf_57, eX9_sizeOf_60, eX9_sizeOf_63, eX9_sizeOf_65, eX9_sizeOf_67, eX9_sizeOf_70, eX9_sizeOf_73, eX9_sizeOf_76, eX9_sizeOf_78, eX9_sizeOf_80, eX9_sizeOf_83, eX9_sizeOf_84, eX9_sizeOf_87, eX9_sizeOf_88, eX9_sizeOf_89, eX9_sizeOf_90, eX9_sizeOf_93, gX9_0, h0, h1, h2, tX9, qA5514, PX9_senderBase, QX9_senderBase, PX9_in, QX9_in, PX9_difference, QX9_difference, PX9_bytesFor, QX9_bytesFor, qa2, true_and, Int32.zero_add, f12 hf4, vpS (show f < 5514 by omega), nIC (show f < 1000000 by omega), nIC (show r < 1000000 by omega), nI_1, List.length_nil, List.length_cons]
    refine ⟨fun h => absurd h (nI_ge (b := 4) (by omega) (by decide)), fun _ => ⟨by simp, by simp, by simp, ⟨r, f, hr, hf4, rfl, rfl⟩, by simp, by simp, by simp, ?_⟩⟩
    by_cases g : 1 ≤ f ∧ f ≤ 2
    · simp only [if_pos g] at ih ⊢
      refine ⟨fun h => absurd h (by decide), fun _ => ⟨by simp, by simp, by simp, by simp, by simp, by simp, ih _ _⟩⟩
    · simp only [if_neg g] at ih ⊢
      refine ⟨fun _ => ?_, fun h => absurd trivial h⟩
      by_cases g2 : mI μ (o + 1) f = sbF (mI μ (o + 1)) x1 r d f
      · simp only [if_pos g2] at ih
        exact ⟨fun h => absurd g2 h, fun _ => ih _ _⟩
      · simp only [if_neg g2] at ih
        exact ⟨fun _ => ih _ _, fun h => absurd g2 h⟩
theorem xX9_sizeOf (o : Nat) (x1 : Int32) (x2 : Int32) (μ : qMM) (ht : ∃ t, mS μ o = some (.inl (8, t))) (hp : PX9_sizeOf o x1 x2 μ) : EX (SX9_sizeOf (rti 0 0 (QX9_sizeOf o x1 x2 μ)) (fun _ _ _ => False)) 0 [some (.ref o), some (.int x1), some (.int x2), none, none, none, none, none] [] [] μ (0, 0) := by
  obtain ⟨h0, hr⟩ := hp
  obtain ⟨h1, h2, h3⟩ := id h0
  simp only [eX9_sizeOf_0, eX9_sizeOf_1, eX9_sizeOf_4, eX9_sizeOf_6, eX9_sizeOf_7, eX9_sizeOf_8, eX9_sizeOf_9, eX9_sizeOf_10, eX9_sizeOf_13, eX9_sizeOf_15, eX9_sizeOf_16, eX9_sizeOf_17, eX9_sizeOf_18, eX9_sizeOf_20, eX9_sizeOf_21, gX9_0, h1, h2, qA5514, vpl 9 5514 (by decide +kernel), true_and, rtv_at, rti_at, rtj_at, rtd_at, rta_at, qOk, qOkR, QX9_sizeOf, sizeF]
  by_cases g : x1 = 0
  · subst g
    simp
  · simp only [if_neg g]
    refine ⟨fun _ => ?_, fun h => absurd g h⟩
    obtain ⟨r, hr2, rfl⟩ := Or.resolve_left hr g
    have h := xX9_sizeOf_l o r x1 (mI μ (o + 1) 9 - nI r) μ h0 hr2 (rti 0 0 (QX9_sizeOf o x1 (nI r) μ)) (fun _ _ _ => False) (by simp [rti_at, QX9_sizeOf, sizeF, g, nIC (show r < 1000000 by omega)]) 4 0 rfl none none
    exact h
theorem xX9_drops_l (o a : Nat) (μ : qMM) (h0 : MoS μ o) (ha : a + 6 < 5514) (R : Option Value → qMM → Nat × Nat → Prop) (X : String → qMM → Nat × Nat → Prop) (hR : R none (wR μ (o + 1) (zeroL (mI μ (o + 1)) a 6)) (0, 0)) : ∀ j k : Nat, k + j = 6 → EX (SX9_drops R X) 9 [some (.ref o), some (.int (nI a)), some (.int (nI (k + 1)))] [] [] (wR μ (o + 1) (zeroL (mI μ (o + 1)) a k)) (0, 0) := by
  obtain ⟨h1, h2, h3⟩ := id h0
  intro j
  induction j with
  | zero =>
    intro k hk
    have : k = 6 := by omega
    subst this
    rw [eX9_drops_9]
    simp only [eX9_drops_10, eX9_drops_12, eX9_drops_30]
    exact ⟨fun _ => hR, fun h => absurd (by decide) h⟩
  | succ j ih =>
    intro k hk
    have ih := ih (k + 1) (by omega)
    unfold zeroL at ih
    have e : nI a + nI (k + 1) = nI (a + (k + 1)) := nI_add _ _
    rw [eX9_drops_9]
    simp only [eX9_drops_10, eX9_drops_12, eX9_drops_15, eX9_drops_16, eX9_drops_19, eX9_drops_20, eX9_drops_21, eX9_drops_22, eX9_drops_23, eX9_drops_24, eX9_drops_27, gX9_0, h1, h2, obX9_wR, iA_wR, qA5514, e, vpS (show a + (k + 1) < 5514 by omega), nIC (show a + (k + 1) < 1000000 by omega), nI_1, true_and, wI_def, wR_wR, mI_wR_s]
    exact ⟨fun h => absurd h (nI_ge (b := 7) (by omega) (by decide)), fun _ => ih⟩
theorem xX9_drops (o : Nat) (x1 : Int32) (μ : qMM) (ht : ∃ t, mS μ o = some (.inl (8, t))) (hp : PX9_drops o x1 μ) : EX (SX9_drops (rtv 0 0 (QX9_drops o x1 μ)) (fun _ _ _ => False)) 0 [some (.ref o), some (.int x1), none] [] [] μ (0, 0) := by
  obtain ⟨h0, a, ha, rfl⟩ := hp
  obtain ⟨h1, h2, h3⟩ := id h0
  have h := xX9_drops_l o a μ h0 ha (rtv 0 0 (QX9_drops o (nI a) μ)) (fun _ _ _ => False) (by simp [rtv_at, QX9_drops, nIC (show a < 1000000 by omega)]) 6 0 rfl
  simp only [eX9_drops_0, eX9_drops_1, eX9_drops_4, eX9_drops_5, eX9_drops_6, eX9_drops_7, eX9_drops_8, gX9_0, h1, h2, qA5514, vpS (show a < 5514 by omega), nIC (show a < 1000000 by omega), true_and, wI_def]
  exact h
theorem xX9_fails2 (o : Nat) (μ : qMM) (ht : ∃ t, mS μ o = some (.inl (8, t))) (hp : PX9_fails2 o μ) : EX (SX9_fails2 (rti 0 0 (QX9_fails2 o μ)) (fun _ _ _ => False)) 0 [some (.ref o)] [] [] μ (0, 0) := by
  obtain ⟨h0, n, hn, hl⟩ := hp
  obtain ⟨h1, h2, h3⟩ := id h0
  simp only [eX9_fails2_0, eX9_fails2_1, eX9_fails2_4, eX9_fails2_6, eX9_fails2_7, eX9_fails2_8, eX9_fails2_9, eX9_fails2_10, eX9_fails2_11, eX9_fails2_12, eX9_fails2_15, eX9_fails2_17, eX9_fails2_18, eX9_fails2_19, eX9_fails2_20, eX9_fails2_21, eX9_fails2_22, eX9_fails2_23, eX9_fails2_26, eX9_fails2_28, eX9_fails2_29, eX9_fails2_30, eX9_fails2_33, eX9_fails2_35, eX9_fails2_36, eX9_fails2_39, eX9_fails2_40, eX9_fails2_43, eX9_fails2_45, eX9_fails2_46, eX9_fails2_47, eX9_fails2_48, eX9_fails2_51, eX9_fails2_53, eX9_fails2_54, eX9_fails2_55, eX9_fails2_56, eX9_fails2_57, eX9_fails2_58, eX9_fails2_59, eX9_fails2_61, eX9_fails2_62, eX9_fails2_65, eX9_fails2_66, rtv_at, rti_at, rtj_at, rtd_at, rta_at, qOk, qOkR, gX9_0, h0, h1, h2, tX9, obX9_wR, iA_wR, MoS_wR, obX9_wI, iA_wI, MoS_wI, qA5514, QX9_fails2, failF, PX9_joins, QX9_joins, qa2, true_and, vpl 60 5514 (by decide +kernel), vpl 56 5514 (by decide +kernel), vpl 54 5514 (by decide +kernel), vpl 62 5514 (by decide +kernel), show (60 : Int32).toNatClampNeg = 60 from rfl, show (56 : Int32).toNatClampNeg = 56 from rfl, show (54 : Int32).toNatClampNeg = 54 from rfl, show (62 : Int32).toNatClampNeg = 62 from rfl, show (31 : Int32).toNatClampNeg = 31 from rfl, wI_def, wR_wR, mI_wR_s, List.length_nil, List.length_cons]
  simp only [updE, if_true, show (56 : Nat) ≠ 60 from by decide, show (54 : Nat) ≠ 60 from by decide, show (54 : Nat) ≠ 56 from by decide, show (62 : Nat) ≠ 56 from by decide, show (62 : Nat) ≠ 60 from by decide, show (31 : Nat) ≠ 56 from by decide, show (31 : Nat) ≠ 60 from by decide, show (31 : Nat) ≠ 62 from by decide, if_false, ne_eq, not_false_eq_true, if_neg, hl]
  by_cases g : mI μ (o + 1) 56 + 1 < mI μ (o + 1) 54
  · simp only [if_pos g]
    exact ⟨fun _ => by simp, fun h => absurd g h⟩
  · simp only [if_neg g]
    refine ⟨fun h => absurd h g, fun _ => ⟨by simp, by simp, by simp, ⟨by simp, n, hn, rfl⟩, by simp⟩⟩
theorem shf_step {s : Nat → Int32} {k i j : Nat} (h : i ≤ j) : upd (shF s k i j) (k + 1 + j) (shF s k i j (k + 2 + j)) = shF s k i (j + 1) := by
  funext q
  unfold upd shF
  by_cases h1 : q = k + 1 + j
  · subst h1
    rw [if_pos rfl, if_neg (by omega), if_neg (by omega), if_neg (by omega), if_pos (by omega)]
    congr 1
    omega
  · rw [if_neg h1]
    by_cases h2 : q = k
    · rw [if_pos h2, if_pos h2]
    · rw [if_neg h2, if_neg h2]
      have : (k + 1 + i ≤ q ∧ q < k + 1 + j) ↔ (k + 1 + i ≤ q ∧ q < k + 1 + (j + 1)) := by omega
      by_cases h3 : k + 1 + i ≤ q ∧ q < k + 1 + j
      · rw [if_pos h3, if_pos (this.mp h3)]
      · rw [if_neg h3, if_neg (fun z => h3 (this.mpr z))]
theorem shf_zero {s : Nat → Int32} {k i : Nat} : upd s k (s k - 1) = shF s k i i := by
  funext q
  unfold upd shF
  by_cases h1 : q = k
  · simp [h1]
  · rw [if_neg h1, if_neg h1, if_neg (by omega)]
theorem shf_end {s : Nat → Int32} {k i n : Nat} (hn : n < 100) (hi : i < n) (h : s k = nI n) : upd (shF s k i (n - 1)) (k + n) 0 = takeF s k i := by
  funext q
  unfold upd shF takeF
  rw [h, nI_clamp (by omega)]
  by_cases h1 : q = k + n
  · subst h1
    rw [if_pos rfl, if_neg (by omega), if_neg (by omega), if_pos rfl]
  · rw [if_neg h1, if_neg h1]
    have : (k + 1 + i ≤ q ∧ q < k + 1 + (n - 1)) ↔ (k + 1 + i ≤ q ∧ q < k + n) := by omega
    by_cases h3 : k + 1 + i ≤ q ∧ q < k + 1 + (n - 1)
    · rw [if_pos h3, if_pos (this.mp h3)]
    · rw [if_neg h3, if_neg (fun z => h3 (this.mpr z))]
theorem xX9_takes_l (o k n i : Nat) (v : Int32) (μ : qMM) (h0 : MoS μ o) (hk : k < 32) (hn : n ≤ 20) (hi : i < n) (hl : mI μ (o + 1) k = nI n) (R : Option Value → qMM → Nat × Nat → Prop) (X : String → qMM → Nat × Nat → Prop) (hR : R (some (.int v)) (wR μ (o + 1) (takeF (mI μ (o + 1)) k i)) (0, 0)) : ∀ c j : Nat, i ≤ j → j + c = n - 1 → EX (SX9_takes R X) 24 [some (.ref o), some (.int (nI k)), some (.int (nI i)), some (.int v), some (.int (nI j))] [] [] (wR μ (o + 1) (shF (mI μ (o + 1)) k i j)) (0, 0) := by
  obtain ⟨h1, h2, h3⟩ := id h0
  have hs : ∀ j, shF (mI μ (o + 1)) k i j k = nI (n - 1) := fun j => by
    unfold shF
    rw [if_pos rfl, hl]
    show nI n - nI 1 = _
    exact pk_sub (by omega)
  intro c
  induction c with
  | zero =>
    intro j hj hc
    have : j = n - 1 := by omega
    subst this
    have e : nI k + 1 + nI (n - 1) = nI (k + n) := by
      rw [nI_1, nI_add]
      congr 1
      omega
    rw [eX9_takes_24]
    simp only [eX9_takes_26, eX9_takes_27, eX9_takes_30, eX9_takes_31, eX9_takes_32, eX9_takes_63, eX9_takes_64, eX9_takes_67, eX9_takes_68, eX9_takes_69, eX9_takes_70, eX9_takes_71, eX9_takes_74, eX9_takes_75, eX9_takes_76, eX9_takes_77, eX9_takes_78, eX9_takes_79, eX9_takes_80, gX9_0, h1, h2, obX9_wR, iA_wR, qA5514, vpS (show k < 5514 by omega), nIC (show k < 1000000 by omega), vpS (show k + n < 5514 by omega), nIC (show k + n < 1000000 by omega), mI_wR_s, hs, e, true_and, qOk, wI_def, wR_wR, shf_end (show n < 100 by omega) hi hl]
    exact ⟨fun _ => hR, fun h => absurd (Int32.le_refl _) h⟩
  | succ c ih =>
    intro j hj hc
    have ih := ih (j + 1) (by omega) (by omega)
    rw [← shf_step hj] at ih
    have e1 : nI (k + 1) + nI j = nI (k + 1 + j) := nI_add _ _
    have e2 : nI k + 2 + nI j = nI (k + 2 + j) := by
      show nI k + nI 2 + nI j = _
      rw [nI_add, nI_add]
    rw [eX9_takes_24]
    simp only [eX9_takes_26, eX9_takes_27, eX9_takes_30, eX9_takes_31, eX9_takes_32, eX9_takes_35, eX9_takes_36, eX9_takes_39, eX9_takes_40, eX9_takes_41, eX9_takes_42, eX9_takes_44, eX9_takes_45, eX9_takes_46, eX9_takes_49, eX9_takes_50, eX9_takes_51, eX9_takes_52, eX9_takes_54, eX9_takes_55, eX9_takes_56, eX9_takes_57, eX9_takes_60, gX9_0, h1, h2, obX9_wR, iA_wR, qA5514, vpS (show k < 5514 by omega), nIC (show k < 1000000 by omega), vpS (show k + 1 + j < 5514 by omega), nIC (show k + 1 + j < 1000000 by omega), vpS (show k + 2 + j < 5514 by omega), nIC (show k + 2 + j < 1000000 by omega), mI_wR_s, hs, e1, e2, nI_1, true_and, qOk, wI_def, wR_wR]
    exact ⟨fun h => absurd h (nI_ge (by omega) (by omega)), fun _ => ih⟩
theorem xX9_takes (o : Nat) (x1 : Int32) (x2 : Int32) (μ : qMM) (ht : ∃ t, mS μ o = some (.inl (8, t))) (hp : PX9_takes o x1 x2 μ) : EX (SX9_takes (rti 0 0 (QX9_takes o x1 x2 μ)) (fun _ _ _ => False)) 0 [some (.ref o), some (.int x1), some (.int x2), none, none] [] [] μ (0, 0) := by
  obtain ⟨h0, k, n, i, hk, hn, hi, rfl, rfl, hl⟩ := hp
  obtain ⟨h1, h2, h3⟩ := id h0
  have e1 : nI k + 1 + nI i = nI (k + 1 + i) := by rw [nI_1, nI_add]
  have h := xX9_takes_l o k n i (mI μ (o + 1) (k + 1 + i)) μ h0 (by omega) hn hi hl (rti 0 0 (QX9_takes o (nI k) (nI i) μ)) (fun _ _ _ => False) (by simp [rti_at, QX9_takes, nIC (show k < 1000000 by omega), nIC (show i < 1000000 by omega)]) (n - 1 - i) i (Nat.le_refl _) (by omega)
  rw [← shf_zero] at h
  simp only [eX9_takes_0, eX9_takes_1, eX9_takes_4, eX9_takes_5, eX9_takes_6, eX9_takes_7, eX9_takes_8, eX9_takes_9, eX9_takes_10, eX9_takes_11, eX9_takes_12, eX9_takes_15, eX9_takes_16, eX9_takes_17, eX9_takes_18, eX9_takes_19, eX9_takes_20, eX9_takes_21, eX9_takes_22, gX9_0, h1, h2, qA5514, e1, vpS (show k < 5514 by omega), nIC (show k < 1000000 by omega), vpS (show k + 1 + i < 5514 by omega), nIC (show k + 1 + i < 1000000 by omega), true_and, wI_def]
  exact h
theorem dropL_55 {s : Nat → Int32} : ∀ k, k ≤ 64 → dropL s k 55 = s 55
  | 0, _ => rfl
  | k + 1, h => by
    have hz : ∀ (t : Nat → Int32) (a j : Nat), 56 ≤ a → zeroL t a j 55 = t 55 := by
      intro t a j ha
      induction j with
      | zero => unfold zeroL upd; rw [if_neg (by omega)]
      | succ j ih => unfold zeroL upd; rw [if_neg (by omega), ih]
    unfold dropL
    split
    · rw [hz _ _ _ (by omega), dropL_55 k (by omega)]
    · exact dropL_55 k (by omega)
theorem xX9_keeps_l1 (o : Nat) (x1 : Int32) (t : Nat → Int32) (μ : qMM) (h0 : MoS μ o) (ht : ∃ t, mS μ o = some (Sum.inl (8, t))) (R : Option Value → qMM → Nat × Nat → Prop) (X : String → qMM → Nat × Nat → Prop) (hR : ∀ a2 a3, EX (SX9_keeps R X) 85 [some (.ref o), some (.int x1), a2, a3] [] [] (wR μ (o + 1) (dropL t 64)) (0, 0)) : ∀ c k : Nat, k + c = 64 → ∀ a3, EX (SX9_keeps R X) 31 [some (.ref o), some (.int x1), some (.int (nI k)), a3] [] [] (wR μ (o + 1) (dropL t k)) (0, 0) := by
  obtain ⟨h1, h2, h3⟩ := id h0
  intro c
  induction c with
  | zero =>
    intro k hk a3
    have : k = 64 := by omega
    subst this
    rw [eX9_keeps_31]
    simp only [eX9_keeps_32, eX9_keeps_34]
    exact ⟨fun _ => hR _ _, fun h => absurd (by decide) h⟩
  | succ c ih =>
    intro k hk a3
    have ih := ih (k + 1) (by omega)
    unfold dropL at ih
    have e : (66 : Int32) + 7 * nI k = nI (66 + 7 * k) := by
      show nI 66 + nI 7 * nI k = _
      rw [pk_mul, nI_add]
    rw [eX9_keeps_31]
    simp only [eX9_keeps_32, eX9_keeps_34, eX9_keeps_37, eX9_keeps_39, eX9_keeps_41, eX9_keeps_42, eX9_keeps_43, eX9_keeps_44, eX9_keeps_45, eX9_keeps_46, eX9_keeps_49, eX9_keeps_50, eX9_keeps_51, eX9_keeps_52, eX9_keeps_55, eX9_keeps_56, eX9_keeps_59, eX9_keeps_60, eX9_keeps_61, eX9_keeps_62, eX9_keeps_65, eX9_keeps_67, eX9_keeps_68, eX9_keeps_70, eX9_keeps_71, eX9_keeps_74, eX9_keeps_75, eX9_keeps_76, eX9_keeps_79, eX9_keeps_82, gX9_0, h0, h1, h2, ht, tX9, obX9_wR, iA_wR, MoS_wR, qA5514, e, PX9_drops, QX9_drops, qa2, forall_eq, vpS (show 66 + 7 * k < 5514 by omega), nIC (show 66 + 7 * k < 1000000 by omega), vpl 55 5514 (by decide +kernel), show (55 : Int32).toNatClampNeg = 55 from rfl, nI_1, true_and, wI_def, wR_wR, mI_wR_s, rtv_at, rti_at, rtj_at, rtd_at, rta_at, qOk, qOkR, mS_wR, mS_wI, mS_wL, mN_wR, mN_wI, mN_wL, List.length_nil, List.length_cons]
    refine ⟨fun h => absurd h (nI_ge (b := 64) (by omega) (by decide)), fun _ => ⟨fun g => ?_, fun g => ⟨fun g2 => ?_, fun g2 => ⟨by simp, by simp, by simp, ⟨66 + 7 * k, by omega, rfl⟩, ?_⟩⟩⟩⟩
    · rw [if_neg (fun z => z.1 g)] at ih
      exact ih _
    · rw [if_neg (fun z => absurd g2 (Int32.not_lt.mpr z.2))] at ih
      exact ih _
    · rw [if_pos ⟨g, Int32.not_lt.mp g2⟩] at ih
      exact ih _
theorem vp6 {n : Nat} (h : n < 6) : vp_in (nI n) 6 := vp_in_nI h (by decide)
theorem xX9_keeps_l2 (o a : Nat) (x1 : Int32) (t : Nat → Int32) (μ : qMM) (h0 : MoS μ o) (ha : a + 6 < 5514) (R : Option Value → qMM → Nat × Nat → Prop) (X : String → qMM → Nat × Nat → Prop) (hR : R none (wR μ (o + 1) (putR t (mI μ (o + 5)) a 6)) (0, 0)) : ∀ c k : Nat, k + c = 6 → EX (SX9_keeps R X) 119 [some (.ref o), some (.int x1), some (.int (nI a)), some (.int (nI k))] [] [] (wR μ (o + 1) (putR t (mI μ (o + 5)) a k)) (0, 0) := by
  obtain ⟨h1, h2, h3, h4, h5, h6⟩ := id h0
  intro c
  induction c with
  | zero =>
    intro k hk
    have : k = 6 := by omega
    subst this
    rw [eX9_keeps_119]
    simp only [eX9_keeps_120, eX9_keeps_122, eX9_keeps_147]
    exact ⟨fun _ => hR, fun h => absurd (by decide) h⟩
  | succ c ih =>
    intro k hk
    have ih := ih (k + 1) (by omega)
    unfold putR at ih
    have e : nI (a + 1) + nI k = nI (a + 1 + k) := nI_add _ _
    have e5 : ∀ f, mI (wR μ (o + 1) f) (o + 5) = mI μ (o + 5) := fun f => mI_wR_n (by omega)
    rw [eX9_keeps_119]
    simp only [eX9_keeps_120, eX9_keeps_122, eX9_keeps_125, eX9_keeps_126, eX9_keeps_129, eX9_keeps_130, eX9_keeps_131, eX9_keeps_132, eX9_keeps_133, eX9_keeps_134, eX9_keeps_135, eX9_keeps_138, eX9_keeps_139, eX9_keeps_140, eX9_keeps_141, eX9_keeps_144, gX9_0, gX9_7, h1, h2, h6, obX9_wR, iA_wR, qA5514, qA6, e, e5, vpS (show a + 1 + k < 5514 by omega), nIC (show a + 1 + k < 1000000 by omega), vp6 (show k < 6 by omega), nIC (show k < 1000000 by omega), nI_1, true_and, wI_def, wR_wR, mI_wR_s]
    exact ⟨fun h => absurd h (nI_ge (b := 6) (by omega) (by decide)), fun _ => ih⟩
theorem xX9_keeps (o : Nat) (x1 : Int32) (μ : qMM) (ht : ∃ t, mS μ o = some (.inl (8, t))) (hp : PX9_keeps o x1 μ) : EX (SX9_keeps (rtv 0 0 (QX9_keeps o x1 μ)) (fun _ _ _ => False)) 0 [some (.ref o), some (.int x1), none, none] [] [] μ (0, 0) := by
  have h0 := hp
  obtain ⟨h1, h2, h3⟩ := id h0
  have fin : EX (SX9_keeps (rtv 0 0 (QX9_keeps o x1 μ)) (fun _ _ _ => False)) 31 [some (.ref o), some (.int x1), some (.int (nI 0)), none] [] [] (wR μ (o + 1) (upd (mI μ (o + 1)) 55 (if mI μ (o + 1) 55 < x1 then x1 else mI μ (o + 1) 55))) (0, 0) := by
    refine xX9_keeps_l1 o x1 (upd (mI μ (o + 1)) 55 (if mI μ (o + 1) 55 < x1 then x1 else mI μ (o + 1) 55)) μ h0 ht (rtv 0 0 (QX9_keeps o x1 μ)) (fun _ _ _ => False) (fun a2 a3 => ?_) 64 0 rfl none
    have hs := slot_lt x1
    simp only [eX9_keeps_85, eX9_keeps_86, eX9_keeps_87, eX9_keeps_90, eX9_keeps_92, eX9_keeps_93, eX9_keeps_95, eX9_keeps_96, eX9_keeps_99, eX9_keeps_101, eX9_keeps_103, eX9_keeps_104, eX9_keeps_106, eX9_keeps_107, eX9_keeps_108, eX9_keeps_109, eX9_keeps_110, eX9_keeps_111, eX9_keeps_114, eX9_keeps_115, eX9_keeps_116, eX9_keeps_117, eX9_keeps_118, eX9_keeps_147, gX9_0, h1, h2, obX9_wR, iA_wR, qA5514, placeE, vpl 55 5514 (by decide +kernel), show (55 : Int32).toNatClampNeg = 55 from rfl, vpS (show 66 + 7 * slotOf x1 < 5514 by omega), nIC (show 66 + 7 * slotOf x1 < 1000000 by omega), true_and, wI_def, wR_wR, mI_wR_s, rtv_at, rti_at, rtj_at, rtd_at, rta_at, qOk, qOkR, QX9_keeps, keepF]
    refine ⟨fun g => ⟨?_, by decide⟩, fun g => ?_⟩
    · rw [if_neg (Int32.not_lt.mpr g)]
    · have := xX9_keeps_l2 o (66 + 7 * slotOf x1) x1 (upd (dropL (upd (mI μ (o + 1)) 55 (if mI μ (o + 1) 55 < x1 then x1 else mI μ (o + 1) 55)) 64) (66 + 7 * slotOf x1) x1) μ h0 (by omega) (rtv 0 0 (QX9_keeps o x1 μ)) (fun _ _ _ => False) (by simp only [rtv_at, QX9_keeps, keepF]; rw [if_pos (Int32.not_le.mp g)]; simp) 6 0 rfl
      exact this
  simp only [eX9_keeps_0, eX9_keeps_1, eX9_keeps_4, eX9_keeps_6, eX9_keeps_7, eX9_keeps_8, eX9_keeps_11, eX9_keeps_13, eX9_keeps_14, eX9_keeps_17, eX9_keeps_18, eX9_keeps_21, eX9_keeps_22, eX9_keeps_25, eX9_keeps_27, eX9_keeps_28, eX9_keeps_29, eX9_keeps_30, gX9_0, h1, h2, qA5514, vpl 55 5514 (by decide +kernel), show (55 : Int32).toNatClampNeg = 55 from rfl, true_and, wI_def]
  by_cases g : mI μ (o + 1) 55 < x1
  · rw [if_pos g] at fin
    exact ⟨fun h => absurd g (Int32.not_lt.mpr h), fun _ => fin⟩
  · rw [if_neg g] at fin
    exact ⟨fun _ => fin, fun h => absurd h (by simpa using g)⟩
theorem xX9_decodes_l (o p a r : Nat) (x3 form : Int32) (μ : qMM) (h0 : MoS μ o) (hp : p < 500) (ha : a + 6 < 5514) (hr : r < 500) (hf : mI μ (o + 1) (514 + 10 * p + 7) = form) (hr2 : mI μ (o + 1) (514 + 10 * p + 8) = nI r) (ht : ∃ t, mS μ o = some (Sum.inl (8, t))) (R : Option Value → qMM → Nat × Nat → Prop) (X : String → qMM → Nat × Nat → Prop) (hR : R none (wR μ (o + 5) (decF (mI μ (o + 1)) p a x3 (mI μ (o + 5)))) (0, 0)) : ∀ c f : Nat, f + c = 4 → ∀ a7 a8 a9, EX (SX9_decodes R X) 21 [some (.ref o), some (.int (nI p)), some (.int (nI a)), some (.int x3), some (.int form), some (.int (nI r)), some (.int (nI f)), a7, a8, a9] [] [] (wR μ (o + 5) (decL (mI μ (o + 1)) p a x3 (mI μ (o + 5)) f)) (0, 0) := by
  obtain ⟨h1, h2, h3, h4, h5, h6⟩ := id h0
  have e1 : ∀ f, mI (wR μ (o + 5) f) (o + 1) = mI μ (o + 1) := fun f => mI_wR_n (by omega)
  have eb : ∀ b c : Nat, nI b + nI c = nI (b + c) := fun b c => nI_add _ _
  intro c
  induction c with
  | zero =>
    intro f hf a7 a8 a9
    have : f = 4 := by omega
    subst this
    have e5 : nI a + 5 = nI (a + 5) := nI_add _ 5
    have e6 : nI a + 6 = nI (a + 6) := nI_add _ 6
    rw [eX9_decodes_21]
    simp only [eX9_decodes_23, eX9_decodes_24, eX9_decodes_148, eX9_decodes_149, eX9_decodes_152, eX9_decodes_153, eX9_decodes_154, eX9_decodes_157, eX9_decodes_158, eX9_decodes_159, eX9_decodes_160, eX9_decodes_161, eX9_decodes_162, eX9_decodes_163, eX9_decodes_166, eX9_decodes_167, eX9_decodes_168, eX9_decodes_171, eX9_decodes_172, eX9_decodes_174, eX9_decodes_175, eX9_decodes_176, eX9_decodes_177, gX9_0, gX9_7, h1, h2, h6, obX9_wR, iA_wR, qA5514, qA6, e5, e6, e1, vpS (show a + 5 < 5514 by omega), nIC (show a + 5 < 1000000 by omega), vpS (show a + 6 < 5514 by omega), nIC (show a + 6 < 1000000 by omega), vpl 4 6 (by decide +kernel), vpl 5 6 (by decide +kernel), show (4 : Int32).toNatClampNeg = 4 from rfl, show (5 : Int32).toNatClampNeg = 5 from rfl, true_and, wI_def, wR_wR, mI_wR_s]
    exact ⟨fun _ => hR, fun h => absurd (by decide) h⟩
  | succ c ih =>
    intro f hf4 a7 a8 a9
    have ih := ih (f + 1) (by omega)
    unfold decL at ih
    have hf4 : f < 4 := by omega
    have e2 : nI a + 1 + nI f = nI (a + 1 + f) := by rw [nI_1, nI_add]
    have e2' : nI (a + 1) + nI f = nI (a + 1 + f) := by rw [nI_add]
    have e3 : nI a + 4 + nI f = nI (a + 4 + f) := by
      show nI a + nI 4 + nI f = _
      rw [nI_add, nI_add]
    rw [eX9_decodes_21]
    simp only [eX9_decodes_23, eX9_decodes_24, eX9_decodes_27, eX9_decodes_28, eX9_decodes_30, eX9_decodes_32, eX9_decodes_33, eX9_decodes_35, eX9_decodes_38, eX9_decodes_40, eX9_decodes_42, eX9_decodes_44, eX9_decodes_45, eX9_decodes_48, eX9_decodes_49, eX9_decodes_50, eX9_decodes_51, eX9_decodes_53, eX9_decodes_54, eX9_decodes_55, eX9_decodes_57, eX9_decodes_58, eX9_decodes_59, eX9_decodes_62, eX9_decodes_65, eX9_decodes_66, eX9_decodes_69, eX9_decodes_70, eX9_decodes_71, eX9_decodes_72, eX9_decodes_74, eX9_decodes_75, eX9_decodes_76, eX9_decodes_79, eX9_decodes_80, eX9_decodes_81, eX9_decodes_84, eX9_decodes_86, eX9_decodes_87, eX9_decodes_88, eX9_decodes_90, eX9_decodes_93, eX9_decodes_95, eX9_decodes_96, eX9_decodes_99, eX9_decodes_101, eX9_decodes_103, eX9_decodes_104, eX9_decodes_105, eX9_decodes_108, eX9_decodes_111, eX9_decodes_113, eX9_decodes_115, eX9_decodes_117, eX9_decodes_120, eX9_decodes_121, eX9_decodes_124, eX9_decodes_127, eX9_decodes_129, eX9_decodes_131, eX9_decodes_134, eX9_decodes_136, eX9_decodes_139, eX9_decodes_141, eX9_decodes_142, eX9_decodes_145, gX9_0, gX9_7, h0, h1, h2, h6, ht, tX9, obX9_wR, iA_wR, MoS_wR, qA5514, qA6, e1, e2, e2', e3, PX9_senderBase, QX9_senderBase, PX9_in, QX9_in, PX9_baseOf, QX9_baseOf, PX9_of, QX9_of, PX9_difference, QX9_difference, PX9_modulo, QX9_modulo, qa2, f12 hf4, vpS (show a + 1 + f < 5514 by omega), nIC (show a + 1 + f < 1000000 by omega), nIC (show a + 4 + f < 1000000 by omega), vp6 (show f < 6 by omega), nIC (show f < 1000000 by omega), nIC (show p < 1000000 by omega), nIC (show r < 1000000 by omega), nI_1, true_and, wI_def, wR_wR, mI_wR_s, mS_wR, mS_wI, mS_wL, mN_wR, mN_wI, mN_wL, List.length_nil, List.length_cons, ll0, ll1, ll2, ll3, ll4, Nat.le_refl, and_true]
    refine ⟨fun h => absurd h (nI_ge (b := 4) (by omega) (by decide)), fun _ => ⟨⟨r, f, hr, hf4, rfl, rfl⟩, ?_⟩⟩
    by_cases g : 1 ≤ f ∧ f ≤ 2
    · simp only [decV, hf, hr2, nIC (show r < 1000000 by omega), if_pos g] at ih
      simp only [if_pos g, one0, eq_self, not_true_eq_false, not_false_eq_true, true_imp_iff, false_imp_iff, true_and, and_true, Classical.not_not]
      exact ⟨vpS (by omega), ⟨p, f, hp, by omega, rfl, rfl⟩, ih _ _ _⟩
    · simp only [decV, hf, hr2, nIC (show r < 1000000 by omega), if_neg g] at ih
      simp only [if_neg g, one0, eq_self, not_true_eq_false, not_false_eq_true, true_imp_iff, false_imp_iff, true_and, and_true, Classical.not_not]
      refine ⟨⟨p, f, hp, by omega, rfl, rfl⟩, fun g2 => ?_, fun g2 => ?_⟩
      · simp only [if_neg g2] at ih
        exact ih _ _ _
      · simp only [if_pos g2] at ih
        exact ih _ _ _
theorem xX9_decodes (o : Nat) (x1 : Int32) (x2 : Int32) (x3 : Int32) (μ : qMM) (ht : ∃ t, mS μ o = some (.inl (8, t))) (hp : PX9_decodes o x1 x2 x3 μ) : EX (SX9_decodes (rtv 0 0 (QX9_decodes o x1 x2 x3 μ)) (fun _ _ _ => False)) 0 [some (.ref o), some (.int x1), some (.int x2), some (.int x3), none, none, none, none, none, none] [] [] μ (0, 0) := by
  obtain ⟨h0, p, a, r, hp, ha, hr, rfl, rfl, hr2⟩ := hp
  have h := xX9_decodes_l o p a r x3 _ μ h0 hp ha hr rfl hr2 ht (rtv 0 0 (QX9_decodes o (nI p) (nI a) x3 μ)) (fun _ _ _ => False) (by simp [rtv_at, QX9_decodes, nIC (show p < 1000000 by omega), nIC (show a < 1000000 by omega)]) 4 0 rfl none none none
  have e : wR μ (o + 5) (decL (mI μ (o + 1)) p a x3 (mI μ (o + 5)) 0) = μ := wR_self
  rw [e] at h
  simp only [eX9_decodes_0, eX9_decodes_1, eX9_decodes_2, eX9_decodes_4, eX9_decodes_7, eX9_decodes_9, eX9_decodes_10, eX9_decodes_11, eX9_decodes_13, eX9_decodes_16, eX9_decodes_18, eX9_decodes_19, h0, ht, tX9, PX9_of, QX9_of, qa2, nIC (show p < 1000000 by omega), show (7 : Int32).toNatClampNeg = 7 from rfl, show (8 : Int32).toNatClampNeg = 8 from rfl, hr2, true_and, List.length_nil, List.length_cons, ll0, ll1, ll2, ll3, ll4, Nat.le_refl, and_true]
  exact ⟨⟨p, 7, hp, by decide, rfl, rfl⟩, ⟨p, 8, hp, by decide, rfl, rfl⟩, h⟩
theorem xX9_sends_l1 (o n : Nat) (x2 x3 x4 : Int32) (μ : qMM) (h0 : MoS μ o) (hn : n < 500) (ht : ∃ t, mS μ o = some (Sum.inl (8, t))) (R : Option Value → qMM → Nat × Nat → Prop) (X : String → qMM → Nat × Nat → Prop) (hR : EX (SX9_sends R X) 75 [some (.ref o), some (.int (nI n)), some (.int x2), some (.int x3), some (.int x4), some (.int (nI 0))] [] [] (wR μ (o + 1) (putH (mI μ (o + 1)) n 4)) (0, 0)) : ∀ c f : Nat, f + c = 4 → EX (SX9_sends R X) 44 [some (.ref o), some (.int (nI n)), some (.int x2), some (.int x3), some (.int x4), some (.int (nI f))] [] [] (wR μ (o + 1) (putH (mI μ (o + 1)) n f)) (0, 0) := by
  obtain ⟨h1, h2, h3⟩ := id h0
  intro c
  induction c with
  | zero =>
    intro f hf
    have : f = 4 := by omega
    subst this
    rw [eX9_sends_44]
    simp only [eX9_sends_46, eX9_sends_47, eX9_sends_72, eX9_sends_73]
    exact ⟨fun _ => hR, fun h => absurd (by decide) h⟩
  | succ c ih =>
    intro f hf
    have ih := ih (f + 1) (by omega)
    unfold putH at ih
    rw [eX9_sends_44]
    simp only [eX9_sends_46, eX9_sends_47, eX9_sends_50, eX9_sends_51, eX9_sends_52, eX9_sends_54, eX9_sends_55, eX9_sends_58, eX9_sends_59, eX9_sends_61, eX9_sends_62, eX9_sends_63, eX9_sends_66, eX9_sends_69, gX9_0, h0, h1, h2, ht, tX9, obX9_wR, iA_wR, MoS_wR, qA5514, PX9_puts, QX9_puts, qa2, forall_eq, Int32.zero_add, vpS (show f < 5514 by omega), nIC (show f < 1000000 by omega), nIC (show n < 1000000 by omega), nI_1, true_and, wI_def, wR_wR, mI_wR_s, mS_wR, mS_wI, mS_wL, mN_wR, mN_wI, mN_wL, List.length_nil, List.length_cons, ll0, ll1, ll2, ll3, ll4, Nat.le_refl, and_true]
    exact ⟨fun h => absurd h (nI_ge (b := 4) (by omega) (by decide)), fun _ => ⟨⟨n, f, hn, by omega, rfl, rfl⟩, ih⟩⟩
theorem xX9_sends_l2 (o n r : Nat) (x2 x3 x4 : Int32) (t : Nat → Int32) (μ : qMM) (h0 : MoS μ o) (hn : n < 500) (hr : x3 = 0 ∨ x2 = nI r ∧ r < 500) (ht : ∃ t, mS μ o = some (Sum.inl (8, t))) (R : Option Value → qMM → Nat × Nat → Prop) (X : String → qMM → Nat × Nat → Prop) (hR : EX (SX9_sends R X) 121 [some (.ref o), some (.int (nI n)), some (.int x2), some (.int x3), some (.int x4), some (.int (nI 2))] [] [] (wR μ (o + 1) (putK t n x3 r 2)) (0, 0)) : ∀ c f : Nat, f + c = 2 → EX (SX9_sends R X) 75 [some (.ref o), some (.int (nI n)), some (.int x2), some (.int x3), some (.int x4), some (.int (nI f))] [] [] (wR μ (o + 1) (putK t n x3 r f)) (0, 0) := by
  obtain ⟨h1, h2, h3⟩ := id h0
  intro c
  induction c with
  | zero =>
    intro f hf
    have : f = 2 := by omega
    subst this
    rw [eX9_sends_75]
    simp only [eX9_sends_77, eX9_sends_78]
    exact ⟨fun _ => hR, fun h => absurd (by decide) h⟩
  | succ c ih =>
    intro f hf
    have ih := ih (f + 1) (by omega)
    unfold putK at ih
    have e : (4 : Int32) + nI f = nI (4 + f) := nI_add 4 f
    rw [eX9_sends_75]
    simp only [eX9_sends_77, eX9_sends_78, eX9_sends_81, eX9_sends_82, eX9_sends_83, eX9_sends_84, eX9_sends_86, eX9_sends_87, eX9_sends_88, eX9_sends_91, eX9_sends_92, eX9_sends_95, eX9_sends_96, eX9_sends_98, eX9_sends_99, eX9_sends_100, eX9_sends_103, eX9_sends_104, eX9_sends_105, eX9_sends_106, eX9_sends_108, eX9_sends_109, eX9_sends_112, eX9_sends_115, eX9_sends_118, gX9_0, h0, h1, h2, ht, tX9, obX9_wR, iA_wR, MoS_wR, qA5514, PX9_puts, QX9_puts, PX9_of, QX9_of, qa2, forall_eq, e, vpS (show 4 + f < 5514 by omega), nIC (show 4 + f < 1000000 by omega), nIC (show n < 1000000 by omega), nI_1, true_and, wI_def, wR_wR, mI_wR_s, mS_wR, mS_wI, mS_wL, mN_wR, mN_wI, mN_wL, List.length_nil, List.length_cons, ll0, ll1, ll2, ll3, ll4, Nat.le_refl, and_true]
    refine ⟨fun h => absurd h (nI_ge (b := 2) (by omega) (by decide)), fun _ => ⟨fun g => ?_, fun g => ⟨⟨n, 4 + f, hn, by omega, rfl, rfl⟩, ?_⟩⟩⟩
    · obtain ⟨rfl, hr9⟩ := Or.resolve_left hr g
      rw [if_neg g] at ih
      refine ⟨⟨r, 4 + f, hr9, by omega, rfl, rfl⟩, ⟨n, 4 + f, hn, by omega, rfl, rfl⟩, ?_⟩
      rw [nIC (show r < 1000000 by omega)]
      exact ih
    · rw [if_pos (Classical.not_not.mp g)] at ih
      exact ih
theorem xX9_sends_l3 (o n fw : Nat) (x2 x3 x4 : Int32) (a5 : Option Value) (t : Nat → Int32) (μ : qMM) (h0 : MoS μ o) (hn : n < 500) (hfw : fw ≤ 20) (hf : t 10 = nI fw) (ht : ∃ t, mS μ o = some (Sum.inl (8, t))) (R : Option Value → qMM → Nat × Nat → Prop) (X : String → qMM → Nat × Nat → Prop) (hR : R none (wR μ (o + 1) (joinF 10 (nI n) (sendT t n x2 x3 x4))) (0, 0)) : EX (SX9_sends R X) 121 [some (.ref o), some (.int (nI n)), some (.int x2), some (.int x3), some (.int x4), a5] [] [] (wR μ (o + 1) t) (0, 0) := by
  obtain ⟨h1, h2, h3⟩ := id h0
  have hs : sendT t n x2 x3 x4 10 = nI fw := by
    rw [← hf]
    unfold sendT
    simp only [updE]
    rw [if_neg (by decide), if_neg (by decide), if_neg (by decide), if_neg (by decide), if_neg (by omega), if_neg (by omega), if_neg (by omega), if_neg (by omega)]
  simp only [sendT] at hs hR
  obtain ⟨t1, e1⟩ : ∃ t1, upd (upd t (514 + 10 * n + 6) x4) (514 + 10 * n + 7) x3 = t1 := ⟨_, rfl⟩
  obtain ⟨t2, e2⟩ : ∃ t2, upd (upd (upd t1 (514 + 10 * n + 8) (if x3 = 0 then -1 else x2)) (514 + 10 * n + 9) 0) 8 0 = t2 := ⟨_, rfl⟩
  obtain ⟨t3, e3⟩ : ∃ t3, upd t2 64 (t2 64 + x4) = t3 := ⟨_, rfl⟩
  obtain ⟨t4, e4⟩ : ∃ t4, upd t3 63 (t3 63 + (if x3 = 0 then 1 else 0)) = t4 := ⟨_, rfl⟩
  rw [e1, e2, e3, e4] at hs hR
  have fin : EX (SX9_sends R X) 201 [some (.ref o), some (.int (nI n)), some (.int x2), some (.int x3), some (.int x4), a5] [] [] (wR μ (o + 1) t4) (0, 0) := by
    simp only [eX9_sends_201, eX9_sends_202, eX9_sends_205, eX9_sends_207, eX9_sends_208, eX9_sends_209, eX9_sends_210, eX9_sends_211, eX9_sends_212, eX9_sends_213, eX9_sends_215, eX9_sends_216, eX9_sends_219, gX9_0, h0, h1, h2, ht, tX9, obX9_wR, iA_wR, MoS_wR, qA5514, PX9_joins, QX9_joins, qa2, forall_eq, show (9 : Int32).toNatClampNeg = 9 from rfl, show (10 : Int32).toNatClampNeg = 10 from rfl, vpl 9 5514 (by decide +kernel), true_and, wI_def, wR_wR, mI_wR_s, hs, mS_wR, mS_wI, mS_wL, mN_wR, mN_wI, mN_wL, List.length_nil, List.length_cons, ll0, ll1, ll2, ll3, ll4, Nat.le_refl, and_true]
    exact ⟨⟨by simp, fw, hfw, rfl⟩, hR⟩
  have mid : EX (SX9_sends R X) 162 [some (.ref o), some (.int (nI n)), some (.int x2), some (.int x3), some (.int x4), a5] [] [] (wR μ (o + 1) (upd (upd t1 (514 + 10 * n + 8) (if x3 = 0 then -1 else x2)) (514 + 10 * n + 9) 0)) (0, 0) := by
    simp only [eX9_sends_162, eX9_sends_163, eX9_sends_166, eX9_sends_168, eX9_sends_169, eX9_sends_170, eX9_sends_171, eX9_sends_174, eX9_sends_176, eX9_sends_177, eX9_sends_178, eX9_sends_180, eX9_sends_181, eX9_sends_182, eX9_sends_183, eX9_sends_186, eX9_sends_188, eX9_sends_189, eX9_sends_190, eX9_sends_191, eX9_sends_194, eX9_sends_195, eX9_sends_198, eX9_sends_199, eX9_sends_200, gX9_0, h1, h2, obX9_wR, iA_wR, MoS_wR, qA5514, show (8 : Int32).toNatClampNeg = 8 from rfl, show (63 : Int32).toNatClampNeg = 63 from rfl, show (64 : Int32).toNatClampNeg = 64 from rfl, vpl 8 5514 (by decide +kernel), vpl 63 5514 (by decide +kernel), vpl 64 5514 (by decide +kernel), true_and, wI_def, wR_wR, mI_wR_s, e2, e3]
    by_cases g : x3 = 0
    · rw [if_pos g] at e4
      rw [e4]
      exact ⟨fun h => absurd g h, fun _ => fin⟩
    · rw [if_neg g] at e4
      rw [e4]
      exact ⟨fun _ => fin, fun h => absurd g h⟩
  have e5 : ∀ w : Nat, w < 10 → ∃ p w', p < 500 ∧ w' < 10 ∧ nI n = nI p ∧ nI w = nI w' := fun w hw => ⟨n, w, hn, hw, rfl, rfl⟩
  simp only [eX9_sends_121, eX9_sends_122, eX9_sends_123, eX9_sends_125, eX9_sends_127, eX9_sends_130, eX9_sends_131, eX9_sends_132, eX9_sends_134, eX9_sends_135, eX9_sends_138, eX9_sends_139, eX9_sends_140, eX9_sends_142, eX9_sends_143, eX9_sends_146, eX9_sends_147, eX9_sends_150, eX9_sends_151, eX9_sends_154, eX9_sends_155, eX9_sends_156, eX9_sends_158, eX9_sends_159, h0, ht, tX9, obX9_wR, iA_wR, MoS_wR, PX9_puts, QX9_puts, qa2, forall_eq, show (6 : Int32).toNatClampNeg = 6 from rfl, show (7 : Int32).toNatClampNeg = 7 from rfl, show (8 : Int32).toNatClampNeg = 8 from rfl, show (9 : Int32).toNatClampNeg = 9 from rfl, nIC (show n < 1000000 by omega), wR_wR, mI_wR_s, true_and, e1, mS_wR, mS_wI, mS_wL, mN_wR, mN_wI, mN_wL, List.length_nil, List.length_cons, ll0, ll1, ll2, ll3, ll4, Nat.le_refl, and_true]
  refine ⟨e5 6 (by decide), e5 7 (by decide), ?_⟩
  by_cases g : x3 = 0
  · rw [if_pos g] at mid
    exact ⟨fun h => absurd g h, fun _ => ⟨e5 8 (by decide), e5 9 (by decide), mid⟩⟩
  · rw [if_neg g] at mid
    exact ⟨fun _ => ⟨e5 8 (by decide), e5 9 (by decide), mid⟩, fun h => absurd g h⟩
theorem xX9_sends (o : Nat) (μ : qMM) (ht : ∃ t, mS μ o = some (.inl (8, t))) (hp : PX9_sends o μ) : EX (SX9_sends (rtv 0 0 (QX9_sends o μ)) (fun _ _ _ => False)) 0 [some (.ref o), none, none, none, none, none] [] [] μ (0, 0) := by
  obtain ⟨h0, ⟨n, hn, hl⟩, fw, hfw, hf⟩ := hp
  obtain ⟨h1, h2, h3⟩ := id h0
  have hno : nOf (mI μ (o + 1)) = n := by
    unfold nOf
    rw [hl, nIC (by omega)]
  obtain ⟨r, hr⟩ : ∃ r : Nat, formF (mI μ (o + 1)) = 0 ∨ refF (mI μ (o + 1)) = nI r ∧ r < 500 := by
    rcases trust_r (ackF (mI μ (o + 1))) (mI μ (o + 1) 7) (nOf (mI μ (o + 1))) (nOf (mI μ (o + 1))) with h | ⟨m, h3, h4, h5⟩
    · exact ⟨0, Or.inl (by unfold formF refF; rw [if_pos (Or.inl h)])⟩
    · exact ⟨m, Or.inr ⟨h5, by omega⟩⟩
  have h := xX9_sends_l1 o n (refF (mI μ (o + 1))) (formF (mI μ (o + 1))) (sizeF (mI μ (o + 1)) (formF (mI μ (o + 1))) (refF (mI μ (o + 1)))) μ h0 hn ht (rtv 0 0 (QX9_sends o μ)) (fun _ _ _ => False) (xX9_sends_l2 o n r _ _ _ (putH (mI μ (o + 1)) n 4) μ h0 hn hr ht (rtv 0 0 (QX9_sends o μ)) (fun _ _ _ => False) ?_ 2 0 rfl) 4 0 rfl
  · have e : wR μ (o + 1) (putH (mI μ (o + 1)) n 0) = μ := wR_self
    rw [e] at h
    simp only [eX9_sends_0, eX9_sends_1, eX9_sends_4, eX9_sends_6, eX9_sends_7, eX9_sends_8, eX9_sends_9, eX9_sends_10, eX9_sends_13, eX9_sends_15, eX9_sends_16, eX9_sends_19, eX9_sends_20, eX9_sends_21, eX9_sends_22, eX9_sends_25, eX9_sends_27, eX9_sends_28, eX9_sends_29, eX9_sends_32, eX9_sends_33, eX9_sends_34, eX9_sends_35, eX9_sends_36, eX9_sends_39, eX9_sends_41, eX9_sends_42, gX9_0, h0, h1, h2, ht, tX9, qA5514, PX9_trusted, QX9_trusted, PX9_formFor, QX9_formFor, PX9_sizeOf, QX9_sizeOf, qa2, hl, vpl 9 5514 (by decide +kernel), vpl 7 5514 (by decide +kernel), vpl 6 5514 (by decide +kernel), show (9 : Int32).toNatClampNeg = 9 from rfl, show (7 : Int32).toNatClampNeg = 7 from rfl, show (6 : Int32).toNatClampNeg = 6 from rfl, true_and, List.length_nil, List.length_cons, ll0, ll1, ll2, ll3, ll4, Nat.le_refl, and_true]
    refine ⟨⟨n, by omega, rfl⟩, ?_, h⟩
    rcases hr with h | ⟨h, h'⟩
    · exact Or.inl h
    · exact Or.inr ⟨r, h', h⟩
  · have hz : ∀ (t : Nat → Int32) (k j : Nat), j < 66 → putH t n k j = t j := by
      intro t k j hj
      induction k with
      | zero => rfl
      | succ k ih => unfold putH upd; rw [if_neg (by omega), ih]
    have hz2 : ∀ (t : Nat → Int32) (x : Int32) (r k j : Nat), j < 66 → putK t n x r k j = t j := by
      intro t x r k j hj
      induction k with
      | zero => rfl
      | succ k ih => unfold putK upd; rw [if_neg (by omega), ih]
    refine xX9_sends_l3 o n fw _ _ _ _ _ μ h0 hn hfw ?_ ht (rtv 0 0 (QX9_sends o μ)) (fun _ _ _ => False) ?_
    · rw [hz2 _ _ _ _ _ (by decide), hz _ _ _ (by decide), hf]
    · simp only [rtv_at, QX9_sends, sendF, sendG, hno, Nat.le_refl, and_true]
      rcases hr with h | ⟨h, h'⟩
      · have hk : ∀ k, putK (putH (mI μ (o + 1)) n 4) n 0 r k = putK (putH (mI μ (o + 1)) n 4) n 0 (refF (mI μ (o + 1))).toNatClampNeg k := by
          intro k
          induction k with
          | zero => rfl
          | succ k ih => unfold putK; rw [ih, if_pos rfl, if_pos rfl]
        rw [h, hk]
      · rw [h, nIC (by omega)]
