/-! ===== bodies: the reference's sender and receiver ===== -/
theorem trust_r (ack : Nat → Int32) (c : Int32) (n : Nat) : ∀ k : Nat, trust ack c n k = -1 ∨ ∃ m, m < k ∧ n - m ≤ 15 ∧ trust ack c n k = nI m
  | 0 => Or.inl rfl
  | m + 1 => by
    unfold trust
    by_cases h1 : n - m ≤ 15
    · rw [if_pos h1]
      by_cases h2 : ack m = 1 ∨ (0 < c ∧ c ≤ nI (n - m))
      · rw [if_pos h2]
        exact Or.inr ⟨m, by omega, h1, rfl⟩
      · rw [if_neg h2]
        rcases trust_r ack c n m with h | ⟨m', h3, h4, h5⟩
        · exact Or.inl h
        · exact Or.inr ⟨m', by omega, h4, h5⟩
    · rw [if_neg h1]
      exact Or.inl rfl
theorem nI_m1 {n : Nat} (h : n < 2 ^ 31) : ¬ nI n = -1 := fun q => by
  have := nI_pos h
  rw [q] at this
  exact this (by decide)
theorem xX9_trusted_l (o n : Nat) (x1 : Int32) (μ : qMM) (h0 : MoS μ o) (hn : n ≤ 500) (R : Option Value → qMM → Nat × Nat → Prop) (X : String → qMM → Nat × Nat → Prop) : ∀ k : Nat, k ≤ n → R (some (.int (trust (ackF (mI μ (o + 1))) x1 n k))) μ (0, 0) → EX (SX9_trusted R X) 12 [some (.ref o), some (.int x1), some (.int (nI n)), some (.int (nI k - 1))] [] [] μ (0, 0) := by
  obtain ⟨h1, h2, h3⟩ := id h0
  intro k
  induction k with
  | zero =>
    intro hk hR
    rw [eX9_trusted_12]
    simp only [eX9_trusted_13, eX9_trusted_54, eX9_trusted_55, qOk, true_and]
    exact ⟨fun _ => hR, fun h => absurd (by decide) h⟩
  | succ m ih =>
    intro hk hR
    have e1 : nI (m + 1) - 1 = nI m := by
      show nI (m + 1) - nI 1 = _
      rw [pk_sub (by omega)]
      rfl
    have e2 : nI n - nI m = nI (n - m) := pk_sub (by omega)
    have e3 : nI m + -1 = nI m - 1 := by
      rw [← Int32.sub_eq_add_neg]
    unfold trust at hR
    rw [e1, eX9_trusted_12]
    simp only [eX9_trusted_13, eX9_trusted_16, eX9_trusted_17, eX9_trusted_18, eX9_trusted_19, eX9_trusted_21, eX9_trusted_24, eX9_trusted_25, eX9_trusted_26, eX9_trusted_28, eX9_trusted_31, eX9_trusted_32, eX9_trusted_35, eX9_trusted_36, eX9_trusted_39, eX9_trusted_40, eX9_trusted_41, eX9_trusted_42, eX9_trusted_43, eX9_trusted_46, eX9_trusted_47, eX9_trusted_48, eX9_trusted_51, eX9_trusted_54, eX9_trusted_55, e2, e3, h0, tX9, h1, PX9_of, QX9_of, qa2, true_and, qOk, nIC (show m < 1000000 by omega), show (9 : Int32).toNatClampNeg = 9 from rfl, List.length_nil, List.length_cons]
    refine ⟨fun h => absurd h (nI_pos (by omega)), fun _ => ⟨fun h => ?_, fun h => ⟨by simp, by simp, by simp, ⟨m, 9, by omega, by omega, rfl, rfl⟩, ?_⟩⟩⟩
    · have : ¬ n - m ≤ 15 := fun q => absurd h (Int32.not_lt.mpr (nI_le (b := 15) q (by decide)))
      rw [if_neg this] at hR
      exact hR
    · have : n - m ≤ 15 := by
        rcases Nat.lt_or_ge 15 (n - m) with q | q
        · exact absurd (nI_lt (a := 15) q (by omega)) h
        · exact q
      rw [if_pos this] at hR
      by_cases g : mI μ (o + 1) (514 + 10 * m + 9) = 1
      · rw [if_pos (Or.inl g)] at hR
        exact ⟨fun _ => hR, fun h => absurd g h⟩
      · refine ⟨fun h => absurd h g, fun _ => ?_⟩
        by_cases g2 : 0 < x1
        · by_cases g3 : x1 ≤ nI (n - m)
          · rw [if_pos (Or.inr ⟨g2, g3⟩)] at hR
            exact ⟨fun h => absurd g2 (Int32.not_lt.mpr h), fun _ => ⟨fun h => absurd g3 (Int32.not_le.mpr h), fun _ => hR⟩⟩
          · rw [if_neg (fun q => q.elim g (fun z => g3 z.2))] at hR
            exact ⟨fun h => absurd g2 (Int32.not_lt.mpr h), fun _ => ⟨fun _ => ih (by omega) hR, fun h => absurd (Int32.not_le.mp g3) h⟩⟩
        · rw [if_neg (fun q => q.elim g (fun z => g2 z.1))] at hR
          exact ⟨fun _ => ih (by omega) hR, fun h => absurd (Int32.not_lt.mp g2) h⟩
theorem xX9_trusted (o : Nat) (x1 : Int32) (μ : qMM) (ht : ∃ t, mS μ o = some (.inl (8, t))) (hp : PX9_trusted o x1 μ) : EX (SX9_trusted (rti 0 0 (QX9_trusted o x1 μ)) (fun _ _ _ => False)) 0 [some (.ref o), some (.int x1), none, none] [] [] μ (0, 0) := by
  obtain ⟨h0, n, hn, hl⟩ := hp
  obtain ⟨h1, h2, h3⟩ := id h0
  have h := xX9_trusted_l o n x1 μ h0 hn (rti 0 0 (QX9_trusted o x1 μ)) (fun _ _ _ => False) n (Nat.le_refl _) (by simp [rti_at, QX9_trusted, hl, nIC (show n < 1000000 by omega)])
  simp only [eX9_trusted_0, eX9_trusted_1, eX9_trusted_4, eX9_trusted_6, eX9_trusted_7, eX9_trusted_8, eX9_trusted_9, eX9_trusted_10, eX9_trusted_11, gX9_0, h1, h2, qA5514, vpl 9 5514 (by decide +kernel), true_and, show (9 : Int32).toNatClampNeg = 9 from rfl, hl]
  exact h
theorem xX9_senderBase (o : Nat) (x1 : Int32) (x2 : Int32) (x3 : Int32) (x4 : Int32) (μ : qMM) (ht : ∃ t, mS μ o = some (.inl (8, t))) (hp : PX9_senderBase o x1 x2 x3 x4 μ) : EX (SX9_senderBase (rti 0 0 (QX9_senderBase o x1 x2 x3 x4 μ)) (fun _ _ _ => False)) 0 [some (.ref o), some (.int x1), some (.int x2), some (.int x3), some (.int x4)] [] [] μ (0, 0) := by
  obtain ⟨h0, r, f, hr, hf, rfl, rfl⟩ := hp
  have e1 : (3 : Int32) + nI f = nI (3 + f) := nI_add 3 f
  have hi : ((1 : Int32) ≤ nI f ∧ nI f ≤ 2) ↔ (1 ≤ f ∧ f ≤ 2) := by
    have a1 : (1 : Int32) ≤ nI f ↔ 1 ≤ f := nI_leI (a := 1) (by decide) (by omega)
    have a2 : nI f ≤ 2 ↔ f ≤ 2 := nI_leI (b := 2) (by omega) (by decide)
    rw [a1, a2]
  simp only [eX9_senderBase_0, eX9_senderBase_1, eX9_senderBase_3, eX9_senderBase_4, eX9_senderBase_5, eX9_senderBase_7, eX9_senderBase_10, eX9_senderBase_12, eX9_senderBase_13, eX9_senderBase_14, eX9_senderBase_17, eX9_senderBase_20, eX9_senderBase_21, eX9_senderBase_22, eX9_senderBase_23, eX9_senderBase_25, eX9_senderBase_26, eX9_senderBase_29, eX9_senderBase_32, eX9_senderBase_33, eX9_senderBase_34, eX9_senderBase_37, rtv_at, rti_at, rtj_at, rtd_at, rta_at, qOk, qOkR, h0, tX9, ht, PX9_of, QX9_of, PX9_in, QX9_in, PX9_baseOf, QX9_baseOf, qa2, true_and, e1, hi, nIC (show r < 1000000 by omega), nIC (show f < 1000000 by omega), nIC (show 3 + f < 1000000 by omega), QX9_senderBase, sbF, List.length_nil, List.length_cons]
  refine ⟨by simp, by simp, by simp, ⟨r, f, hr, by omega, rfl, rfl⟩, by simp, ?_⟩
  by_cases g : 1 ≤ f ∧ f ≤ 2
  · simp [g]
    exact ⟨r, hr, 3 + f, by omega, rfl, rfl⟩
  · simp [g]
