/-! ===== bodies: the face, what it tells ===== -/
theorem xX8_highest (o : Nat) (μ : qMM) (ht : ∃ t, mS μ o = some (.inl (7, t))) (hp : PX8_highest o μ) : EX (SX8_highest (rti 0 0 (QX8_highest o μ)) (fun _ _ _ => False)) 0 [some (.ref o)] [] [] μ (0, 0) := by
  obtain ⟨H, m, hP⟩ := hp
  obtain ⟨k1, k2, k3, k4, k5, k6⟩ := id hP.1
  obtain ⟨s1, s2, s3, s4, s5⟩ := id k3
  obtain ⟨c0, l0, iv⟩ := HsP_cs hP
  simp only [eX8_highest_0, eX8_highest_1, eX8_highest_4, eX8_highest_7, eX8_highest_10, rtv_at, rti_at, rtj_at, rtd_at, rta_at, qOk, qOkR, gX8_0, gX6_1, gX2_4 (o + 1), k1, s1, s3.1, qOk, List.length_nil, List.length_cons, ll0, ll1, ll2, ll3, ll4, Nat.le_refl, and_true, one0, eq_self, or_true, true_or, not_true_eq_false, not_false_eq_true, true_imp_iff, false_imp_iff, true_and, and_true, Classical.not_not]
  intro H m hP
  exact Q_tel2 hP (by rw [(HsP_cs hP).1.2.1.1.2.2.2.1]; rfl)
theorem xX8_lateness (o : Nat) (μ : qMM) (ht : ∃ t, mS μ o = some (.inl (7, t))) (hp : PX8_lateness o μ) : EX (SX8_lateness (rti 0 0 (QX8_lateness o μ)) (fun _ _ _ => False)) 0 [some (.ref o)] [] [] μ (0, 0) := by
  obtain ⟨H, m, hP⟩ := hp
  obtain ⟨k1, k2, k3, k4, k5, k6⟩ := id hP.1
  obtain ⟨s1, s2, s3, s4, s5⟩ := id k3
  obtain ⟨c0, l0, iv⟩ := HsP_cs hP
  simp only [eX8_lateness_0, eX8_lateness_1, eX8_lateness_4, eX8_lateness_7, eX8_lateness_10, rtv_at, rti_at, rtj_at, rtd_at, rta_at, qOk, qOkR, gX8_0, gX6_1, gX2_7 (o + 1), k1, s1, s3.1, qOk, List.length_nil, List.length_cons, ll0, ll1, ll2, ll3, ll4, Nat.le_refl, and_true, one0, eq_self, or_true, true_or, not_true_eq_false, not_false_eq_true, true_imp_iff, false_imp_iff, true_and, and_true, Classical.not_not]
  intro H m hP
  exact Q_tel2 hP (by rw [(HsP_cs hP).1.2.1.1.2.2.2.2.2.2]; rfl)
theorem xX8_saved (o : Nat) (μ : qMM) (ht : ∃ t, mS μ o = some (.inl (7, t))) (hp : PX8_saved o μ) : EX (SX8_saved (rti 0 0 (QX8_saved o μ)) (fun _ _ _ => False)) 0 [some (.ref o)] [] [] μ (0, 0) := by
  obtain ⟨H, m, hP⟩ := hp
  obtain ⟨k1, k2, k3, k4, k5, k6⟩ := id hP.1
  obtain ⟨s1, s2, s3, s4, s5⟩ := id k3
  obtain ⟨c0, l0, iv⟩ := HsP_cs hP
  have t5 := tX5 (o + 1) s2.1
  have ps : PX5_savedBytes (o + 1007 + 5) μ := ⟨o + 1, s2⟩
  simp only [eX8_saved_0, eX8_saved_1, eX8_saved_4, eX8_saved_7, eX8_saved_10, rtv_at, rti_at, rtj_at, rtd_at, rta_at, qOk, qOkR, gX8_0, gX6_0, k1, s1, t5, ps, QX5_savedBytes, qa2, qOk, List.length_nil, List.length_cons, ll0, ll1, ll2, ll3, ll4, Nat.le_refl, and_true, one0, eq_self, or_true, true_or, not_true_eq_false, not_false_eq_true, true_imp_iff, false_imp_iff, true_and, and_true, Classical.not_not]
  intro H m hP
  refine Q_tel2 hP ?_
  have e := (HsP_cs hP).1.1
  rw [e.2.2.2.2.1, e.2.2.2.2.2.2.1, Int32.mul_comm]
  rfl
theorem xX8_records (o : Nat) (μ : qMM) (ht : ∃ t, mS μ o = some (.inl (7, t))) (hp : PX8_records o μ) : EX (SX8_records (rti 0 0 (QX8_records o μ)) (fun _ _ _ => False)) 0 [some (.ref o)] [] [] μ (0, 0) := by
  obtain ⟨H, m, hP⟩ := hp
  obtain ⟨k1, k2, k3, k4, k5, k6⟩ := id hP.1
  obtain ⟨s1, s2, s3, s4, s5⟩ := id k3
  obtain ⟨c0, l0, iv⟩ := HsP_cs hP
  have t7 := tX7 s3.2.2.1.1
  have ps : PX7_size (o + 1007 + 10 + 2) μ := s3.2.2.1
  simp only [eX8_records_0, eX8_records_1, eX8_records_4, eX8_records_7, eX8_records_10, eX8_records_13, rtv_at, rti_at, rtj_at, rtd_at, rta_at, qOk, qOkR, gX8_0, gX6_1, gX2_9 (o + 1), k1, s1, s3.1, t7, ps, QX7_size, qa2, qOk, List.length_nil, List.length_cons, ll0, ll1, ll2, ll3, ll4, Nat.le_refl, and_true, one0, eq_self, or_true, true_or, not_true_eq_false, not_false_eq_true, true_imp_iff, false_imp_iff, true_and, and_true, Classical.not_not]
  intro H m hP
  refine Q_tel2 hP ?_
  have e := (HsP_cs hP).1.2.1.2.2
  have := cnt_many (f := mI μ (o + 1007 + 10 + 2 + 1)) (s := m.s) 64 (fun k hk => (e k hk).1)
  rw [this]
  rfl
theorem xX8_count (o : Nat) (x1 : Int32) (μ : qMM) (ht : ∃ t, mS μ o = some (.inl (7, t))) (hp : PX8_count o x1 μ) : EX (SX8_count (rti 1 6 (QX8_count o x1 μ)) (thX μ (TX8_count o x1 μ))) 0 [some (.ref o), some (.int x1)] [] [] μ (0, 0) := by
  obtain ⟨H, m, hP⟩ := hp
  obtain ⟨k1, k2, k3, k4, k5, k6⟩ := id hP.1
  obtain ⟨s1, s2, s3, s4, s5⟩ := id k3
  obtain ⟨c0, l0, iv⟩ := HsP_cs hP
  have t6 := tX6 s1
  by_cases g : inR x1 0 7
  · obtain ⟨j, hj, rfl⟩ := inR_idx (b := 7) (by decide) g
    have ps : PX6_countOf (o + 1007) (nI j) μ := ⟨⟨o + 1, k3⟩, j, by omega, rfl⟩
    simp only [eX8_count_0, eX8_count_1, eX8_count_2, eX8_count_4, eX8_count_7, eX8_count_10, eX8_count_20, eX8_count_21, eX8_count_24, eX8_count_25, eX8_count_28, rtv_at, rti_at, rtj_at, rtd_at, rta_at, qOk, qOkR, PX8_inRange, QX8_inRange, if_pos g, gX8_0, k1, t6, ps, qa2, qOk, List.length_nil, List.length_cons, ll0, ll1, ll2, ll3, ll4, Nat.le_refl, and_true, Nat.zero_add, Nat.add_zero, Nat.zero_le, thX, one0, eq_self, or_true, true_or, not_true_eq_false, not_false_eq_true, true_imp_iff, false_imp_iff, true_and, and_true, Classical.not_not]
    intro r μ' q
    obtain ⟨q1, hμ⟩ := q
    have hμ' := hμ.symm
    subst hμ'
    intro H m hP
    refine Q_tel hP ?_
    unfold countA
    rw [if_pos g, q1 m.s (HsP_cs hP).1]
  · simp only [eX8_count_0, eX8_count_1, eX8_count_2, eX8_count_4, eX8_count_7, eX8_count_10, eX8_count_20, eX8_count_21, eX8_count_24, eX8_count_25, eX8_count_28, rtv_at, rti_at, rtj_at, rtd_at, rta_at, qOk, qOkR, PX8_inRange, QX8_inRange, if_neg g, qa2, qOk, List.length_nil, List.length_cons, ll0, ll1, ll2, ll3, ll4, Nat.le_refl, and_true, Nat.zero_add, Nat.add_zero, Nat.zero_le, thX, one0, eq_self, or_true, true_or, not_true_eq_false, not_false_eq_true, true_imp_iff, false_imp_iff, true_and, and_true, Classical.not_not]
    intro H m hP
    unfold countA
    rw [if_neg g]
    exact ⟨rfl, fai6⟩
theorem xX8_numberFor (o : Nat) (x1 : Int32) (μ : qMM) (ht : ∃ t, mS μ o = some (.inl (7, t))) (hp : PX8_numberFor o x1 μ) : EX (SX8_numberFor (rti 1 6 (QX8_numberFor o x1 μ)) (thX μ (TX8_numberFor o x1 μ))) 0 [some (.ref o), some (.int x1)] [] [] μ (0, 0) := by
  obtain ⟨H, m, hP⟩ := hp
  obtain ⟨k1, k2, k3, k4, k5, k6⟩ := id hP.1
  obtain ⟨s1, s2, s3, s4, s5⟩ := id k3
  obtain ⟨c0, l0, iv⟩ := HsP_cs hP
  have t2 := tX2 (o + 1) s3.1
  by_cases g : inR x1 0 63
  · have ps : PX2_numberOf (o + 1007 + 10) x1 μ := ⟨o + 1, s3⟩
    simp only [eX8_numberFor_0, eX8_numberFor_1, eX8_numberFor_2, eX8_numberFor_4, eX8_numberFor_7, eX8_numberFor_10, eX8_numberFor_20, eX8_numberFor_21, eX8_numberFor_24, eX8_numberFor_27, eX8_numberFor_28, eX8_numberFor_31, rtv_at, rti_at, rtj_at, rtd_at, rta_at, qOk, qOkR, PX8_inRange, QX8_inRange, if_pos g, gX8_0, gX6_1, k1, s1, t2, ps, QX2_numberOf, qa2, qOk, List.length_nil, List.length_cons, ll0, ll1, ll2, ll3, ll4, Nat.le_refl, and_true, Nat.zero_add, Nat.add_zero, Nat.zero_le, thX, one0, eq_self, or_true, true_or, not_true_eq_false, not_false_eq_true, true_imp_iff, false_imp_iff, true_and, and_true, Classical.not_not]
    intro H m hP
    refine Q_tel hP ?_
    unfold numberForA
    have e := (HsP_cs hP).1.2.1.1
    rw [if_pos g, e.1, e.2.2.2.1]
    rfl
  · simp only [eX8_numberFor_0, eX8_numberFor_1, eX8_numberFor_2, eX8_numberFor_4, eX8_numberFor_7, eX8_numberFor_10, eX8_numberFor_20, eX8_numberFor_21, eX8_numberFor_24, eX8_numberFor_27, eX8_numberFor_28, eX8_numberFor_31, rtv_at, rti_at, rtj_at, rtd_at, rta_at, qOk, qOkR, PX8_inRange, QX8_inRange, if_neg g, qa2, qOk, List.length_nil, List.length_cons, ll0, ll1, ll2, ll3, ll4, Nat.le_refl, and_true, Nat.zero_add, Nat.add_zero, Nat.zero_le, thX, one0, eq_self, or_true, true_or, not_true_eq_false, not_false_eq_true, true_imp_iff, false_imp_iff, true_and, and_true, Classical.not_not]
    intro H m hP
    unfold numberForA
    rw [if_neg g]
    exact ⟨rfl, fai6⟩
theorem xX8_record (o : Nat) (x1 : Int32) (x2 : Int32) (μ : qMM) (ht : ∃ t, mS μ o = some (.inl (7, t))) (hp : PX8_record o x1 x2 μ) : EX (SX8_record (rti 1 6 (QX8_record o x1 x2 μ)) (thX μ (TX8_record o x1 x2 μ))) 0 [some (.ref o), some (.int x1), some (.int x2)] [] [] μ (0, 0) := by
  obtain ⟨H, m, hP⟩ := hp
  obtain ⟨k1, k2, k3, k4, k5, k6⟩ := id hP.1
  obtain ⟨s1, s2, s3, s4, s5⟩ := id k3
  obtain ⟨c0, l0, iv⟩ := HsP_cs hP
  have t7 := tX7 s3.2.2.1.1
  have bad : ¬ (inR x1 0 999 ∧ inR x2 0 5) → thX μ (TX8_record o x1 x2 μ) "java/lang/IllegalArgumentException" μ (0, 0) := fun g => by
    refine ⟨fun H m hP => ?_, rfl, Nat.le_refl _, Nat.le_refl _⟩
    unfold recordA
    rw [if_neg g]
    exact ⟨rfl, fai6⟩
  by_cases g : inR x1 0 999
  · by_cases g2 : inR x2 0 5
    · obtain ⟨j, hj, rfl⟩ := inR_idx (b := 5) (by decide) g2
      have ps : PX7_valueOf (o + 1007 + 10 + 2) x1 (nI j) μ := ⟨s3.2.2.1, vp6 (by omega)⟩
      simp only [eX8_record_0, eX8_record_1, eX8_record_2, eX8_record_5, eX8_record_8, eX8_record_11, eX8_record_12, eX8_record_13, eX8_record_14, eX8_record_17, eX8_record_20, eX8_record_30, eX8_record_31, eX8_record_34, eX8_record_37, eX8_record_40, eX8_record_41, eX8_record_42, eX8_record_45, rtv_at, rti_at, rtj_at, rtd_at, rta_at, qOk, qOkR, PX8_inRange, QX8_inRange, if_pos g, if_pos g2, gX8_0, gX6_1, gX2_9 (o + 1), k1, s1, s3.1, t7, ps, QX7_valueOf, qa2, qOk, List.length_nil, List.length_cons, ll0, ll1, ll2, ll3, ll4, Nat.le_refl, and_true, Nat.zero_add, Nat.add_zero, Nat.zero_le, thX, one0, eq_self, or_true, true_or, not_true_eq_false, not_false_eq_true, true_imp_iff, false_imp_iff, true_and, and_true, Classical.not_not]
      intro H m hP
      refine Q_tel hP ?_
      unfold recordA
      rw [if_pos ⟨g, g2⟩, nI_clamp (by omega), ← val_rec (HsP_cs hP).1.2.1 x1 (w := j) (by omega)]
      rfl
    · have b := bad (fun z => g2 z.2)
      simp only [eX8_record_0, eX8_record_1, eX8_record_2, eX8_record_5, eX8_record_8, eX8_record_11, eX8_record_12, eX8_record_13, eX8_record_14, eX8_record_17, eX8_record_20, eX8_record_30, eX8_record_31, eX8_record_34, eX8_record_37, eX8_record_40, eX8_record_41, eX8_record_42, eX8_record_45, PX8_inRange, QX8_inRange, if_pos g, if_neg g2, qa2, qOk, List.length_nil, List.length_cons, ll0, ll1, ll2, ll3, ll4, Nat.le_refl, and_true, Nat.zero_add, Nat.add_zero, Nat.zero_le, one0, eq_self, or_true, true_or, not_true_eq_false, not_false_eq_true, true_imp_iff, false_imp_iff, true_and, and_true, Classical.not_not]
      exact b
  · have b := bad (fun z => g z.1)
    simp only [eX8_record_0, eX8_record_1, eX8_record_2, eX8_record_5, eX8_record_8, eX8_record_11, eX8_record_12, eX8_record_13, eX8_record_14, eX8_record_17, eX8_record_20, eX8_record_30, eX8_record_31, eX8_record_34, eX8_record_37, eX8_record_40, eX8_record_41, eX8_record_42, eX8_record_45, PX8_inRange, QX8_inRange, if_neg g, qa2, qOk, List.length_nil, List.length_cons, ll0, ll1, ll2, ll3, ll4, Nat.le_refl, and_true, Nat.zero_add, Nat.add_zero, Nat.zero_le, one0, eq_self, or_true, true_or, not_true_eq_false, not_false_eq_true, true_imp_iff, false_imp_iff, true_and, and_true, Classical.not_not]
    exact b
theorem xX8_sizeWith (o : Nat) (x1 : Int32) (x2 : Int32) (μ : qMM) (ht : ∃ t, mS μ o = some (.inl (7, t))) (hp : PX8_sizeWith o x1 x2 μ) : EX (SX8_sizeWith (rti 1 6 (QX8_sizeWith o x1 x2 μ)) (thX μ (TX8_sizeWith o x1 x2 μ))) 0 [some (.ref o), some (.int x1), some (.int x2)] [] [] μ (0, 0) := by
  obtain ⟨H, m, hP⟩ := hp
  obtain ⟨k1, k2, k3, k4, k5, k6⟩ := id hP.1
  obtain ⟨s1, s2, s3, s4, s5⟩ := id k3
  obtain ⟨c0, l0, iv⟩ := HsP_cs hP
  have t5 := tX5 (o + 1) s2.1
  have bad : ¬ polR x1 x2 → thX μ (TX8_sizeWith o x1 x2 μ) "java/lang/IllegalArgumentException" μ (0, 0) := fun g => by
    refine ⟨fun H m hP => ?_, rfl, Nat.le_refl _, Nat.le_refl _⟩
    unfold sizeWithA
    rw [if_neg g]
    exact ⟨rfl, fai6⟩
  have hn := nOf_le iv
  have e59 : mI μ (o + 1007 + 5) 5 = nI (nOf m.s) := by rw [c0.1.2.2.2.2.1]; exact hn.2
  by_cases g : 0 ≤ x1 ∧ x1 ≤ 2
  · by_cases g2 : 0 ≤ x2 ∧ x2 ≤ 15
    · have pu : PX5_usedReference (o + 1007 + 5) x1 x2 μ := ⟨⟨o + 1, s2⟩, nOf m.s, hn.1, e59⟩
      have eu : useC μ (o + 1007 + 5) x1 x2 = -1 ∨ ∃ r : Nat, r < 500 ∧ useC μ (o + 1007 + 5) x1 x2 = nI r := by
        unfold useC
        by_cases z : x1 = 0 ∨ ¬ mI μ (o + 1007 + 5) 4 = 0
        · exact Or.inl (if_pos z)
        · rw [if_neg z]
          rcases trust_r (mI μ (o + 1007 + 5 + 2)) x2 (mI μ (o + 1007 + 5) 5).toNatClampNeg (mI μ (o + 1007 + 5) 5).toNatClampNeg with w | ⟨r, w1, w2, w3⟩
          · exact Or.inl w
          · rw [e59, nI_clamp (by omega)] at w1
            exact Or.inr ⟨r, by omega, w3⟩
      have pz : PX5_sizeFrom (o + 1007 + 5) (useC μ (o + 1007 + 5) x1 x2) x1 μ := ⟨⟨o + 1, s2, k2, by omega⟩, eu, hP.2.1⟩
      simp only [eX8_sizeWith_0, eX8_sizeWith_1, eX8_sizeWith_2, eX8_sizeWith_3, eX8_sizeWith_6, eX8_sizeWith_9, eX8_sizeWith_10, eX8_sizeWith_11, eX8_sizeWith_13, eX8_sizeWith_16, eX8_sizeWith_19, eX8_sizeWith_29, eX8_sizeWith_30, eX8_sizeWith_33, eX8_sizeWith_36, eX8_sizeWith_37, eX8_sizeWith_40, eX8_sizeWith_43, eX8_sizeWith_44, eX8_sizeWith_45, eX8_sizeWith_48, eX8_sizeWith_49, eX8_sizeWith_52, rtv_at, rti_at, rtj_at, rtd_at, rta_at, qOk, qOkR, PX8_inRange, QX8_inRange, if_pos g, if_pos g2, gX8_0, gX6_0, k1, s1, t5, pu, QX5_usedReference, pz, sizeFrom_Q s2, qa2, qOk, List.length_nil, List.length_cons, ll0, ll1, ll2, ll3, ll4, Nat.le_refl, and_true, Nat.zero_add, Nat.add_zero, Nat.zero_le, thX, one0, eq_self, or_true, true_or, not_true_eq_false, not_false_eq_true, true_imp_iff, false_imp_iff, true_and, and_true, Classical.not_not]
      intro H m hP
      have hcs := HsP_cs hP
      obtain ⟨c0, l0, iv⟩ := hcs
      have hn := nOf_le iv
      have et : truC μ (o + 1007 + 5) x2 = truF m.s x2 := by
        unfold truC truF
        rw [c0.1.2.2.2.2.1]
        exact trust_congr (fun p hp => c0.1.2.2.2.2.2.2.2 p hp) _ (Nat.le_refl _)
      have e8 : mI μ (o + 1007 + 5) 4 = m.s 8 := c0.1.2.2.2.1
      have h8 := iv.2.2.2.2.2.2.2.1
      have hz : (if truF m.s x2 = -1 ∨ m.s 8 = 1 then 0 else x1) = 0 ↔ useC μ (o + 1007 + 5) x1 x2 = -1 := by
        unfold useC
        rw [et, e8]
        by_cases z1 : truF m.s x2 = -1
        · rw [if_pos (Or.inl z1), z1]
          exact ⟨fun _ => by split <;> rfl, fun _ => rfl⟩
        · rcases h8 with z2 | z2
          · rw [z2, if_neg (show ¬ (truF m.s x2 = -1 ∨ (0 : Int32) = 1) from fun z => z.elim z1 (by decide))]
            by_cases z3 : x1 = 0
            · rw [if_pos (Or.inl z3)]
              exact ⟨fun _ => rfl, fun _ => z3⟩
            · rw [if_neg (fun z => z.elim z3 (fun z => z rfl))]
              exact ⟨fun z => absurd z z3, fun z => absurd z z1⟩
          · rw [z2, if_pos (Or.inr rfl), if_pos (Or.inr (by decide))]
            exact ⟨fun _ => rfl, fun _ => rfl⟩
      have hb : ∀ b, b ≠ o + 1007 + 5 + 3 → b ≠ o + 1007 + 5 + 4 → mI (if useC μ (o + 1007 + 5) x1 x2 = -1 then μ else wR (wR μ (o + 1007 + 5 + 3) (bsC μ (o + 1) (o + 1007 + 5) (useC μ (o + 1007 + 5) x1 x2) x1)) (o + 1007 + 5 + 4) (rlC μ (o + 1) (o + 1007 + 5) (useC μ (o + 1007 + 5) x1 x2) x1)) b = mI μ b := fun b b1 b2 => by
        split
        · rfl
        · rw [mI_wR_n b2, mI_wR_n b1]
      have hS : Sm μ (if useC μ (o + 1007 + 5) x1 x2 = -1 then μ else wR (wR μ (o + 1007 + 5 + 3) (bsC μ (o + 1) (o + 1007 + 5) (useC μ (o + 1007 + 5) x1 x2) x1)) (o + 1007 + 5 + 4) (rlC μ (o + 1) (o + 1007 + 5) (useC μ (o + 1007 + 5) x1 x2) x1)) := by
        split
        · exact Sm_refl
        · exact Sm_wR (Sm_wR Sm_refl)
      have ea : sizeWithA m x1 x2 = (sizeF m.s (if truF m.s x2 = -1 ∨ m.s 8 = 1 then 0 else x1) (truF m.s x2), telM m) := by
        unfold sizeWithA
        rw [if_pos ⟨g, g2⟩]
      rw [ea]
      refine ⟨tel6, ?_, ?_⟩
      · show _ = sizeF m.s (if truF m.s x2 = -1 ∨ m.s 8 = 1 then 0 else x1) (truF m.s x2)
        unfold sizeF
        by_cases z : useC μ (o + 1007 + 5) x1 x2 = -1
        · rw [if_pos z, if_pos (hz.mpr z)]
        · rw [if_neg z, if_neg (fun w => z (hz.mp w))]
          have hu : useC μ (o + 1007 + 5) x1 x2 = truF m.s x2 := by
            unfold useC at z ⊢
            by_cases w : x1 = 0 ∨ ¬ mI μ (o + 1007 + 5) 4 = 0
            · rw [if_pos w] at z
              exact absurd rfl z
            · rw [if_neg w, et]
          have hfm : (if truF m.s x2 = -1 ∨ m.s 8 = 1 then 0 else x1) = x1 := by
            by_cases w : truF m.s x2 = -1 ∨ m.s 8 = 1
            · exact absurd (hz.mp (if_pos w)) z
            · exact if_neg w
          rw [hfm, hu, ← size_eq (old := mI μ (o + 1007 + 5 + 3)) (old' := mI μ (o + 1007 + 5 + 4)) iv.2.2.2.2.2.2.2.2.1 iv.2.2.2.2.2.2.2.2.2]
          have hrn : truF m.s x2 = -1 ∨ ∃ r, r < nOf m.s ∧ truF m.s x2 = nI r := by
            rcases trust_r (ackF m.s) x2 (nOf m.s) (nOf m.s) with w | ⟨r, w1, w2, w3⟩
            · exact Or.inl w
            · exact Or.inr ⟨r, w1, w3⟩
          obtain ⟨r, hr1, hr2⟩ := hrn.resolve_left (by rw [← hu]; exact z)
          refine sizeC_congr fun j hj => ?_
          unfold rlC bsC
          rw [c0.1.2.2.2.2.1]
          refine putC_congr (fun k hk => c0.1.1 k (by omega)) (fun k hk => putB_congr (fun i hi => ?_) (by omega)) hj
          rw [hr2, nI_clamp (by omega)]
          exact (l0 r hr1).1 i hi
      · obtain ⟨q1, q2, q3, ⟨w, c, f3, gg⟩, tx⟩ := hP
        refine ⟨hS, HsV_up (H := H) (by omega) (HsV_id (m := m) rfl rfl rfl rfl rfl ⟨⟨w, c, f3, ?_⟩, TxG_mem (m := m) (hb _ (by omega) (by omega)) (hb _ (by omega) (by omega)) rfl rfl tx⟩), fun b b1 => hb b (by omega) (by omega)⟩
        obtain ⟨g1, ⟨g5, g6, g7⟩, g8, g9⟩ := gg
        refine ⟨by rw [hb o (by omega) (by omega)]; exact g1, ⟨⟨SnR_mem (fun b b1 b2 => hb b (by omega) (by omega)) g5.1, RcR_mem (fun b b1 b2 => hb b (by omega) (by omega)) g5.2.1, LkR_mem (hb _ (by omega) (by omega)) (hb _ (by omega) (by omega)) g5.2.2.1, LkR_mem (hb _ (by omega) (by omega)) (hb _ (by omega) (by omega)) g5.2.2.2⟩, LgR_mem g7.2.1 (fun b b1 b2 => hb b (by omega) (by omega)) g6, g7⟩, fun i hi => ?_, g9⟩
        obtain ⟨e1, e2, e3, e4⟩ := g8 i hi
        exact ⟨CsR_mem (fun b b1 b2 => hb b (by unfold plC at b1; omega) (by unfold plC at b1; omega)) e1, LgR_mem e3.2.1 (fun b b1 b2 => hb b (by omega) (by omega)) e2, e3, e4⟩
    · have b := bad (fun z => g2 z.2)
      simp only [eX8_sizeWith_0, eX8_sizeWith_1, eX8_sizeWith_2, eX8_sizeWith_3, eX8_sizeWith_6, eX8_sizeWith_9, eX8_sizeWith_10, eX8_sizeWith_11, eX8_sizeWith_13, eX8_sizeWith_16, eX8_sizeWith_19, eX8_sizeWith_29, eX8_sizeWith_30, eX8_sizeWith_33, eX8_sizeWith_36, eX8_sizeWith_37, eX8_sizeWith_40, eX8_sizeWith_43, eX8_sizeWith_44, eX8_sizeWith_45, eX8_sizeWith_48, eX8_sizeWith_49, eX8_sizeWith_52, PX8_inRange, QX8_inRange, if_pos g, if_neg g2, qa2, qOk, List.length_nil, List.length_cons, ll0, ll1, ll2, ll3, ll4, Nat.le_refl, and_true, Nat.zero_add, Nat.add_zero, Nat.zero_le, one0, eq_self, or_true, true_or, not_true_eq_false, not_false_eq_true, true_imp_iff, false_imp_iff, true_and, and_true, Classical.not_not]
      exact b
  · have b := bad (fun z => g z.1)
    simp only [eX8_sizeWith_0, eX8_sizeWith_1, eX8_sizeWith_2, eX8_sizeWith_3, eX8_sizeWith_6, eX8_sizeWith_9, eX8_sizeWith_10, eX8_sizeWith_11, eX8_sizeWith_13, eX8_sizeWith_16, eX8_sizeWith_19, eX8_sizeWith_29, eX8_sizeWith_30, eX8_sizeWith_33, eX8_sizeWith_36, eX8_sizeWith_37, eX8_sizeWith_40, eX8_sizeWith_43, eX8_sizeWith_44, eX8_sizeWith_45, eX8_sizeWith_48, eX8_sizeWith_49, eX8_sizeWith_52, PX8_inRange, QX8_inRange, if_neg g, qa2, qOk, List.length_nil, List.length_cons, ll0, ll1, ll2, ll3, ll4, Nat.le_refl, and_true, Nat.zero_add, Nat.add_zero, Nat.zero_le, one0, eq_self, or_true, true_or, not_true_eq_false, not_false_eq_true, true_imp_iff, false_imp_iff, true_and, and_true, Classical.not_not]
    exact b
theorem xX8_waiting (o : Nat) (x1 : Int32) (μ : qMM) (ht : ∃ t, mS μ o = some (.inl (7, t))) (hp : PX8_waiting o x1 μ) : EX (SX8_waiting (rti 0 0 (QX8_waiting o x1 μ)) (fun _ _ _ => False)) 0 [some (.ref o), some (.int x1)] [] [] μ (0, 0) := by
  obtain ⟨H, m, hP⟩ := hp
  obtain ⟨k1, k2, k3, k4, k5, k6⟩ := id hP.1
  obtain ⟨s1, s2, s3, s4, s5⟩ := id k3
  obtain ⟨c0, l0, iv⟩ := HsP_cs hP
  have pl : PX8_linkOf o x1 μ := hP.1
  simp only [eX8_waiting_0, eX8_waiting_1, eX8_waiting_2, eX8_waiting_5, eX8_waiting_8, ht, pl, QX8_linkOf, qa2, qOk, List.length_nil, List.length_cons, ll0, ll1, ll2, ll3, ll4, Nat.le_refl, and_true, one0, eq_self, or_true, true_or, not_true_eq_false, not_false_eq_true, true_imp_iff, false_imp_iff, true_and, and_true, Classical.not_not]
  by_cases g : x1 = 0
  · simp only [if_pos g, eX8_waiting_0, eX8_waiting_1, eX8_waiting_2, eX8_waiting_5, eX8_waiting_8, rtv_at, rti_at, rtj_at, rtd_at, rta_at, qOk, qOkR, gX0_1, s4.1, qOk, List.length_nil, List.length_cons, ll0, ll1, ll2, ll3, ll4, Nat.le_refl, and_true, one0, eq_self, or_true, true_or, not_true_eq_false, not_false_eq_true, true_imp_iff, false_imp_iff, true_and, and_true, Classical.not_not]
    intro H m hP
    refine Q_tel2 hP ?_
    unfold waitingA lnk
    rw [if_pos g, (HsP_cs hP).1.2.2.1.1]
  · simp only [if_neg g, eX8_waiting_0, eX8_waiting_1, eX8_waiting_2, eX8_waiting_5, eX8_waiting_8, rtv_at, rti_at, rtj_at, rtd_at, rta_at, qOk, qOkR, gX0_1, s5.1, qOk, List.length_nil, List.length_cons, ll0, ll1, ll2, ll3, ll4, Nat.le_refl, and_true, one0, eq_self, or_true, true_or, not_true_eq_false, not_false_eq_true, true_imp_iff, false_imp_iff, true_and, and_true, Classical.not_not]
    intro H m hP
    refine Q_tel2 hP ?_
    unfold waitingA lnk
    rw [if_neg g, (HsP_cs hP).1.2.2.2.1]
theorem waitAt (o k a : Nat) (x1 x2 : Int32) (μ : qMM) (hk : LkS μ k) (hlk : lnk x1 = a) (hR : ∀ H m, HsP H μ o m → LkR μ k m.s a ∧ ∃ n : Nat, n ≤ 20 ∧ m.s a = nI n) (H : Nat) (m : Mod) (hP : HsP H μ o m) : EX (SX8_waitingAt (rti 1 6 (QX8_waitingAt o x1 x2 μ)) (thX μ (TX8_waitingAt o x1 x2 μ))) 6 [some (.ref o), some (.int x1), some (.int x2), some (.ref k)] [] [] μ (0, 0) := by
  obtain ⟨r, n, hn, hn1⟩ := hR H m hP
  have tk := tX0 hk.1
  have ph : PX0_has k x2 μ := hk
  by_cases g : 0 ≤ x2 ∧ x2 ≤ mI μ k 1 - 1
  · obtain ⟨j, hj, rfl⟩ := inL_ok' (by rw [r.1, hn1]) (show n ≤ 500 by omega) g
    simp only [eX8_waitingAt_0, eX8_waitingAt_1, eX8_waitingAt_2, eX8_waitingAt_5, eX8_waitingAt_6, eX8_waitingAt_7, eX8_waitingAt_8, eX8_waitingAt_11, eX8_waitingAt_14, eX8_waitingAt_24, eX8_waitingAt_25, eX8_waitingAt_28, eX8_waitingAt_29, eX8_waitingAt_30, rtv_at, rti_at, rtj_at, rtd_at, rta_at, qOk, qOkR, tk, ph, QX0_has, if_pos g, gX0_0, hk.1, hk.2, qA20, vp20 (show j < 20 by omega), nIc (show j < 500 by omega), qa2, qOk, List.length_nil, List.length_cons, ll0, ll1, ll2, ll3, ll4, Nat.le_refl, and_true, Nat.zero_add, Nat.add_zero, Nat.zero_le, thX, one0, eq_self, or_true, true_or, not_true_eq_false, not_false_eq_true, true_imp_iff, false_imp_iff, true_and, and_true, Classical.not_not]
    intro H m hP
    refine Q_tel hP ?_
    obtain ⟨r, n, hn, hn1⟩ := hR H m hP
    have gi : inL m.s a (nI j) := (has_in (n := 0) r _).mp g
    obtain ⟨j2, hj2, e2⟩ := inL_ok hn1 hn gi
    have : j2 = j := (nI_eq (by omega) (by omega)).mp e2.symm
    subst this
    unfold waitingAtA
    rw [hlk, if_pos gi, nI_clamp (by omega), r.2 j2 (by rw [hn1, nI_clamp (by omega)]; exact hj2)]
  · simp only [eX8_waitingAt_0, eX8_waitingAt_1, eX8_waitingAt_2, eX8_waitingAt_5, eX8_waitingAt_6, eX8_waitingAt_7, eX8_waitingAt_8, eX8_waitingAt_11, eX8_waitingAt_14, eX8_waitingAt_24, eX8_waitingAt_25, eX8_waitingAt_28, eX8_waitingAt_29, eX8_waitingAt_30, rtv_at, rti_at, rtj_at, rtd_at, rta_at, qOk, qOkR, tk, ph, QX0_has, if_neg g, qa2, qOk, List.length_nil, List.length_cons, ll0, ll1, ll2, ll3, ll4, Nat.le_refl, and_true, Nat.zero_add, Nat.add_zero, Nat.zero_le, thX, one0, eq_self, or_true, true_or, not_true_eq_false, not_false_eq_true, true_imp_iff, false_imp_iff, true_and, and_true, Classical.not_not]
    intro H m hP
    obtain ⟨r, n, hn, hn1⟩ := hR H m hP
    have gi : ¬ inL m.s a x2 := fun z => g ((has_in (n := 0) r _).mpr z)
    unfold waitingAtA
    rw [hlk, if_neg gi]
    exact ⟨rfl, fai6⟩
theorem xX8_waitingAt (o : Nat) (x1 : Int32) (x2 : Int32) (μ : qMM) (ht : ∃ t, mS μ o = some (.inl (7, t))) (hp : PX8_waitingAt o x1 x2 μ) : EX (SX8_waitingAt (rti 1 6 (QX8_waitingAt o x1 x2 μ)) (thX μ (TX8_waitingAt o x1 x2 μ))) 0 [some (.ref o), some (.int x1), some (.int x2), none] [] [] μ (0, 0) := by
  obtain ⟨H, m, hP⟩ := hp
  obtain ⟨k1, k2, k3, k4, k5, k6⟩ := id hP.1
  obtain ⟨s1, s2, s3, s4, s5⟩ := id k3
  obtain ⟨c0, l0, iv⟩ := HsP_cs hP
  have pl : PX8_linkOf o x1 μ := hP.1
  have a1 : EX (SX8_waitingAt (rti 1 6 (QX8_waitingAt o x1 x2 μ)) (thX μ (TX8_waitingAt o x1 x2 μ))) 6 [some (.ref o), some (.int x1), some (.int x2), some (.ref (if x1 = 0 then o + 1007 + 1 else o + 1007 + 3))] [] [] μ (0, 0) := by
    by_cases g : x1 = 0
    · rw [if_pos g]
      refine waitAt o _ 10 x1 x2 μ s4 (by unfold lnk; rw [if_pos g]) (fun H m hP => ⟨(HsP_cs hP).1.2.2.1, ?_⟩) H m hP
      obtain ⟨n, -, -, -, f, hf, hf1, -⟩ := (HsP_cs hP).2.2.2.1
      exact ⟨f, hf, hf1⟩
    · rw [if_neg g]
      refine waitAt o _ 31 x1 x2 μ s5 (by unfold lnk; rw [if_neg g]) (fun H m hP => ⟨(HsP_cs hP).1.2.2.2, ?_⟩) H m hP
      obtain ⟨b, hb, hb1, -⟩ := (HsP_cs hP).2.2.2.2.1
      exact ⟨b, hb, hb1⟩
  simp only [eX8_waitingAt_0, eX8_waitingAt_1, eX8_waitingAt_2, eX8_waitingAt_5, ht, pl, QX8_linkOf, qa2, List.length_nil, List.length_cons, ll0, ll1, ll2, ll3, ll4, Nat.le_refl, and_true, Nat.zero_add, Nat.add_zero, Nat.zero_le, one0, eq_self, or_true, true_or, not_true_eq_false, not_false_eq_true, true_imp_iff, false_imp_iff, true_and, and_true, Classical.not_not]
  exact a1
theorem HsG_scr {H : Nat} {μ μ' : qMM} {h w c : Nat} {s : Nat → Int32} {sg : Nat → Nat → Int32} (g : HsG H μ h s w c sg) (hb : ∀ b, b < h + 1488 → mI μ' b = mI μ b) : HsG H μ' h s w c sg := by
  obtain ⟨g1, ⟨g5, g6, g7⟩, g8, g9⟩ := g
  refine ⟨by rw [hb h (by omega)]; exact g1, ⟨CsR_mem (fun b b1 b2 => hb b (by omega)) g5, LgR_mem g7.2.1 (fun b b1 b2 => hb b (by omega)) g6, g7⟩, fun i hi => ?_, g9⟩
  obtain ⟨e1, e2, e3, e4⟩ := g8 i hi
  exact ⟨CsR_mem (fun b b1 b2 => hb b (by unfold plC at b2; omega)) e1, LgR_mem e3.2.1 (fun b b1 b2 => hb b (by omega)) e2, e3, e4⟩