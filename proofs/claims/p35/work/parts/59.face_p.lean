/-! ===== bodies: the face ===== -/
theorem xX8_nextPlace (o : Nat) (μ : qMM) (ht : ∃ t, mS μ o = some (.inl (7, t))) (hp : PX8_nextPlace o μ) : EX (SX8_nextPlace (rti 0 0 (QX8_nextPlace o μ)) (fun _ _ _ => False)) 0 [some (.ref o)] [] [] μ (0, 0) := by
  have h1 : obX8 μ o := hp
  simp only [eX8_nextPlace_0, eX8_nextPlace_1, eX8_nextPlace_4, eX8_nextPlace_5, eX8_nextPlace_6, eX8_nextPlace_7, eX8_nextPlace_8, rtv_at, rti_at, rtj_at, rtd_at, rta_at, qOk, qOkR, gX8_2, h1, QX8_nextPlace, rem5, qOk, show ¬ (5 : Int32) = 0 by decide, List.length_nil, List.length_cons, ll0, ll1, ll2, ll3, ll4, Nat.le_refl, and_true, one0, eq_self, or_true, true_or, not_true_eq_false, not_false_eq_true, true_imp_iff, false_imp_iff, true_and, and_true, Classical.not_not]
theorem xX8_keepNextPlace (o : Nat) (μ : qMM) (ht : ∃ t, mS μ o = some (.inl (7, t))) (hp : PX8_keepNextPlace o μ) : EX (SX8_keepNextPlace (rtv 0 0 (QX8_keepNextPlace o μ)) (fun _ _ _ => False)) 0 [some (.ref o)] [] [] μ (0, 0) := by
  have h1 : obX8 μ o := hp
  have pn : PX8_nextPlace o μ := h1
  simp only [eX8_keepNextPlace_0, eX8_keepNextPlace_1, eX8_keepNextPlace_2, eX8_keepNextPlace_5, eX8_keepNextPlace_8, eX8_keepNextPlace_9, eX8_keepNextPlace_10, eX8_keepNextPlace_13, eX8_keepNextPlace_14, eX8_keepNextPlace_15, eX8_keepNextPlace_16, eX8_keepNextPlace_19, eX8_keepNextPlace_22, rtv_at, rti_at, rtj_at, rtd_at, rta_at, qOk, qOkR, gX8_3, pX8_2, pX8_3, h1, ht, pn, QX8_nextPlace, QX8_keepNextPlace, obX8_wI, wI_def, obX8_wR, mI_wR_s, wR_wR, upd_n (show (3 : Nat) ≠ 2 by decide), kepC, qa2, List.length_nil, List.length_cons, ll0, ll1, ll2, ll3, ll4, Nat.le_refl, and_true, one0, eq_self, or_true, true_or, not_true_eq_false, not_false_eq_true, true_imp_iff, false_imp_iff, true_and, and_true, Classical.not_not]
theorem xX8_fieldMost (x1 : Int32) (μ : qMM) (hp : PX8_fieldMost x1 μ) : EX (SX8_fieldMost (rti 0 0 (QX8_fieldMost x1 μ)) (fun _ _ _ => False)) 0 [some (.int x1)] [] [] μ (0, 0) := by
  have key : ∀ r, r = greF x1 → rti 0 0 (QX8_fieldMost x1 μ) (some (.int r)) μ (0, 0) := fun r h => by
    rw [rti_at]
    exact ⟨⟨h, rfl⟩, by decide, by decide⟩
  simp only [eX8_fieldMost_0, eX8_fieldMost_1]
  have e : qSwL 1 34 #[(0, 27), (3, 31)] x1 = some (if x1 = 0 then 28 else if x1 = 3 then 32 else 35) := by
    by_cases g0 : x1 = 0
    · subst g0
      decide
    · by_cases g3 : x1 = 3
      · subst g3
        decide
      · rw [if_neg g0, if_neg g3]
        have n0 : ¬ (0 : Int) = x1.toInt := fun z => g0 (Int32.toInt_inj.mp (z.symm.trans (by decide)))
        have n3 : ¬ (3 : Int) = x1.toInt := fun z => g3 (Int32.toInt_inj.mp (z.symm.trans (by decide)))
        have m0 : ¬ x1.toInt = (0 : Int) := fun z => n0 z.symm
        have m3 : ¬ x1.toInt = (3 : Int) := fun z => n3 z.symm
        simp [qSwL, Op.lookupswitch.offset, qTg, List.find?, n0, n3, m0, m3]
  rw [e]
  by_cases g0 : x1 = 0
  · simp only [if_pos g0, qGo, eX8_fieldMost_28, eX8_fieldMost_31, eX8_fieldMost_32, eX8_fieldMost_34, eX8_fieldMost_35, eX8_fieldMost_38, qOk, one0, eq_self, or_true, true_or, not_true_eq_false, not_false_eq_true, true_imp_iff, false_imp_iff, true_and, and_true, Classical.not_not]
    exact key _ (by unfold greF; rw [if_pos g0])
  · by_cases g3 : x1 = 3
    · simp only [if_neg g0, if_pos g3, qGo, eX8_fieldMost_28, eX8_fieldMost_31, eX8_fieldMost_32, eX8_fieldMost_34, eX8_fieldMost_35, eX8_fieldMost_38, qOk, one0, eq_self, or_true, true_or, not_true_eq_false, not_false_eq_true, true_imp_iff, false_imp_iff, true_and, and_true, Classical.not_not]
      exact key _ (by unfold greF; rw [if_neg g0, if_pos g3])
    · simp only [if_neg g0, if_neg g3, qGo, eX8_fieldMost_28, eX8_fieldMost_31, eX8_fieldMost_32, eX8_fieldMost_34, eX8_fieldMost_35, eX8_fieldMost_38, qOk, one0, eq_self, or_true, true_or, not_true_eq_false, not_false_eq_true, true_imp_iff, false_imp_iff, true_and, and_true, Classical.not_not]
      exact key _ (by unfold greF; rw [if_neg g0, if_neg g3])
theorem xX8_linkOf (o : Nat) (x1 : Int32) (μ : qMM) (ht : ∃ t, mS μ o = some (.inl (7, t))) (hp : PX8_linkOf o x1 μ) : EX (SX8_linkOf (rta 0 0 (QX8_linkOf o x1 μ)) (fun _ _ _ => False)) 0 [some (.ref o), some (.int x1)] [] [] μ (0, 0) := by
  have h1 : HsS μ o := hp
  simp only [eX8_linkOf_0, eX8_linkOf_1, eX8_linkOf_4, eX8_linkOf_5, eX8_linkOf_8, eX8_linkOf_11, eX8_linkOf_14, eX8_linkOf_15, eX8_linkOf_18, eX8_linkOf_21, rtv_at, rti_at, rtj_at, rtd_at, rta_at, qOk, qOkR, gX8_0, gX6_2, gX6_3, h1.1, h1.2.2.1.1, QX8_linkOf, qOkR, List.length_nil, List.length_cons, ll0, ll1, ll2, ll3, ll4, Nat.le_refl, and_true, one0, eq_self, or_true, true_or, not_true_eq_false, not_false_eq_true, true_imp_iff, false_imp_iff, true_and, and_true, Classical.not_not]
  by_cases g : x1 = 0 <;> simp [g]
theorem qAal_Pl {μ : qMM} {h : Nat} {i : Int32} {k : Nat → Prop} (g : PlA μ h) : qAal μ (h + 1087) i k = (vp_in i 5 ∧ k (h + 1088 + 80 * i.toNatClampNeg)) := by
  unfold qAal
  rw [g]
  apply propext
  constructor
  · rintro ⟨-, h1, h2⟩
    refine ⟨h1, ?_⟩
    have hl : i.toNatClampNeg < 5 := Nat.not_le.mp fun q => h1 (Or.inr q)
    simp only [if_pos hl] at h2
    exact h2
  · rintro ⟨h1, h2⟩
    have hl : i.toNatClampNeg < 5 := Nat.not_le.mp fun q => h1 (Or.inr q)
    exact ⟨Or.inr rfl, h1, by simp only [if_pos hl]; exact h2⟩
theorem vp5 {n : Nat} (h : n < 5) : vp_in (nI n) 5 := vp_in_nI h (by decide)
/-- the next place, a copy into it -/
theorem next_P {μ : qMM} {h H w c : Nat} {s : Nat → Int32} {sg : Nat → Nat → Int32} (k : HsS μ h) (hN : mN μ = none) (g : HsG H μ h s w c sg) : rem5 (mI μ h 2 + 1) = nI ((w + 1) % 5) ∧ (w + 1) % 5 < 5 ∧ PX6_copyFrom (plN h w) (h + 1007) μ := by
  have hw := g.1.2.1
  refine ⟨by rw [g.1.1, nI_1]; exact rem5_nI (by omega), Nat.mod_lt _ (by decide), ⟨h + 1, k.2.2.2.2.1 _ (Nat.mod_lt _ (by decide)), k.2.2.1⟩, hN, ?_, H, s, g.2.1.1, g.2.1.2.2⟩
  unfold plN
  omega
theorem xX8_saveState (o : Nat) (μ : qMM) (ht : ∃ t, mS μ o = some (.inl (7, t))) (hp : PX8_saveState o μ) : EX (SX8_saveState (rtv 0 0 (QX8_saveState o μ)) (fun _ _ _ => False)) 0 [some (.ref o)] [] [] μ (0, 0) := by
  obtain ⟨k, hN, H, s, w, c, sg, g⟩ := hp
  obtain ⟨n1, n2, n3⟩ := next_P k hN g
  obtain ⟨k1, k2, k3, k4, k5, k6⟩ := id k
  have pn : PX8_nextPlace o μ := k1
  have t6 : ∃ t, mS μ (plN o w) = some (Sum.inl (5, t)) := tX6 (k5 _ n2).1
  unfold plN at t6 n3
  simp only [eX8_saveState_0, eX8_saveState_1, eX8_saveState_4, eX8_saveState_5, eX8_saveState_8, eX8_saveState_9, eX8_saveState_10, eX8_saveState_13, gX8_0, gX8_1, k1, k4, qAal_Pl, ht, pn, QX8_nextPlace, n1, vp5 n2, nIc (show (w + 1) % 5 < 500 by omega), t6, n3, qa2, List.length_nil, List.length_cons, ll0, ll1, ll2, ll3, ll4, Nat.le_refl, and_true, one0, eq_self, or_true, true_or, not_true_eq_false, not_false_eq_true, true_imp_iff, false_imp_iff, true_and, and_true, Classical.not_not]
  intro μ1 q
  obtain ⟨q1, q2, q3⟩ := q
  have k1' : obX8 μ1 o := (HsS_Sm q1 k).1
  have ht' : ∃ t, mS μ1 o = some (Sum.inl (7, t)) := tX8 k1'
  have pk : PX8_keepNextPlace o μ1 := k1'
  simp only [eX8_saveState_16, eX8_saveState_17, eX8_saveState_20, rtv_at, rti_at, rtj_at, rtd_at, rta_at, qOk, qOkR, ht', pk, QX8_keepNextPlace, forall_eq, List.length_nil, List.length_cons, ll0, ll1, ll2, ll3, ll4, Nat.le_refl, and_true, one0, eq_self, or_true, true_or, not_true_eq_false, not_false_eq_true, true_imp_iff, false_imp_iff, true_and, and_true, Classical.not_not]
  refine ⟨Sm_wR q1, fun H' s' w' c' sg' g' => ?_, fun b b1 b2 => by rw [mI_wR_n b1, q3 b (by omega)]⟩
  have ew : w' = w := (nI_eq (by have := g'.1.2.1; omega) (by have := g.1.2.1; omega)).mp (g'.1.1.symm.trans g.1.1)
  subst ew
  have g1 := HsG_copy g' q3
  exact HsG_keep g1 (q2 s' H' g'.2.1.1 g'.2.1.2.2) g1.2.1.2.1 g'.2.1.2.2 (Nat.le_refl _) (fun i hi => (g'.2.2.1 i hi).2.2.2)
theorem tel6 {m : Mod} : (telM m).f 6 = 0 := by rfl
theorem fai6 {m : Mod} {k : Int32} : (faiM m k).f 6 = k := by rfl
theorem end6 {m : Mod} : (endM m).f 6 = 0 := by rfl
theorem HsP_cs {H : Nat} {μ : qMM} {h : Nat} {m : Mod} (r : HsP H μ h m) : CsR μ (h + 1007) m.s ∧ LgR μ (h + 1) m.s ∧ Iv H m.s := by
  obtain ⟨k, hN, hH, ⟨w, c, f3, g⟩, tx⟩ := r
  exact g.2.1
/-- what is told -/
theorem Q_tel {H : Nat} {μ : qMM} {h : Nat} {m : Mod} {r : Int32} {a : Int32 × Mod} (hP : HsP H μ h m) (e : a = (r, telM m)) : a.2.f 6 = 0 ∧ r = a.1 ∧ HsQ H μ μ h a.2 := by
  rw [e]
  exact ⟨tel6, rfl, HsQ_tel hP⟩
theorem Q_tel2 {H : Nat} {μ : qMM} {h : Nat} {m : Mod} {r : Int32} {a : Int32 × Mod} (hP : HsP H μ h m) (e : a = (r, telM m)) : r = a.1 ∧ HsQ H μ μ h a.2 := (Q_tel hP e).2
theorem xX8_field (o : Nat) (x1 : Int32) (μ : qMM) (ht : ∃ t, mS μ o = some (.inl (7, t))) (hp : PX8_field o x1 μ) : EX (SX8_field (rti 1 6 (QX8_field o x1 μ)) (thX μ (TX8_field o x1 μ))) 0 [some (.ref o), some (.int x1)] [] [] μ (0, 0) := by
  obtain ⟨H, m, hP⟩ := hp
  obtain ⟨k1, k2, k3, k4, k5, k6⟩ := id hP.1
  obtain ⟨s1, s2, s3, s4, s5⟩ := id k3
  by_cases g : inR x1 0 3
  · obtain ⟨j, hj, rfl⟩ := inR_idx (b := 3) (by decide) g
    simp only [eX8_field_0, eX8_field_1, eX8_field_2, eX8_field_3, eX8_field_6, eX8_field_9, eX8_field_19, eX8_field_20, eX8_field_23, eX8_field_26, eX8_field_29, eX8_field_30, eX8_field_31, rtv_at, rti_at, rtj_at, rtd_at, rta_at, qOk, qOkR, PX8_inRange, QX8_inRange, if_pos g, gX8_0, gX6_0, gX5_1 (o + 1), k1, s1, s2.1, s2.2.1, qA6, vp6 (show j < 6 by omega), nIc (show j < 500 by omega), qa2, qOk, List.length_nil, List.length_cons, ll0, ll1, ll2, ll3, ll4, Nat.le_refl, and_true, Nat.zero_add, Nat.add_zero, Nat.zero_le, thX, one0, eq_self, or_true, true_or, not_true_eq_false, not_false_eq_true, true_imp_iff, false_imp_iff, true_and, and_true, Classical.not_not]
    intro H m hP
    refine Q_tel hP ?_
    unfold fieldA
    rw [if_pos g, nI_clamp (by omega), (HsP_cs hP).1.1.1 j (by omega)]
  · simp only [eX8_field_0, eX8_field_1, eX8_field_2, eX8_field_3, eX8_field_6, eX8_field_9, eX8_field_19, eX8_field_20, eX8_field_23, eX8_field_26, eX8_field_29, eX8_field_30, eX8_field_31, rtv_at, rti_at, rtj_at, rtd_at, rta_at, qOk, qOkR, PX8_inRange, QX8_inRange, if_neg g, qa2, qOk, List.length_nil, List.length_cons, ll0, ll1, ll2, ll3, ll4, Nat.le_refl, and_true, Nat.zero_add, Nat.add_zero, Nat.zero_le, thX, one0, eq_self, or_true, true_or, not_true_eq_false, not_false_eq_true, true_imp_iff, false_imp_iff, true_and, and_true, Classical.not_not]
    intro H m hP
    unfold fieldA
    rw [if_neg g]
    exact ⟨rfl, fai6⟩
theorem xX8_reference (o : Nat) (μ : qMM) (ht : ∃ t, mS μ o = some (.inl (7, t))) (hp : PX8_reference o μ) : EX (SX8_reference (rti 0 0 (QX8_reference o μ)) (fun _ _ _ => False)) 0 [some (.ref o)] [] [] μ (0, 0) := by
  obtain ⟨H, m, hP⟩ := hp
  obtain ⟨k1, k2, k3, k4, k5, k6⟩ := id hP.1
  obtain ⟨s1, s2, s3, s4, s5⟩ := id k3
  obtain ⟨c0, l0, iv⟩ := HsP_cs hP
  have t5 := tX5 (o + 1) s2.1
  have hn := nOf_le iv
  have pt : ∀ c, PX5_trustedReference (o + 1007 + 5) c μ := fun c => ⟨⟨o + 1, s2⟩, nOf m.s, hn.1, by rw [c0.1.2.2.2.2.1]; exact hn.2⟩
  simp only [eX8_reference_0, eX8_reference_1, eX8_reference_4, eX8_reference_7, eX8_reference_8, eX8_reference_11, eX8_reference_14, eX8_reference_17, eX8_reference_20, rtv_at, rti_at, rtj_at, rtd_at, rta_at, qOk, qOkR, gX8_0, gX6_0, gX5_3 (o + 1), k1, s1, s2.1, t5, pt, QX5_trustedReference, qa2, qOk, List.length_nil, List.length_cons, ll0, ll1, ll2, ll3, ll4, Nat.le_refl, and_true, one0, eq_self, or_true, true_or, not_true_eq_false, not_false_eq_true, true_imp_iff, false_imp_iff, true_and, and_true, Classical.not_not]
  intro H m hP
  refine Q_tel2 hP ?_
  unfold referenceA
  obtain ⟨c0, l0, iv⟩ := HsP_cs hP
  have hn := nOf_le iv
  have := (use_eq c0.1 hn.2 hn.1 iv.2.2.2.2.2.2.2.1).1
  rw [c0.1.2.2.1, this]
  rfl
theorem inL_ok' {x v : Int32} {n : Nat} (hn : v = nI n) (hn2 : n ≤ 500) (h : 0 ≤ x ∧ x ≤ v - 1) : ∃ i : Nat, i < n ∧ x = nI i := by
  rw [hn] at h
  rcases Nat.eq_zero_or_pos n with z | z
  · subst z
    have := Int32.le_trans h.1 h.2
    exact absurd this (by decide)
  · have e : nI n - 1 = nI (n - 1) := pk_sub (a := n) (b := 1) (by omega)
    rw [e] at h
    obtain ⟨j, hj, rfl⟩ := inR_idx (by omega) h
    exact ⟨j, by omega, rfl⟩
theorem xX8_sent (o : Nat) (x1 : Int32) (x2 : Int32) (μ : qMM) (ht : ∃ t, mS μ o = some (.inl (7, t))) (hp : PX8_sent o x1 x2 μ) : EX (SX8_sent (rti 1 6 (QX8_sent o x1 x2 μ)) (thX μ (TX8_sent o x1 x2 μ))) 0 [some (.ref o), some (.int x1), some (.int x2)] [] [] μ (0, 0) := by
  obtain ⟨H, m, hP⟩ := hp
  obtain ⟨k1, k2, k3, k4, k5, k6⟩ := id hP.1
  obtain ⟨s1, s2, s3, s4, s5⟩ := id k3
  obtain ⟨c0, l0, iv⟩ := HsP_cs hP
  have t5 := tX5 (o + 1) s2.1
  have hn := nOf_le iv
  have e9 : ∀ H m, HsP H μ o m → mI μ (o + 1007 + 5) 5 = m.s 9 := fun H m h => (HsP_cs h).1.1.2.2.2.2.1
  have h9 := e9 H m hP
  by_cases g : 0 ≤ x1 ∧ x1 ≤ mI μ (o + 1007 + 5) 5 - 1
  · have gm : inR x1 0 (m.s 9 - 1) := by rw [← h9]; exact g
    obtain ⟨p, hp, rfl⟩ := inL_ok' (by rw [h9]; exact hn.2) hn.1 g
    by_cases g2 : inR x2 0 7
    · obtain ⟨j, hj, rfl⟩ := inR_idx (b := 7) (by decide) g2
      have ps : PX5_sentValue (o + 1007 + 5) (nI p) (nI j) μ := ⟨⟨o + 1, s2, k2⟩, p, j, by omega, by omega, rfl, rfl⟩
      simp only [eX8_sent_0, eX8_sent_1, eX8_sent_2, eX8_sent_3, eX8_sent_6, eX8_sent_9, eX8_sent_12, eX8_sent_13, eX8_sent_14, eX8_sent_17, eX8_sent_20, eX8_sent_30, eX8_sent_31, eX8_sent_32, eX8_sent_34, eX8_sent_37, eX8_sent_40, eX8_sent_50, eX8_sent_51, eX8_sent_54, eX8_sent_57, eX8_sent_58, eX8_sent_59, eX8_sent_62, rtv_at, rti_at, rtj_at, rtd_at, rta_at, qOk, qOkR, gX8_0, gX6_0, gX5_5 (o + 1), k1, s1, s2.1, PX8_inRange, QX8_inRange, if_pos g, if_pos g2, t5, ps, sntV_Q s2, qa2, qOk, List.length_nil, List.length_cons, ll0, ll1, ll2, ll3, ll4, Nat.le_refl, and_true, Nat.zero_add, Nat.add_zero, Nat.zero_le, thX, one0, eq_self, or_true, true_or, not_true_eq_false, not_false_eq_true, true_imp_iff, false_imp_iff, true_and, and_true, Classical.not_not]
      intro H m hP
      have h9 := e9 H m hP
      refine Q_tel hP ?_
      unfold sentA
      rw [if_pos (show inR (nI p) 0 (m.s 9 - 1) by rw [← h9]; exact g), if_pos g2, nI_clamp (by omega), nI_clamp (by omega)]
      obtain ⟨c0, l0, iv⟩ := HsP_cs hP
      have hp' : p < nOf m.s := by
        have hn' := nOf_le iv
        rw [h9, hn'.2] at g
        rcases Nat.eq_zero_or_pos (nOf m.s) with z | z
        · rw [z] at g
          exact absurd (Int32.le_trans (nI_pos' (show p < 2 ^ 31 by omega)) g.2) (by decide)
        · rw [show nI (nOf m.s) - 1 = nI (nOf m.s - 1) from pk_sub (a := nOf m.s) (b := 1) (by omega)] at g
          have := (nI_leI (by omega) (by omega)).mp g.2
          omega
      obtain ⟨l1, l2, l3, l4, l5⟩ := l0 p hp'
      have l6 := c0.1.2.2.2.2.2.2.2 p hp'
      unfold tolF sntC
      rw [nI_clamp (show p < 2 ^ 31 by omega), nI_clamp (show j < 2 ^ 31 by omega)]
      rcases (by omega : j = 0 ∨ j = 1 ∨ j = 2 ∨ j = 3 ∨ j = 4 ∨ j = 5 ∨ j = 6 ∨ j = 7) with rfl | rfl | rfl | rfl | rfl | rfl | rfl | rfl
      · exact congrArg (·, telM m) (l1 0 (by decide)).symm
      · exact congrArg (·, telM m) (l1 1 (by decide)).symm
      · exact congrArg (·, telM m) (l1 2 (by decide)).symm
      · exact congrArg (·, telM m) (l1 3 (by decide)).symm
      · exact congrArg (·, telM m) l2.symm
      · exact congrArg (·, telM m) l3.symm
      · exact congrArg (·, telM m) l4.symm
      · exact congrArg (·, telM m) l6.symm
    · simp only [eX8_sent_0, eX8_sent_1, eX8_sent_2, eX8_sent_3, eX8_sent_6, eX8_sent_9, eX8_sent_12, eX8_sent_13, eX8_sent_14, eX8_sent_17, eX8_sent_20, eX8_sent_30, eX8_sent_31, eX8_sent_32, eX8_sent_34, eX8_sent_37, eX8_sent_40, eX8_sent_50, eX8_sent_51, eX8_sent_54, eX8_sent_57, eX8_sent_58, eX8_sent_59, eX8_sent_62, rtv_at, rti_at, rtj_at, rtd_at, rta_at, qOk, qOkR, gX8_0, gX6_0, gX5_5 (o + 1), k1, s1, s2.1, PX8_inRange, QX8_inRange, if_pos g, if_neg g2, qa2, qOk, List.length_nil, List.length_cons, ll0, ll1, ll2, ll3, ll4, Nat.le_refl, and_true, Nat.zero_add, Nat.add_zero, Nat.zero_le, thX, one0, eq_self, or_true, true_or, not_true_eq_false, not_false_eq_true, true_imp_iff, false_imp_iff, true_and, and_true, Classical.not_not]
      intro H m hP
      have h9 := e9 H m hP
      unfold sentA
      rw [if_pos (show inR (nI p) 0 (m.s 9 - 1) by rw [← h9]; exact g), if_neg g2]
      exact Or.inr ⟨rfl, fai6⟩
  · simp only [eX8_sent_0, eX8_sent_1, eX8_sent_2, eX8_sent_3, eX8_sent_6, eX8_sent_9, eX8_sent_12, eX8_sent_13, eX8_sent_14, eX8_sent_17, eX8_sent_20, eX8_sent_30, eX8_sent_31, eX8_sent_32, eX8_sent_34, eX8_sent_37, eX8_sent_40, eX8_sent_50, eX8_sent_51, eX8_sent_54, eX8_sent_57, eX8_sent_58, eX8_sent_59, eX8_sent_62, rtv_at, rti_at, rtj_at, rtd_at, rta_at, qOk, qOkR, gX8_0, gX6_0, gX5_5 (o + 1), k1, s1, s2.1, PX8_inRange, QX8_inRange, if_neg g, qa2, qOk, List.length_nil, List.length_cons, ll0, ll1, ll2, ll3, ll4, Nat.le_refl, and_true, Nat.zero_add, Nat.add_zero, Nat.zero_le, thX, one0, eq_self, or_true, true_or, not_true_eq_false, not_false_eq_true, true_imp_iff, false_imp_iff, true_and, and_true, Classical.not_not]
    intro H m hP
    have h9 := e9 H m hP
    unfold sentA
    rw [if_neg (show ¬ inR x1 0 (m.s 9 - 1) by rw [← h9]; exact g)]
    exact Or.inl ⟨rfl, fai6⟩
