/-! ===== bodies: the face ===== -/
theorem xX8_nextPlace (o : Nat) (μ : qMM) (ht : ∃ t, mS μ o = some (.inl (7, t))) (hp : PX8_nextPlace o μ) : EX (SX8_nextPlace (rti 0 0 (QX8_nextPlace o μ)) (fun _ _ _ => False)) 0 [some (.ref o)] [] [] μ (0, 0) := by
  have h1 : obX8 μ o := hp
  simp only [eX8_nextPlace_0, eX8_nextPlace_1, eX8_nextPlace_4, eX8_nextPlace_5, eX8_nextPlace_6, eX8_nextPlace_7, eX8_nextPlace_8, rtv_at, rti_at, rtj_at, rtd_at, rta_at, qOk, qOkR, gX8_2, h1, QX8_nextPlace, rem5, qOk, show ¬ (5 : Int32) = 0 by decide, List.length_nil, List.length_cons, ll0, ll1, ll2, ll3, ll4, Nat.le_refl, and_true, one0, eq_self, or_true, true_or, not_true_eq_false, not_false_eq_true, true_imp_iff, false_imp_iff, true_and, and_true, Classical.not_not]
theorem xX8_keepNextPlace (o : Nat) (μ : qMM) (ht : ∃ t, mS μ o = some (.inl (7, t))) (hp : PX8_keepNextPlace o μ) : EX (SX8_keepNextPlace (rtv 0 0 (QX8_keepNextPlace o μ)) (fun _ _ _ => False)) 0 [some (.ref o)] [] [] μ (0, 0) := by
  have h1 : obX8 μ o := hp
  have pn : PX8_nextPlace o μ := h1
  simp only [eX8_keepNextPlace_0, eX8_keepNextPlace_1, eX8_keepNextPlace_2, eX8_keepNextPlace_5, eX8_keepNextPlace_8, eX8_keepNextPlace_9, eX8_keepNextPlace_10, eX8_keepNextPlace_13, eX8_keepNextPlace_14, eX8_keepNextPlace_15, eX8_keepNextPlace_16, eX8_keepNextPlace_19, eX8_keepNextPlace_22, rtv_at, rti_at, rtj_at, rtd_at, rta_at, qOk, qOkR, gX8_3, pX8_2, pX8_3, h1, ht, pn, QX8_nextPlace, QX8_keepNextPlace, obX8_wI, wI_def, obX8_wR, mI_wR_s, wR_wR, upd_n (show (3 : Nat) ≠ 2 by decide), kepC, qa2, List.length_nil, List.length_cons, ll0, ll1, ll2, ll3, ll4, Nat.le_refl, and_true, one0, eq_self, or_true, true_or, not_true_eq_false, not_false_eq_true, true_imp_iff, false_imp_iff, true_and, and_true, Classical.not_not]
theorem xX8_fieldMost (x1 : Int32) (μ : qMM) (hp : PX8_fieldMost x1 μ) : EX (SX8_fieldMost (rti 0 0 (QX8_fieldMost x1 μ)) (fun _ _ _ => False)) 0 [some (.int x1)] [] [] μ (0, 0) := by
  have key : ∀ r, r = greF x1 → rti 0 0 (QX8_fieldMost x1 μ) (some (.int r)) μ (0, 0) := fun r h => by
    rw [rti_at]
    exact ⟨⟨h, rfl⟩, by decide, by decide⟩
  trace_state
  simp only [eX8_fieldMost_0, eX8_fieldMost_1]
  trace_state
  sorry
theorem xX8_linkOf (o : Nat) (x1 : Int32) (μ : qMM) (ht : ∃ t, mS μ o = some (.inl (7, t))) (hp : PX8_linkOf o x1 μ) : EX (SX8_linkOf (rta 0 0 (QX8_linkOf o x1 μ)) (fun _ _ _ => False)) 0 [some (.ref o), some (.int x1)] [] [] μ (0, 0) := by
  have h1 : HsS μ o := hp
  simp only [eX8_linkOf_0, eX8_linkOf_1, eX8_linkOf_4, eX8_linkOf_5, eX8_linkOf_8, eX8_linkOf_11, eX8_linkOf_14, eX8_linkOf_15, eX8_linkOf_18, eX8_linkOf_21, rtv_at, rti_at, rtj_at, rtd_at, rta_at, qOk, qOkR, gX8_0, gX6_2, gX6_3, h1.1, h1.2.2.1.1, QX8_linkOf, qOkR, List.length_nil, List.length_cons, ll0, ll1, ll2, ll3, ll4, Nat.le_refl, and_true, one0, eq_self, or_true, true_or, not_true_eq_false, not_false_eq_true, true_imp_iff, false_imp_iff, true_and, and_true, Classical.not_not]
  by_cases g : x1 = 0 <;> simp [g]
theorem qAal_Pl {μ : qMM} {h : Nat} {i : Int32} {k : Nat → Prop} (g : PlA μ h) : qAal μ (h + 1087) i k = (vp_in i 5 ∧ k (h + 1088 + 80 * i.toNatClampNeg)) := by
  unfold qAal
  rw [g]
  apply propext
  constructor
  · rintro ⟨-, h1, h2⟩
    refine ⟨h1, ?_⟩
    have hl : i.toNatClampNeg < 5 := Nat.not_le.mp fun q => h1 (Or.inr q)
    simp only [if_pos hl] at h2
    exact h2
  · rintro ⟨h1, h2⟩
    have hl : i.toNatClampNeg < 5 := Nat.not_le.mp fun q => h1 (Or.inr q)
    exact ⟨Or.inr rfl, h1, by simp only [if_pos hl]; exact h2⟩
theorem vp5 {n : Nat} (h : n < 5) : vp_in (nI n) 5 := vp_in_nI h (by decide)
/-- the next place, a copy into it -/
theorem next_P {μ : qMM} {h H w c : Nat} {s : Nat → Int32} {sg : Nat → Nat → Int32} (k : HsS μ h) (hN : mN μ = none) (g : HsG H μ h s w c sg) : rem5 (mI μ h 2 + 1) = nI ((w + 1) % 5) ∧ (w + 1) % 5 < 5 ∧ PX6_copyFrom (plN h w) (h + 1007) μ := by
  have hw := g.1.2.1
  refine ⟨by rw [g.1.1, nI_1]; exact rem5_nI (by omega), Nat.mod_lt _ (by decide), ⟨h + 1, k.2.2.2.2.1 _ (Nat.mod_lt _ (by decide)), k.2.2.1⟩, hN, ?_, H, s, g.2.1.1, g.2.1.2.2⟩
  unfold plN
  omega
theorem xX8_saveState (o : Nat) (μ : qMM) (ht : ∃ t, mS μ o = some (.inl (7, t))) (hp : PX8_saveState o μ) : EX (SX8_saveState (rtv 0 0 (QX8_saveState o μ)) (fun _ _ _ => False)) 0 [some (.ref o)] [] [] μ (0, 0) := by
  obtain ⟨k, hN, H, s, w, c, sg, g⟩ := hp
  obtain ⟨n1, n2, n3⟩ := next_P k hN g
  obtain ⟨k1, k2, k3, k4, k5, k6⟩ := id k
  have pn : PX8_nextPlace o μ := k1
  have t6 : ∃ t, mS μ (plN o w) = some (Sum.inl (5, t)) := tX6 (k5 _ n2).1
  unfold plN at t6 n3
  simp only [eX8_saveState_0, eX8_saveState_1, eX8_saveState_4, eX8_saveState_5, eX8_saveState_8, eX8_saveState_9, eX8_saveState_10, eX8_saveState_13, gX8_0, gX8_1, k1, k4, qAal_Pl, ht, pn, QX8_nextPlace, n1, vp5 n2, nIc (show (w + 1) % 5 < 500 by omega), t6, n3, qa2, List.length_nil, List.length_cons, ll0, ll1, ll2, ll3, ll4, Nat.le_refl, and_true, one0, eq_self, or_true, true_or, not_true_eq_false, not_false_eq_true, true_imp_iff, false_imp_iff, true_and, and_true, Classical.not_not]
  intro μ1 q
  obtain ⟨q1, q2, q3⟩ := q
  have k1' : obX8 μ1 o := (HsS_Sm q1 k).1
  have ht' : ∃ t, mS μ1 o = some (Sum.inl (7, t)) := tX8 k1'
  have pk : PX8_keepNextPlace o μ1 := k1'
  simp only [eX8_saveState_16, eX8_saveState_17, eX8_saveState_20, rtv_at, rti_at, rtj_at, rtd_at, rta_at, qOk, qOkR, ht', pk, QX8_keepNextPlace, forall_eq, List.length_nil, List.length_cons, ll0, ll1, ll2, ll3, ll4, Nat.le_refl, and_true, one0, eq_self, or_true, true_or, not_true_eq_false, not_false_eq_true, true_imp_iff, false_imp_iff, true_and, and_true, Classical.not_not]
  refine ⟨Sm_wR q1, fun H' s' w' c' sg' g' => ?_, fun b b1 b2 => by rw [mI_wR_n b1, q3 b (by omega)]⟩
  have ew : w' = w := (nI_eq (by have := g'.1.2.1; omega) (by have := g.1.2.1; omega)).mp (g'.1.1.symm.trans g.1.1)
  subst ew
  have g1 := HsG_copy g' q3
  exact HsG_keep g1 (q2 s' H' g'.2.1.1 g'.2.1.2.2) g1.2.1.2.1 g'.2.1.2.2 (Nat.le_refl _) (fun i hi => (g'.2.2.1 i hi).2.2.2)
