/-! ===== bodies: the face, calls that save ===== -/
theorem sv_P {H : Nat} {μ : qMM} {o : Nat} {m : Mod} (hP : HsP H μ o m) : PX8_saveState o μ := by
  obtain ⟨k, hN, hH, ⟨w, c, f3, g⟩, tx⟩ := hP
  exact ⟨k, hN, H, m.s, w, c, sgP m.p, g⟩
theorem sv_g {H : Nat} {μ μ1 : qMM} {o : Nat} {m : Mod} (hP : HsP H μ o m) (q : QX8_saveState o μ μ1) : StP μ1 (o + 1) (o + 1007) H m.s := by
  obtain ⟨k, hN, hH, ⟨w, c, f3, g⟩, tx⟩ := hP
  exact StP_of (HsS_Sm q.1 k) (by rw [Sm_mN q.1]; exact hN) (q.2.1 _ _ _ _ _ g)
theorem hol_d {m : Mod} : ∀ j, j < 5514 → va_cpy m.s m.d 0 0 5514 j = m.s j := fun j hj => by
  rw [cpyE, if_pos (by omega), show 0 + (j - 0) = j by omega]
/-- a call that saves and lays a state down -/
theorem Q_sav {H H' : Nat} {μ μ1 μ2 : qMM} {o : Nat} {m : Mod} {s' : Nat → Int32} (hP : HsP H μ o m) (q : QX8_saveState o μ μ1) (p : StQ μ1 μ2 (o + 1) (o + 1007) m.s s') (iv : Iv H' s') (h1 : H ≤ H') (h2 : H' ≤ H + 2000) (hn : nOf m.s ≤ nOf s') : HsQ H μ μ2 o (savM m s') :=
  HsQ_sav (m2 := (holM m).ws s') hP q (fun _ _ _ _ => p) iv h1 h2 hn rfl rfl rfl rfl hol_d
theorem Iv_set {H j : Nat} {s : Nat → Int32} {x : Int32} (hj : j ≤ 3) (hx : ¬ x = -1) (iv : Iv H s) : Iv H (upd s j x) := by
  obtain ⟨h0, ha, hb, hc, hd1, hd2, hd3, hd4, hd5, hd6⟩ := iv
  have o : ∀ k, 4 ≤ k → upd s j x k = s k := fun k hk => upd_n (by omega)
  refine ⟨h0, IvA_congr (fun k hk => o k (by omega)) (fun p hp => ⟨o _ (by omega), o _ (by omega), o _ (by omega), o _ (by omega)⟩) ha, IvB_congr (fun k hk => o k (by omega)) hb, IvC_congr (o _ (by omega)) (fun k hk => o _ (by omega)) hc, ?_⟩
  unfold IvD
  rw [o 52 (by omega), o 53 (by omega), o 6 (by omega), o 8 (by omega)]
  refine ⟨hd1, hd2, hd3, hd4, ?_, ?_⟩
  · rw [updE]
    split
    · exact hx
    · exact hd5
  · rw [updE]
    split
    · exact hx
    · exact hd6
theorem Iv_pol {H : Nat} {s : Nat → Int32} {x : Int32} (hx : x = 0 ∨ x = 1 ∨ x = 2) (iv : Iv H s) : Iv H (upd s 6 x) := by
  obtain ⟨h0, ha, hb, hc, hd1, hd2, hd3, hd4, hd5, hd6⟩ := iv
  have o : ∀ k, k ≠ 6 → upd s 6 x k = s k := fun k hk => upd_n hk
  refine ⟨h0, IvA_congr (fun k hk => o k (by omega)) (fun p hp => ⟨o _ (by omega), o _ (by omega), o _ (by omega), o _ (by omega)⟩) ha, IvB_congr (fun k hk => o k (by omega)) hb, IvC_congr (o _ (by omega)) (fun k hk => o _ (by omega)) hc, ?_⟩
  unfold IvD
  rw [o 52 (by omega), o 53 (by omega), upd_s, o 8 (by omega), o 0 (by omega), o 3 (by omega)]
  exact ⟨hd1, hd2, hx, hd4, hd5, hd6⟩
theorem Iv_rcvr {H d v : Nat} {s : Nat → Int32} {z : Int32} (hd : d ≤ 15) (hv : 1 ≤ v ∧ v ≤ 16) (iv : Iv H s) : Iv H (upd (upd (upd s 52 (nI d)) 53 (nI v)) 54 z) := by
  obtain ⟨h0, ha, hb, hc, hd1, hd2, hd3, hd4, hd5, hd6⟩ := iv
  have o : ∀ k, k < 52 ∨ 54 < k → upd (upd (upd s 52 (nI d)) 53 (nI v)) 54 z k = s k := fun k hk => by rw [upd_n (by omega), upd_n (by omega), upd_n (by omega)]
  refine ⟨h0, IvA_congr (fun k hk => o k (by omega)) (fun p hp => ⟨o _ (by omega), o _ (by omega), o _ (by omega), o _ (by omega)⟩) ha, IvB_congr (fun k hk => o k (by omega)) hb, IvC_congr (o _ (by omega)) (fun k hk => o _ (by omega)) hc, ?_⟩
  unfold IvD
  rw [upd_n (show 52 ≠ 54 by decide), upd_n (show 52 ≠ 53 by decide), upd_s, upd_n (show 53 ≠ 54 by decide), upd_s, o 6 (by omega), o 8 (by omega), o 0 (by omega), o 3 (by omega)]
  exact ⟨⟨d, hd, rfl⟩, ⟨v, hv.1, hv.2, rfl⟩, hd3, hd4, hd5, hd6⟩
theorem gre_ne {x y : Int32} (h : 0 ≤ y ∧ y ≤ greF x) : ¬ y = -1 := by
  rintro rfl
  exact absurd h.1 (by decide)
theorem nOf_eq {s t : Nat → Int32} (h : t 9 = s 9) : nOf t = nOf s := by unfold nOf; rw [h]
theorem xX8_setField (o : Nat) (x1 : Int32) (x2 : Int32) (μ : qMM) (ht : ∃ t, mS μ o = some (.inl (7, t))) (hp : PX8_setField o x1 x2 μ) : EX (SX8_setField (rti 1 6 (QX8_setField o x1 x2 μ)) (thX μ (TX8_setField o x1 x2 μ))) 0 [some (.ref o), some (.int x1), some (.int x2), none] [] [] μ (0, 0) := by
  obtain ⟨H, m, hP⟩ := hp
  have ps := sv_P hP
  obtain ⟨k1, k2, k3, k4, k5, k6⟩ := id hP.1
  by_cases g : inR x1 0 3
  · obtain ⟨j, hj, rfl⟩ := inR_idx (b := 3) (by decide) g
    by_cases g2 : inR x2 0 (greF (nI j))
    · simp only [eX8_setField_0, eX8_setField_1, eX8_setField_2, eX8_setField_3, eX8_setField_6, eX8_setField_9, eX8_setField_19, eX8_setField_20, eX8_setField_21, eX8_setField_22, eX8_setField_25, eX8_setField_28, eX8_setField_31, eX8_setField_41, eX8_setField_42, eX8_setField_45, eX8_setField_46, eX8_setField_49, eX8_setField_52, eX8_setField_55, eX8_setField_56, eX8_setField_57, eX8_setField_58, eX8_setField_59, eX8_setField_62, eX8_setField_65, eX8_setField_68, eX8_setField_69, eX8_setField_70, eX8_setField_71, eX8_setField_72, PX8_inRange, QX8_inRange, PX8_fieldMost, QX8_fieldMost, if_pos g, if_pos g2, ht, ps, qa2, qOk, List.length_nil, List.length_cons, ll0, ll1, ll2, ll3, ll4, Nat.le_refl, and_true, Nat.zero_add, Nat.add_zero, Nat.zero_le, one0, eq_self, or_true, true_or, not_true_eq_false, not_false_eq_true, true_imp_iff, false_imp_iff, true_and, and_true, Classical.not_not]
      intro μ1 q
      obtain ⟨e1, e2, e3, e4, e5, e6⟩ := HsS_Sm q.1 hP.1
      simp only [eX8_setField_0, eX8_setField_1, eX8_setField_2, eX8_setField_3, eX8_setField_6, eX8_setField_9, eX8_setField_19, eX8_setField_20, eX8_setField_21, eX8_setField_22, eX8_setField_25, eX8_setField_28, eX8_setField_31, eX8_setField_41, eX8_setField_42, eX8_setField_45, eX8_setField_46, eX8_setField_49, eX8_setField_52, eX8_setField_55, eX8_setField_56, eX8_setField_57, eX8_setField_58, eX8_setField_59, eX8_setField_62, eX8_setField_65, eX8_setField_68, eX8_setField_69, eX8_setField_70, eX8_setField_71, eX8_setField_72, rtv_at, rti_at, rtj_at, rtd_at, rta_at, qOk, qOkR, gX8_0, gX6_0, gX5_1 (o + 1), e1, e3.1, e3.2.1.1, e3.2.1.2.1, obX8_wI, qA6, vp6 (show j < 6 by omega), nIc (show j < 500 by omega), wI_def, qOk, List.length_nil, List.length_cons, ll0, ll1, ll2, ll3, ll4, Nat.le_refl, and_true, Nat.zero_add, Nat.add_zero, Nat.zero_le, thX, one0, eq_self, or_true, true_or, not_true_eq_false, not_false_eq_true, true_imp_iff, false_imp_iff, true_and, and_true, Classical.not_not]
      intro H m hP
      have hS := sv_g hP q
      have ea : setFieldA m (nI j) x2 = (m.s j, savM m (upd m.s j x2)) := by
        unfold setFieldA
        rw [if_pos g, if_pos g2, nI_clamp (by omega)]
      rw [ea]
      refine ⟨end6, hS.2.2.2.1.1.1 j (by omega), Q_sav hP q (StQ_snd hS (Sm_wR Sm_refl) (fun b b1 b2 => mI_wR_n b2) (fun k hk => upd_n (by omega)) (fun k hk => ?_) ?_ ?_ (fun k hk => by rw [mI_wR_n (by omega)])) (Iv_set (by omega) (gre_ne g2) hS.2.2.2.2.2.2) (Nat.le_refl _) (by omega) (Nat.le_of_eq (nOf_eq (upd_n (by omega))).symm)⟩
      · rw [mI_wR_s, updE, updE]
        by_cases z : k = j
        · rw [if_pos z, if_pos z]
        · rw [if_neg z, if_neg z]
          exact hS.2.2.2.1.1.1 k hk
      · rw [mI_wR_n (by omega), upd_n (by omega)]
        exact hS.2.2.2.1.1.2.1
      · rw [mI_wR_n (by omega), upd_n (by omega)]
        exact hS.2.2.2.1.1.2.2.1
    · simp only [eX8_setField_0, eX8_setField_1, eX8_setField_2, eX8_setField_3, eX8_setField_6, eX8_setField_9, eX8_setField_19, eX8_setField_20, eX8_setField_21, eX8_setField_22, eX8_setField_25, eX8_setField_28, eX8_setField_31, eX8_setField_41, eX8_setField_42, eX8_setField_45, eX8_setField_46, eX8_setField_49, eX8_setField_52, eX8_setField_55, eX8_setField_56, eX8_setField_57, eX8_setField_58, eX8_setField_59, eX8_setField_62, eX8_setField_65, eX8_setField_68, eX8_setField_69, eX8_setField_70, eX8_setField_71, eX8_setField_72, rtv_at, rti_at, rtj_at, rtd_at, rta_at, qOk, qOkR, PX8_inRange, QX8_inRange, PX8_fieldMost, QX8_fieldMost, if_pos g, if_neg g2, qa2, qOk, List.length_nil, List.length_cons, ll0, ll1, ll2, ll3, ll4, Nat.le_refl, and_true, Nat.zero_add, Nat.add_zero, Nat.zero_le, thX, one0, eq_self, or_true, true_or, not_true_eq_false, not_false_eq_true, true_imp_iff, false_imp_iff, true_and, and_true, Classical.not_not]
      intro H m hP
      unfold setFieldA
      rw [if_pos g, if_neg g2]
      exact Or.inr ⟨rfl, fai6⟩
  · simp only [eX8_setField_0, eX8_setField_1, eX8_setField_2, eX8_setField_3, eX8_setField_6, eX8_setField_9, eX8_setField_19, eX8_setField_20, eX8_setField_21, eX8_setField_22, eX8_setField_25, eX8_setField_28, eX8_setField_31, eX8_setField_41, eX8_setField_42, eX8_setField_45, eX8_setField_46, eX8_setField_49, eX8_setField_52, eX8_setField_55, eX8_setField_56, eX8_setField_57, eX8_setField_58, eX8_setField_59, eX8_setField_62, eX8_setField_65, eX8_setField_68, eX8_setField_69, eX8_setField_70, eX8_setField_71, eX8_setField_72, rtv_at, rti_at, rtj_at, rtd_at, rta_at, qOk, qOkR, PX8_inRange, QX8_inRange, if_neg g, qa2, qOk, List.length_nil, List.length_cons, ll0, ll1, ll2, ll3, ll4, Nat.le_refl, and_true, Nat.zero_add, Nat.add_zero, Nat.zero_le, thX, one0, eq_self, or_true, true_or, not_true_eq_false, not_false_eq_true, true_imp_iff, false_imp_iff, true_and, and_true, Classical.not_not]
    intro H m hP
    unfold setFieldA
    rw [if_neg g]
    exact Or.inl ⟨rfl, fai6⟩
theorem xX8_setStrides (o : Nat) (x1 : Int32) (x2 : Int32) (μ : qMM) (ht : ∃ t, mS μ o = some (.inl (7, t))) (hp : PX8_setStrides o x1 x2 μ) : EX (SX8_setStrides (rti 1 6 (QX8_setStrides o x1 x2 μ)) (thX μ (TX8_setStrides o x1 x2 μ))) 0 [some (.ref o), some (.int x1), some (.int x2), none] [] [] μ (0, 0) := by
  obtain ⟨H, m, hP⟩ := hp
  have ps := sv_P hP
  obtain ⟨k1, k2, k3, k4, k5, k6⟩ := id hP.1
  have bad : ¬ (inR x1 0 255 ∧ inR x2 0 4095) → thX μ (TX8_setStrides o x1 x2 μ) "java/lang/IllegalArgumentException" μ (0, 0) := fun g => by
    refine ⟨fun H m hP => ?_, rfl, Nat.le_refl _, Nat.le_refl _⟩
    unfold setStridesA
    rw [if_neg g]
    exact ⟨rfl, fai6⟩
  by_cases g : inR x1 0 255
  · by_cases g2 : inR x2 0 4095
    · simp only [eX8_setStrides_0, eX8_setStrides_1, eX8_setStrides_2, eX8_setStrides_5, eX8_setStrides_8, eX8_setStrides_11, eX8_setStrides_12, eX8_setStrides_13, eX8_setStrides_16, eX8_setStrides_19, eX8_setStrides_22, eX8_setStrides_32, eX8_setStrides_33, eX8_setStrides_36, eX8_setStrides_37, eX8_setStrides_40, eX8_setStrides_43, eX8_setStrides_46, eX8_setStrides_47, eX8_setStrides_48, eX8_setStrides_49, eX8_setStrides_50, eX8_setStrides_53, eX8_setStrides_56, eX8_setStrides_59, eX8_setStrides_60, eX8_setStrides_61, eX8_setStrides_62, eX8_setStrides_63, eX8_setStrides_66, eX8_setStrides_69, eX8_setStrides_72, eX8_setStrides_73, eX8_setStrides_74, eX8_setStrides_75, eX8_setStrides_76, PX8_inRange, QX8_inRange, if_pos g, if_pos g2, ht, ps, qa2, qOk, List.length_nil, List.length_cons, ll0, ll1, ll2, ll3, ll4, Nat.le_refl, and_true, Nat.zero_add, Nat.add_zero, Nat.zero_le, one0, eq_self, or_true, true_or, not_true_eq_false, not_false_eq_true, true_imp_iff, false_imp_iff, true_and, and_true, Classical.not_not]
      intro μ1 q
      obtain ⟨e1, e2, e3, e4, e5, e6⟩ := HsS_Sm q.1 hP.1
      simp only [eX8_setStrides_0, eX8_setStrides_1, eX8_setStrides_2, eX8_setStrides_5, eX8_setStrides_8, eX8_setStrides_11, eX8_setStrides_12, eX8_setStrides_13, eX8_setStrides_16, eX8_setStrides_19, eX8_setStrides_22, eX8_setStrides_32, eX8_setStrides_33, eX8_setStrides_36, eX8_setStrides_37, eX8_setStrides_40, eX8_setStrides_43, eX8_setStrides_46, eX8_setStrides_47, eX8_setStrides_48, eX8_setStrides_49, eX8_setStrides_50, eX8_setStrides_53, eX8_setStrides_56, eX8_setStrides_59, eX8_setStrides_60, eX8_setStrides_61, eX8_setStrides_62, eX8_setStrides_63, eX8_setStrides_66, eX8_setStrides_69, eX8_setStrides_72, eX8_setStrides_73, eX8_setStrides_74, eX8_setStrides_75, eX8_setStrides_76, rtv_at, rti_at, rtj_at, rtd_at, rta_at, qOk, qOkR, gX8_0, gX6_0, gX5_1 (o + 1), e1, e3.1, e3.2.1.1, e3.2.1.2.1, obX8_wI, obX6_wI, obX5_wI, iA_wI, qA6, v46, v56, ci4, ci5, wI_def, obX8_wR, obX6_wR, obX5_wR, iA_wR, mI_wR_s, wR_wR, qOk, List.length_nil, List.length_cons, ll0, ll1, ll2, ll3, ll4, Nat.le_refl, and_true, Nat.zero_add, Nat.add_zero, Nat.zero_le, thX, one0, eq_self, or_true, true_or, not_true_eq_false, not_false_eq_true, true_imp_iff, false_imp_iff, true_and, and_true, Classical.not_not]
      intro H m hP
      have hS := sv_g hP q
      have ea : setStridesA m x1 x2 = (m.s 5, savM m (upd (upd m.s 4 x1) 5 x2)) := by
        unfold setStridesA
        rw [if_pos ⟨g, g2⟩]
      rw [ea]
      refine ⟨end6, hS.2.2.2.1.1.1 5 (by omega), Q_sav hP q (StQ_snd hS (Sm_wR Sm_refl) (fun b b1 b2 => mI_wR_n b2) (fun k hk => by rw [upd_n (by omega), upd_n (by omega)]) (fun k hk => ?_) ?_ ?_ (fun k hk => by rw [mI_wR_n (by omega)])) (Iv_upd (by unfold irr; omega) (Iv_upd (by unfold irr; omega) hS.2.2.2.2.2.2)) (Nat.le_refl _) (by omega) (Nat.le_of_eq (nOf_eq (by rw [upd_n (by omega), upd_n (by omega)])).symm)⟩
      · rw [mI_wR_s, updE, updE, updE, updE]
        by_cases z : k = 5
        · rw [if_pos z, if_pos z]
        · rw [if_neg z, if_neg z]
          by_cases z2 : k = 4
          · rw [if_pos z2, if_pos z2]
          · rw [if_neg z2, if_neg z2]
            exact hS.2.2.2.1.1.1 k hk
      · rw [mI_wR_n (by omega), upd_n (by omega), upd_n (by omega)]
        exact hS.2.2.2.1.1.2.1
      · rw [mI_wR_n (by omega), upd_n (by omega), upd_n (by omega)]
        exact hS.2.2.2.1.1.2.2.1
    · have b := bad (fun z => g2 z.2)
      simp only [eX8_setStrides_0, eX8_setStrides_1, eX8_setStrides_2, eX8_setStrides_5, eX8_setStrides_8, eX8_setStrides_11, eX8_setStrides_12, eX8_setStrides_13, eX8_setStrides_16, eX8_setStrides_19, eX8_setStrides_22, eX8_setStrides_32, eX8_setStrides_33, eX8_setStrides_36, eX8_setStrides_37, eX8_setStrides_40, eX8_setStrides_43, eX8_setStrides_46, eX8_setStrides_47, eX8_setStrides_48, eX8_setStrides_49, eX8_setStrides_50, eX8_setStrides_53, eX8_setStrides_56, eX8_setStrides_59, eX8_setStrides_60, eX8_setStrides_61, eX8_setStrides_62, eX8_setStrides_63, eX8_setStrides_66, eX8_setStrides_69, eX8_setStrides_72, eX8_setStrides_73, eX8_setStrides_74, eX8_setStrides_75, eX8_setStrides_76, PX8_inRange, QX8_inRange, if_pos g, if_neg g2, qa2, qOk, List.length_nil, List.length_cons, ll0, ll1, ll2, ll3, ll4, Nat.le_refl, and_true, Nat.zero_add, Nat.add_zero, Nat.zero_le, one0, eq_self, or_true, true_or, not_true_eq_false, not_false_eq_true, true_imp_iff, false_imp_iff, true_and, and_true, Classical.not_not]
      exact b
  · have b := bad (fun z => g z.1)
    simp only [eX8_setStrides_0, eX8_setStrides_1, eX8_setStrides_2, eX8_setStrides_5, eX8_setStrides_8, eX8_setStrides_11, eX8_setStrides_12, eX8_setStrides_13, eX8_setStrides_16, eX8_setStrides_19, eX8_setStrides_22, eX8_setStrides_32, eX8_setStrides_33, eX8_setStrides_36, eX8_setStrides_37, eX8_setStrides_40, eX8_setStrides_43, eX8_setStrides_46, eX8_setStrides_47, eX8_setStrides_48, eX8_setStrides_49, eX8_setStrides_50, eX8_setStrides_53, eX8_setStrides_56, eX8_setStrides_59, eX8_setStrides_60, eX8_setStrides_61, eX8_setStrides_62, eX8_setStrides_63, eX8_setStrides_66, eX8_setStrides_69, eX8_setStrides_72, eX8_setStrides_73, eX8_setStrides_74, eX8_setStrides_75, eX8_setStrides_76, PX8_inRange, QX8_inRange, if_neg g, qa2, qOk, List.length_nil, List.length_cons, ll0, ll1, ll2, ll3, ll4, Nat.le_refl, and_true, Nat.zero_add, Nat.add_zero, Nat.zero_le, one0, eq_self, or_true, true_or, not_true_eq_false, not_false_eq_true, true_imp_iff, false_imp_iff, true_and, and_true, Classical.not_not]
    exact b
theorem xX8_setPolicy (o : Nat) (x1 : Int32) (x2 : Int32) (μ : qMM) (ht : ∃ t, mS μ o = some (.inl (7, t))) (hp : PX8_setPolicy o x1 x2 μ) : EX (SX8_setPolicy (rti 1 6 (QX8_setPolicy o x1 x2 μ)) (thX μ (TX8_setPolicy o x1 x2 μ))) 0 [some (.ref o), some (.int x1), some (.int x2), none] [] [] μ (0, 0) := by
  obtain ⟨H, m, hP⟩ := hp
  have ps := sv_P hP
  obtain ⟨k1, k2, k3, k4, k5, k6⟩ := id hP.1
  have bad : ¬ polR x1 x2 → thX μ (TX8_setPolicy o x1 x2 μ) "java/lang/IllegalArgumentException" μ (0, 0) := fun g => by
    refine ⟨fun H m hP => ?_, rfl, Nat.le_refl _, Nat.le_refl _⟩
    unfold setPolicyA
    rw [if_neg g]
    exact ⟨rfl, fai6⟩
  by_cases g : 0 ≤ x1 ∧ x1 ≤ 2
  · by_cases g2 : 0 ≤ x2 ∧ x2 ≤ 15
    · simp only [eX8_setPolicy_0, eX8_setPolicy_1, eX8_setPolicy_2, eX8_setPolicy_3, eX8_setPolicy_6, eX8_setPolicy_9, eX8_setPolicy_10, eX8_setPolicy_11, eX8_setPolicy_13, eX8_setPolicy_16, eX8_setPolicy_19, eX8_setPolicy_29, eX8_setPolicy_30, eX8_setPolicy_33, eX8_setPolicy_34, eX8_setPolicy_37, eX8_setPolicy_40, eX8_setPolicy_43, eX8_setPolicy_44, eX8_setPolicy_45, eX8_setPolicy_48, eX8_setPolicy_51, eX8_setPolicy_52, eX8_setPolicy_55, eX8_setPolicy_56, eX8_setPolicy_59, eX8_setPolicy_62, eX8_setPolicy_63, eX8_setPolicy_66, eX8_setPolicy_67, PX8_inRange, QX8_inRange, if_pos g, if_pos g2, ht, ps, qa2, qOk, List.length_nil, List.length_cons, ll0, ll1, ll2, ll3, ll4, Nat.le_refl, and_true, Nat.zero_add, Nat.add_zero, Nat.zero_le, one0, eq_self, or_true, true_or, not_true_eq_false, not_false_eq_true, true_imp_iff, false_imp_iff, true_and, and_true, Classical.not_not]
      intro μ1 q
      obtain ⟨e1, e2, e3, e4, e5, e6⟩ := HsS_Sm q.1 hP.1
      simp only [eX8_setPolicy_0, eX8_setPolicy_1, eX8_setPolicy_2, eX8_setPolicy_3, eX8_setPolicy_6, eX8_setPolicy_9, eX8_setPolicy_10, eX8_setPolicy_11, eX8_setPolicy_13, eX8_setPolicy_16, eX8_setPolicy_19, eX8_setPolicy_29, eX8_setPolicy_30, eX8_setPolicy_33, eX8_setPolicy_34, eX8_setPolicy_37, eX8_setPolicy_40, eX8_setPolicy_43, eX8_setPolicy_44, eX8_setPolicy_45, eX8_setPolicy_48, eX8_setPolicy_51, eX8_setPolicy_52, eX8_setPolicy_55, eX8_setPolicy_56, eX8_setPolicy_59, eX8_setPolicy_62, eX8_setPolicy_63, eX8_setPolicy_66, eX8_setPolicy_67, rtv_at, rti_at, rtj_at, rtd_at, rta_at, qOk, qOkR, gX8_0, gX6_0, gX5_2 (o + 1), pX5_2 (o + 1), pX5_3 (o + 1), e1, e3.1, e3.2.1.1, obX8_wI, obX6_wI, obX5_wI, wI_def, obX8_wR, obX6_wR, obX5_wR, mI_wR_s, wR_wR, qOk, List.length_nil, List.length_cons, ll0, ll1, ll2, ll3, ll4, Nat.le_refl, and_true, Nat.zero_add, Nat.add_zero, Nat.zero_le, thX, one0, eq_self, or_true, true_or, not_true_eq_false, not_false_eq_true, true_imp_iff, false_imp_iff, true_and, and_true, Classical.not_not]
      intro H m hP
      have hS := sv_g hP q
      have ea : setPolicyA m x1 x2 = (m.s 6, savM m (upd (upd m.s 6 x1) 7 x2)) := by
        unfold setPolicyA
        rw [if_pos ⟨g, g2⟩]
      rw [ea]
      have hx : x1 = 0 ∨ x1 = 1 ∨ x1 = 2 := by
        obtain ⟨j, hj, rfl⟩ := inR_idx (b := 2) (by decide) g
        rcases (by omega : j = 0 ∨ j = 1 ∨ j = 2) with rfl | rfl | rfl
        · exact Or.inl rfl
        · exact Or.inr (Or.inl rfl)
        · exact Or.inr (Or.inr rfl)
      refine ⟨end6, hS.2.2.2.1.1.2.1, Q_sav hP q (StQ_snd hS (Sm_wR Sm_refl) (fun b b1 b2 => mI_wR_n b1) (fun k hk => by rw [upd_n (by omega), upd_n (by omega)]) (fun k hk => ?_) ?_ ?_ (fun k hk => by rw [mI_wR_s, upd_n (by omega), upd_n (by omega)])) (Iv_upd (by unfold irr; omega) (Iv_pol hx hS.2.2.2.2.2.2)) (Nat.le_refl _) (by omega) (Nat.le_of_eq (nOf_eq (by rw [upd_n (by omega), upd_n (by omega)])).symm)⟩
      · rw [mI_wR_n (by omega), upd_n (by omega), upd_n (by omega)]
        exact hS.2.2.2.1.1.1 k hk
      · rw [mI_wR_s, upd_n (by decide), upd_s, upd_n (by decide), upd_s]
      · rw [mI_wR_s, upd_s, upd_s]
    · have b := bad (fun z => g2 z.2)
      simp only [eX8_setPolicy_0, eX8_setPolicy_1, eX8_setPolicy_2, eX8_setPolicy_3, eX8_setPolicy_6, eX8_setPolicy_9, eX8_setPolicy_10, eX8_setPolicy_11, eX8_setPolicy_13, eX8_setPolicy_16, eX8_setPolicy_19, eX8_setPolicy_29, eX8_setPolicy_30, eX8_setPolicy_33, eX8_setPolicy_34, eX8_setPolicy_37, eX8_setPolicy_40, eX8_setPolicy_43, eX8_setPolicy_44, eX8_setPolicy_45, eX8_setPolicy_48, eX8_setPolicy_51, eX8_setPolicy_52, eX8_setPolicy_55, eX8_setPolicy_56, eX8_setPolicy_59, eX8_setPolicy_62, eX8_setPolicy_63, eX8_setPolicy_66, eX8_setPolicy_67, PX8_inRange, QX8_inRange, if_pos g, if_neg g2, qa2, qOk, List.length_nil, List.length_cons, ll0, ll1, ll2, ll3, ll4, Nat.le_refl, and_true, Nat.zero_add, Nat.add_zero, Nat.zero_le, one0, eq_self, or_true, true_or, not_true_eq_false, not_false_eq_true, true_imp_iff, false_imp_iff, true_and, and_true, Classical.not_not]
      exact b
  · have b := bad (fun z => g z.1)
    simp only [eX8_setPolicy_0, eX8_setPolicy_1, eX8_setPolicy_2, eX8_setPolicy_3, eX8_setPolicy_6, eX8_setPolicy_9, eX8_setPolicy_10, eX8_setPolicy_11, eX8_setPolicy_13, eX8_setPolicy_16, eX8_setPolicy_19, eX8_setPolicy_29, eX8_setPolicy_30, eX8_setPolicy_33, eX8_setPolicy_34, eX8_setPolicy_37, eX8_setPolicy_40, eX8_setPolicy_43, eX8_setPolicy_44, eX8_setPolicy_45, eX8_setPolicy_48, eX8_setPolicy_51, eX8_setPolicy_52, eX8_setPolicy_55, eX8_setPolicy_56, eX8_setPolicy_59, eX8_setPolicy_62, eX8_setPolicy_63, eX8_setPolicy_66, eX8_setPolicy_67, PX8_inRange, QX8_inRange, if_neg g, qa2, qOk, List.length_nil, List.length_cons, ll0, ll1, ll2, ll3, ll4, Nat.le_refl, and_true, Nat.zero_add, Nat.add_zero, Nat.zero_le, one0, eq_self, or_true, true_or, not_true_eq_false, not_false_eq_true, true_imp_iff, false_imp_iff, true_and, and_true, Classical.not_not]
    exact b
theorem xX8_advance (o : Nat) (μ : qMM) (ht : ∃ t, mS μ o = some (.inl (7, t))) (hp : PX8_advance o μ) : EX (SX8_advance (rti 0 0 (QX8_advance o μ)) (fun _ _ _ => False)) 0 [some (.ref o)] [] [] μ (0, 0) := by
  obtain ⟨H, m, hP⟩ := hp
  have ps := sv_P hP
  simp only [eX8_advance_0, eX8_advance_1, eX8_advance_4, eX8_advance_5, eX8_advance_8, eX8_advance_11, eX8_advance_14, eX8_advance_15, eX8_advance_18, eX8_advance_21, eX8_advance_24, eX8_advance_25, eX8_advance_26, ht, ps, qOk, List.length_nil, List.length_cons, ll0, ll1, ll2, ll3, ll4, Nat.le_refl, and_true, one0, eq_self, or_true, true_or, not_true_eq_false, not_false_eq_true, true_imp_iff, false_imp_iff, true_and, and_true, Classical.not_not]
  intro μ1 q
  obtain ⟨e1, e2, e3, e4, e5, e6⟩ := HsS_Sm q.1 hP.1
  have t5 := tX5 (o + 1) e3.2.1.1
  have pt : PX5_step (o + 1007 + 5) μ1 := ⟨o + 1, e3.2.1⟩
  simp only [eX8_advance_0, eX8_advance_1, eX8_advance_4, eX8_advance_5, eX8_advance_8, eX8_advance_11, eX8_advance_14, eX8_advance_15, eX8_advance_18, eX8_advance_21, eX8_advance_24, eX8_advance_25, eX8_advance_26, rtv_at, rti_at, rtj_at, rtd_at, rta_at, qOk, qOkR, gX8_0, gX6_0, gX5_1 (o + 1), e1, e3.1, e3.2.1.1, e3.2.1.2.1, t5, pt, QX5_step, forall_eq, obX8_wR, obX6_wR, obX5_wR, iA_wR, qA6, v16, ci1, mI_wR_s, qOk, List.length_nil, List.length_cons, ll0, ll1, ll2, ll3, ll4, Nat.le_refl, and_true, one0, eq_self, or_true, true_or, not_true_eq_false, not_false_eq_true, true_imp_iff, false_imp_iff, true_and, and_true, Classical.not_not]
  intro H m hP
  have hS := sv_g hP q
  refine ⟨?_, Q_sav hP q (StQ_goes hS) (Iv_goes hS.2.2.2.2.2.2) (Nat.le_refl _) (by omega) (Nat.le_of_eq (nOf_eq (by unfold goesF; rw [upd_n (by omega), upd_n (by omega)])).symm)⟩
  show _ = goesF m.s 1
  have c1 := hS.2.2.2.1.1.1
  unfold goesF
  rw [upd_n (by decide), upd_s, upd_n (by decide), upd_s, c1 1 (by decide), c1 4 (by decide)]
theorem xX8_setReceiver (o : Nat) (x1 : Int32) (x2 : Int32) (x3 : Int32) (μ : qMM) (ht : ∃ t, mS μ o = some (.inl (7, t))) (hp : PX8_setReceiver o x1 x2 x3 μ) : EX (SX8_setReceiver (rti 1 6 (QX8_setReceiver o x1 x2 x3 μ)) (thX μ (TX8_setReceiver o x1 x2 x3 μ))) 0 [some (.ref o), some (.int x1), some (.int x2), some (.int x3), none] [] [] μ (0, 0) := by
  obtain ⟨H, m, hP⟩ := hp
  have ps := sv_P hP
  obtain ⟨k1, k2, k3, k4, k5, k6⟩ := id hP.1
  have bad : ¬ (inR x1 0 15 ∧ inR x2 1 16 ∧ inR x3 1 8) → thX μ (TX8_setReceiver o x1 x2 x3 μ) "java/lang/IllegalArgumentException" μ (0, 0) := fun g => by
    refine ⟨fun H m hP => ?_, rfl, Nat.le_refl _, Nat.le_refl _⟩
    unfold setReceiverA
    rw [if_neg g]
    exact ⟨rfl, fai6⟩
  by_cases g : inR x1 0 15
  · by_cases g2 : inR x2 1 16
    · by_cases g3 : inR x3 1 8
      · simp only [eX8_setReceiver_0, eX8_setReceiver_1, eX8_setReceiver_2, eX8_setReceiver_4, eX8_setReceiver_7, eX8_setReceiver_10, eX8_setReceiver_11, eX8_setReceiver_12, eX8_setReceiver_14, eX8_setReceiver_17, eX8_setReceiver_20, eX8_setReceiver_21, eX8_setReceiver_22, eX8_setReceiver_24, eX8_setReceiver_27, eX8_setReceiver_30, eX8_setReceiver_40, eX8_setReceiver_41, eX8_setReceiver_44, eX8_setReceiver_45, eX8_setReceiver_48, eX8_setReceiver_51, eX8_setReceiver_54, eX8_setReceiver_56, eX8_setReceiver_57, eX8_setReceiver_60, eX8_setReceiver_63, eX8_setReceiver_64, eX8_setReceiver_67, eX8_setReceiver_68, eX8_setReceiver_71, eX8_setReceiver_74, eX8_setReceiver_75, eX8_setReceiver_78, eX8_setReceiver_79, eX8_setReceiver_82, eX8_setReceiver_85, eX8_setReceiver_86, eX8_setReceiver_89, eX8_setReceiver_91, PX8_inRange, QX8_inRange, if_pos g, if_pos g2, if_pos g3, ht, ps, qa2, qOk, List.length_nil, List.length_cons, ll0, ll1, ll2, ll3, ll4, Nat.le_refl, and_true, Nat.zero_add, Nat.add_zero, Nat.zero_le, one0, eq_self, or_true, true_or, not_true_eq_false, not_false_eq_true, true_imp_iff, false_imp_iff, true_and, and_true, Classical.not_not]
        intro μ1 q
        obtain ⟨e1, e2, e3, e4, e5, e6⟩ := HsS_Sm q.1 hP.1
        simp only [eX8_setReceiver_0, eX8_setReceiver_1, eX8_setReceiver_2, eX8_setReceiver_4, eX8_setReceiver_7, eX8_setReceiver_10, eX8_setReceiver_11, eX8_setReceiver_12, eX8_setReceiver_14, eX8_setReceiver_17, eX8_setReceiver_20, eX8_setReceiver_21, eX8_setReceiver_22, eX8_setReceiver_24, eX8_setReceiver_27, eX8_setReceiver_30, eX8_setReceiver_40, eX8_setReceiver_41, eX8_setReceiver_44, eX8_setReceiver_45, eX8_setReceiver_48, eX8_setReceiver_51, eX8_setReceiver_54, eX8_setReceiver_56, eX8_setReceiver_57, eX8_setReceiver_60, eX8_setReceiver_63, eX8_setReceiver_64, eX8_setReceiver_67, eX8_setReceiver_68, eX8_setReceiver_71, eX8_setReceiver_74, eX8_setReceiver_75, eX8_setReceiver_78, eX8_setReceiver_79, eX8_setReceiver_82, eX8_setReceiver_85, eX8_setReceiver_86, eX8_setReceiver_89, eX8_setReceiver_91, rtv_at, rti_at, rtj_at, rtd_at, rta_at, qOk, qOkR, gX8_0, gX6_1, gX2_1 (o + 1), pX2_1 (o + 1), pX2_2 (o + 1), pX2_3 (o + 1), e1, e3.1, e3.2.2.1.1, obX8_wI, obX6_wI, obX2_wI, wI_def, obX8_wR, obX6_wR, obX2_wR, mI_wR_s, wR_wR, qOk, List.length_nil, List.length_cons, ll0, ll1, ll2, ll3, ll4, Nat.le_refl, and_true, Nat.zero_add, Nat.add_zero, Nat.zero_le, thX, one0, eq_self, or_true, true_or, not_true_eq_false, not_false_eq_true, true_imp_iff, false_imp_iff, true_and, and_true, Classical.not_not]
        intro H m hP
        have hS := sv_g hP q
        have ea : setReceiverA m x1 x2 x3 = (m.s 52, savM m (upd (upd (upd m.s 52 x1) 53 x2) 54 x3)) := by
          unfold setReceiverA
          rw [if_pos ⟨g, g2, g3⟩]
        rw [ea]
        obtain ⟨d, hd, rfl⟩ := inR_idx (b := 15) (by decide) g
        have h02 : 0 ≤ x2 ∧ x2 ≤ nI 16 := ⟨Int32.le_trans (by decide) g2.1, g2.2⟩
        obtain ⟨v, hv, rfl⟩ := inR_idx (b := 16) (by decide) h02
        have hv1 : 1 ≤ v := (nI_leI (a := 1) (by decide) (by omega)).mp g2.1
        have tn : ∀ j, j < 52 ∨ 54 < j → upd (upd (upd m.s 52 (nI d)) 53 (nI v)) 54 x3 j = m.s j := fun j hj => by rw [upd_n (by omega), upd_n (by omega), upd_n (by omega)]
        obtain ⟨r1, ⟨⟨a1, a2, a3, a4, a5, a6, a7⟩, rb, rc⟩, r3, r4⟩ := hS.2.2.2.1
        obtain ⟨n, hn, hn9, hpk, f, hf, hf1, -⟩ := id hS.2.2.2.2.2.2.2.1
        obtain ⟨b, hb, hb1, -⟩ := id hS.2.2.2.2.2.2.2.2.1
        have hw : ∀ b, b ≠ o + 1007 + 10 → mI (wR μ1 (o + 1007 + 10) (upd (upd (upd (mI μ1 (o + 1007 + 10)) 1 (nI d)) 2 (nI v)) 3 x3)) b = mI μ1 b := fun b hb => mI_wR_n hb
        refine ⟨end6, a1, Q_sav hP q (StQ_of hS (Sm_wR Sm_refl) (fun b b1 => hw b (by omega)) ⟨?_, ?_, ?_, ?_⟩ (tn 9 (by omega)) (fun p hp j hj => tn _ (by omega))) (Iv_rcvr hd ⟨hv1, hv⟩ hS.2.2.2.2.2.2) (Nat.le_refl _) (by omega) (Nat.le_of_eq (nOf_eq (tn 9 (by omega))).symm)⟩
        · exact SnR_congr (fun j hj => tn j (by omega)) (fun p hp => tn _ (by omega)) (SnR_mem (fun b b1 b2 => hw b (by omega)) r1)
        · unfold RcR
          rw [mI_wR_s, hw _ (by omega), hw _ (by omega)]
          refine ⟨⟨?_, ?_, ?_, ?_, ?_, ?_, ?_⟩, ?_, fun k hk => ?_⟩
          · rw [upd_n (by decide), upd_n (by decide), upd_s, upd_n (by decide), upd_n (by decide), upd_s]
          · rw [upd_n (by decide), upd_s, upd_n (by decide), upd_s]
          · rw [upd_s, upd_s]
          · rw [upd_n (by decide), upd_n (by decide), upd_n (by decide), tn 55 (by omega)]; exact a4
          · rw [upd_n (by decide), upd_n (by decide), upd_n (by decide), tn 56 (by omega)]; exact a5
          · rw [upd_n (by decide), upd_n (by decide), upd_n (by decide), tn 62 (by omega)]; exact a6
          · rw [upd_n (by decide), upd_n (by decide), upd_n (by decide), tn 65 (by omega)]; exact a7
          · rw [tn 57 (by omega), tn 58 (by omega), tn 59 (by omega), tn 60 (by omega), tn 61 (by omega)]; exact rb
          · rw [hw _ (by omega), tn _ (by omega)]
            refine ⟨(rc k hk).1, fun z j hj => ?_⟩
            rw [tn _ (by omega)]
            exact (rc k hk).2 z j hj
        · exact LkR_congr hf1 hf (fun j j1 j2 => tn j (by omega)) (LkR_mem (hw _ (by omega)) (hw _ (by omega)) r3)
        · exact LkR_congr hb1 hb (fun j j1 j2 => tn j (by omega)) (LkR_mem (hw _ (by omega)) (hw _ (by omega)) r4)
      · have b := bad (fun z => g3 z.2.2)
        simp only [eX8_setReceiver_0, eX8_setReceiver_1, eX8_setReceiver_2, eX8_setReceiver_4, eX8_setReceiver_7, eX8_setReceiver_10, eX8_setReceiver_11, eX8_setReceiver_12, eX8_setReceiver_14, eX8_setReceiver_17, eX8_setReceiver_20, eX8_setReceiver_21, eX8_setReceiver_22, eX8_setReceiver_24, eX8_setReceiver_27, eX8_setReceiver_30, eX8_setReceiver_40, eX8_setReceiver_41, eX8_setReceiver_44, eX8_setReceiver_45, eX8_setReceiver_48, eX8_setReceiver_51, eX8_setReceiver_54, eX8_setReceiver_56, eX8_setReceiver_57, eX8_setReceiver_60, eX8_setReceiver_63, eX8_setReceiver_64, eX8_setReceiver_67, eX8_setReceiver_68, eX8_setReceiver_71, eX8_setReceiver_74, eX8_setReceiver_75, eX8_setReceiver_78, eX8_setReceiver_79, eX8_setReceiver_82, eX8_setReceiver_85, eX8_setReceiver_86, eX8_setReceiver_89, eX8_setReceiver_91, PX8_inRange, QX8_inRange, if_pos g, if_pos g2, if_neg g3, qa2, qOk, List.length_nil, List.length_cons, ll0, ll1, ll2, ll3, ll4, Nat.le_refl, and_true, Nat.zero_add, Nat.add_zero, Nat.zero_le, one0, eq_self, or_true, true_or, not_true_eq_false, not_false_eq_true, true_imp_iff, false_imp_iff, true_and, and_true, Classical.not_not]
        exact b
    · have b := bad (fun z => g2 z.2.1)
      simp only [eX8_setReceiver_0, eX8_setReceiver_1, eX8_setReceiver_2, eX8_setReceiver_4, eX8_setReceiver_7, eX8_setReceiver_10, eX8_setReceiver_11, eX8_setReceiver_12, eX8_setReceiver_14, eX8_setReceiver_17, eX8_setReceiver_20, eX8_setReceiver_21, eX8_setReceiver_22, eX8_setReceiver_24, eX8_setReceiver_27, eX8_setReceiver_30, eX8_setReceiver_40, eX8_setReceiver_41, eX8_setReceiver_44, eX8_setReceiver_45, eX8_setReceiver_48, eX8_setReceiver_51, eX8_setReceiver_54, eX8_setReceiver_56, eX8_setReceiver_57, eX8_setReceiver_60, eX8_setReceiver_63, eX8_setReceiver_64, eX8_setReceiver_67, eX8_setReceiver_68, eX8_setReceiver_71, eX8_setReceiver_74, eX8_setReceiver_75, eX8_setReceiver_78, eX8_setReceiver_79, eX8_setReceiver_82, eX8_setReceiver_85, eX8_setReceiver_86, eX8_setReceiver_89, eX8_setReceiver_91, PX8_inRange, QX8_inRange, if_pos g, if_neg g2, qa2, qOk, List.length_nil, List.length_cons, ll0, ll1, ll2, ll3, ll4, Nat.le_refl, and_true, Nat.zero_add, Nat.add_zero, Nat.zero_le, one0, eq_self, or_true, true_or, not_true_eq_false, not_false_eq_true, true_imp_iff, false_imp_iff, true_and, and_true, Classical.not_not]
      exact b
  · have b := bad (fun z => g z.1)
    simp only [eX8_setReceiver_0, eX8_setReceiver_1, eX8_setReceiver_2, eX8_setReceiver_4, eX8_setReceiver_7, eX8_setReceiver_10, eX8_setReceiver_11, eX8_setReceiver_12, eX8_setReceiver_14, eX8_setReceiver_17, eX8_setReceiver_20, eX8_setReceiver_21, eX8_setReceiver_22, eX8_setReceiver_24, eX8_setReceiver_27, eX8_setReceiver_30, eX8_setReceiver_40, eX8_setReceiver_41, eX8_setReceiver_44, eX8_setReceiver_45, eX8_setReceiver_48, eX8_setReceiver_51, eX8_setReceiver_54, eX8_setReceiver_56, eX8_setReceiver_57, eX8_setReceiver_60, eX8_setReceiver_63, eX8_setReceiver_64, eX8_setReceiver_67, eX8_setReceiver_68, eX8_setReceiver_71, eX8_setReceiver_74, eX8_setReceiver_75, eX8_setReceiver_78, eX8_setReceiver_79, eX8_setReceiver_82, eX8_setReceiver_85, eX8_setReceiver_86, eX8_setReceiver_89, eX8_setReceiver_91, PX8_inRange, QX8_inRange, if_neg g, qa2, qOk, List.length_nil, List.length_cons, ll0, ll1, ll2, ll3, ll4, Nat.le_refl, and_true, Nat.zero_add, Nat.add_zero, Nat.zero_le, one0, eq_self, or_true, true_or, not_true_eq_false, not_false_eq_true, true_imp_iff, false_imp_iff, true_and, and_true, Classical.not_not]
    exact b
theorem xX8_send (o : Nat) (μ : qMM) (ht : ∃ t, mS μ o = some (.inl (7, t))) (hp : PX8_send o μ) : EX (SX8_send (rti 1 6 (QX8_send o μ)) (thX μ (TX8_send o μ))) 0 [some (.ref o)] [] [] μ (0, 0) := by
  obtain ⟨H, m, hP⟩ := hp
  have ps := sv_P hP
  obtain ⟨k1, k2, k3, k4, k5, k6⟩ := id hP.1
  obtain ⟨c0, l0, iv⟩ := HsP_cs hP
  have t6 := tX6 k3.1
  have pr : PX6_hasRoomFor (o + 1007) 1 μ := ⟨o + 1, k3⟩
  have may : ∀ H m, HsP H μ o m → ((mI μ (o + 1007 + 5) 5 + 1 ≤ 500 ∧ mI μ (o + 1007 + 1) 1 + 1 ≤ 20) ↔ mayS m.s 1) := fun H m hP => by
    rw [(HsP_cs hP).1.1.2.2.2.2.1, (HsP_cs hP).1.2.2.1.1]
  by_cases g : mI μ (o + 1007 + 5) 5 + 1 ≤ 500 ∧ mI μ (o + 1007 + 1) 1 + 1 ≤ 20
  · simp only [eX8_send_0, eX8_send_1, eX8_send_4, eX8_send_5, eX8_send_8, eX8_send_11, eX8_send_21, eX8_send_22, eX8_send_25, eX8_send_26, eX8_send_29, eX8_send_32, gX8_0, k1, t6, pr, QX6_hasRoomFor, if_pos g, ht, ps, qa2, qOk, List.length_nil, List.length_cons, ll0, ll1, ll2, ll3, ll4, Nat.le_refl, and_true, Nat.zero_add, Nat.add_zero, Nat.zero_le, one0, eq_self, or_true, true_or, not_true_eq_false, not_false_eq_true, true_imp_iff, false_imp_iff, true_and, and_true, Classical.not_not]
    intro μ1 q
    obtain ⟨e1, e2, e3, e4, e5, e6⟩ := HsS_Sm q.1 hP.1
    have t61 := tX6 e3.1
    have room : ∀ H m, HsP H μ o m → ∃ n : Nat, n < 500 ∧ m.s 9 = nI n := fun H m hP => by
      obtain ⟨n, hn, hn9, hpk, f, hf, hf1, -⟩ := id (HsP_cs hP).2.2.2.1
      have := (may_ok (k := 1) hn9 hn hf1 hf (by decide)).mp ((may H m hP).mp g)
      exact ⟨n, by omega, hn9⟩
    have pn : PX6_sendNext (o + 1007) μ1 := ⟨o + 1, H, m.s, sv_g hP q, room H m hP⟩
    simp only [eX8_send_0, eX8_send_1, eX8_send_4, eX8_send_5, eX8_send_8, eX8_send_11, eX8_send_21, eX8_send_22, eX8_send_25, eX8_send_26, eX8_send_29, eX8_send_32, rtv_at, rti_at, rtj_at, rtd_at, rta_at, qOk, qOkR, gX8_0, e1, t61, pn, qOk, List.length_nil, List.length_cons, ll0, ll1, ll2, ll3, ll4, Nat.le_refl, and_true, Nat.zero_add, Nat.add_zero, Nat.zero_le, thX, one0, eq_self, or_true, true_or, not_true_eq_false, not_false_eq_true, true_imp_iff, false_imp_iff, true_and, and_true, Classical.not_not]
    intro r μ2 q2 H m hP
    have hS := sv_g hP q
    obtain ⟨n, hn, hn9⟩ := room H m hP
    obtain ⟨er, p⟩ := q2 _ _ _ hS ⟨n, hn, hn9⟩
    obtain ⟨n', hn', hn9', hpk, f, hf, hf1, -⟩ := id (HsP_cs hP).2.2.2.1
    have hm := (may_ok (k := 1) hn9' hn' hf1 hf (by decide)).mp ((may H m hP).mp g)
    have h9 := send_9 hS.2.2.2.2.2.2 hn9 hn hf1 (by omega)
    have ea : sendA m = (sendF m.s 9 - 1, savM m (sendF m.s)) := by
      unfold sendA
      rw [if_pos ((may H m hP).mp g)]
    rw [ea]
    refine ⟨end6, ?_, Q_sav hP q p (Iv_send hn9 hn hS.2.2.2.2.2.2) (Nat.le_refl _) (by omega) ?_⟩
    · rw [er, hn9]
      show _ = sendF m.s 9 - 1
      rw [h9.1, nI_pred]
    · unfold nOf
      rw [h9.1, hn9, nI_clamp (by omega), nI_clamp (by omega)]
      omega
  · simp only [eX8_send_0, eX8_send_1, eX8_send_4, eX8_send_5, eX8_send_8, eX8_send_11, eX8_send_21, eX8_send_22, eX8_send_25, eX8_send_26, eX8_send_29, eX8_send_32, rtv_at, rti_at, rtj_at, rtd_at, rta_at, qOk, qOkR, gX8_0, k1, t6, pr, QX6_hasRoomFor, if_neg g, qa2, qOk, List.length_nil, List.length_cons, ll0, ll1, ll2, ll3, ll4, Nat.le_refl, and_true, Nat.zero_add, Nat.add_zero, Nat.zero_le, thX, one0, eq_self, or_true, true_or, not_true_eq_false, not_false_eq_true, true_imp_iff, false_imp_iff, true_and, and_true, Classical.not_not]
    intro H m hP
    unfold sendA
    rw [if_neg (fun z => g ((may H m hP).mpr z))]
    exact ⟨rfl, fai6⟩
