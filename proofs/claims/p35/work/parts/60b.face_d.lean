/-! ===== bodies: the face, the links, undo ===== -/
/-- a call that saves and lays down more than a state -/
theorem Q_mod {H H' : Nat} {μ μ1 μ2 : qMM} {o : Nat} {m m2 : Mod} (hP : HsP H μ o m) (q : QX8_saveState o μ μ1) (p : StQ μ1 μ2 (o + 1) (o + 1007) m.s m2.s) (iv : Iv H' m2.s) (h1 : H ≤ H') (h2 : H' ≤ H + 2000) (hn : nOf m.s ≤ nOf m2.s) (e3 : m2.f 3 = m.f 3) (e5 : m2.f 5 = m.f 5) (et : m2.t = m.t) (ep : m2.p = m.p) (ed : m2.d = va_cpy m.s m.d 0 0 5514) : HsQ H μ μ2 o (endM m2) :=
  HsQ_sav hP q (fun _ _ _ _ => p) iv h1 h2 hn e3 e5 et ep (fun j hj => by rw [ed]; exact hol_d j hj)
theorem xX8_lose (o : Nat) (x1 : Int32) (μ : qMM) (ht : ∃ t, mS μ o = some (.inl (7, t))) (hp : PX8_lose o x1 μ) : EX (SX8_lose (rti 1 6 (QX8_lose o x1 μ)) (thX μ (TX8_lose o x1 μ))) 0 [some (.ref o), some (.int x1)] [] [] μ (0, 0) := by
  obtain ⟨H, m, hP⟩ := hp
  have ps := sv_P hP
  obtain ⟨k1, k2, k3, k4, k5, k6⟩ := id hP.1
  obtain ⟨s1, s2, s3, s4, s5⟩ := id k3
  have tk := tX0 s4.1
  have ph : PX0_has (o + 1007 + 1) x1 μ := s4
  by_cases g : 0 ≤ x1 ∧ x1 ≤ mI μ (o + 1007 + 1) 1 - 1
  · simp only [eX8_lose_0, eX8_lose_1, eX8_lose_4, eX8_lose_7, eX8_lose_8, eX8_lose_11, eX8_lose_14, eX8_lose_24, eX8_lose_25, eX8_lose_28, eX8_lose_29, eX8_lose_32, eX8_lose_35, eX8_lose_36, eX8_lose_39, gX8_0, gX6_2, k1, s1, tk, ph, QX0_has, if_pos g, ht, ps, qa2, qOk, List.length_nil, List.length_cons, ll0, ll1, ll2, ll3, ll4, Nat.le_refl, and_true, Nat.zero_add, Nat.add_zero, Nat.zero_le, one0, eq_self, or_true, true_or, not_true_eq_false, not_false_eq_true, true_imp_iff, false_imp_iff, true_and, and_true, Classical.not_not]
    intro μ1 q
    obtain ⟨e1, e2, e3, e4, e5, e6⟩ := HsS_Sm q.1 hP.1
    have gi : ∀ H m, HsP H μ o m → ∃ n i : Nat, n ≤ 20 ∧ m.s 10 = nI n ∧ i < n ∧ x1 = nI i := fun H m hP => by
      obtain ⟨-, -, -, -, f, hf, hf1, -⟩ := (HsP_cs hP).2.2.2.1
      obtain ⟨i, hi, hx⟩ := inL_ok hf1 hf ((has_in (n := 0) (HsP_cs hP).1.2.2.1 _).mp g)
      exact ⟨f, i, hf, hf1, hi, hx⟩
    obtain ⟨n, i, hn, hn1, hi, rfl⟩ := gi H m hP
    have hS := sv_g hP q
    have pt : PX0_takeOut (o + 1007 + 1) (nI i) μ1 := take_P e3.2.2.2.1 hS.2.2.2.2.2.1 hn1 hn hi hS.2.2.2.1.2.2.1
    have ei : (nI i).toNatClampNeg = i := nI_clamp (by omega)
    have tk1 := tX0 e3.2.2.2.1.1
    simp only [eX8_lose_0, eX8_lose_1, eX8_lose_4, eX8_lose_7, eX8_lose_8, eX8_lose_11, eX8_lose_14, eX8_lose_24, eX8_lose_25, eX8_lose_28, eX8_lose_29, eX8_lose_32, eX8_lose_35, eX8_lose_36, eX8_lose_39, rtv_at, rti_at, rtj_at, rtd_at, rta_at, qOk, qOkR, gX8_0, gX6_2, e1, e3.1, tk1, pt, takeOut_Q ei, qa2, qOk, List.length_nil, List.length_cons, ll0, ll1, ll2, ll3, ll4, Nat.le_refl, and_true, Nat.zero_add, Nat.add_zero, Nat.zero_le, thX, one0, eq_self, or_true, true_or, not_true_eq_false, not_false_eq_true, true_imp_iff, false_imp_iff, true_and, and_true, Classical.not_not]
    intro H m hP
    have hS := sv_g hP q
    have hi31 : i < 20 := by omega
    clear hn hn1 hi
    obtain ⟨n, i', hn, hn1, hi, hx⟩ := gi H m hP
    have : i' = i := (nI_eq (by omega) (by omega)).mp hx.symm
    subst this
    have gm : inL m.s 10 (nI i') := (has_in (n := 0) (HsP_cs hP).1.2.2.1 _).mp g
    have ea : loseA m 10 (nI i') = ((losM (holM m) 10 i').f 8, endM (losM (holM m) 10 i')) := by
      unfold loseA
      rw [if_pos gm, ei]
    rw [ea]
    refine ⟨end6, ?_, Q_mod hP q (StQ_take10 hS hn1 hn hi) (Iv_take10 hn1 hn hi hS.2.2.2.2.2.2) (Nat.le_refl _) (by omega) (Nat.le_of_eq (nOf_eq (take_o (by omega))).symm) rfl rfl rfl rfl rfl⟩
    show _ = m.s (10 + 1 + i')
    exact hS.2.2.2.1.2.2.1.2 i' (by rw [hn1, nI_clamp (by omega)]; exact hi)
  · simp only [eX8_lose_0, eX8_lose_1, eX8_lose_4, eX8_lose_7, eX8_lose_8, eX8_lose_11, eX8_lose_14, eX8_lose_24, eX8_lose_25, eX8_lose_28, eX8_lose_29, eX8_lose_32, eX8_lose_35, eX8_lose_36, eX8_lose_39, rtv_at, rti_at, rtj_at, rtd_at, rta_at, qOk, qOkR, gX8_0, gX6_2, k1, s1, tk, ph, QX0_has, if_neg g, qa2, qOk, List.length_nil, List.length_cons, ll0, ll1, ll2, ll3, ll4, Nat.le_refl, and_true, Nat.zero_add, Nat.add_zero, Nat.zero_le, thX, one0, eq_self, or_true, true_or, not_true_eq_false, not_false_eq_true, true_imp_iff, false_imp_iff, true_and, and_true, Classical.not_not]
    intro H m hP
    unfold loseA
    rw [if_neg (fun z => g ((has_in (n := 0) (HsP_cs hP).1.2.2.1 _).mpr z))]
    exact ⟨rfl, fai6⟩
theorem xX8_loseBack (o : Nat) (x1 : Int32) (μ : qMM) (ht : ∃ t, mS μ o = some (.inl (7, t))) (hp : PX8_loseBack o x1 μ) : EX (SX8_loseBack (rti 1 6 (QX8_loseBack o x1 μ)) (thX μ (TX8_loseBack o x1 μ))) 0 [some (.ref o), some (.int x1)] [] [] μ (0, 0) := by
  obtain ⟨H, m, hP⟩ := hp
  have ps := sv_P hP
  obtain ⟨k1, k2, k3, k4, k5, k6⟩ := id hP.1
  obtain ⟨s1, s2, s3, s4, s5⟩ := id k3
  have tk := tX0 s5.1
  have ph : PX0_has (o + 1007 + 3) x1 μ := s5
  by_cases g : 0 ≤ x1 ∧ x1 ≤ mI μ (o + 1007 + 3) 1 - 1
  · simp only [eX8_loseBack_0, eX8_loseBack_1, eX8_loseBack_4, eX8_loseBack_7, eX8_loseBack_8, eX8_loseBack_11, eX8_loseBack_14, eX8_loseBack_24, eX8_loseBack_25, eX8_loseBack_28, eX8_loseBack_29, eX8_loseBack_32, eX8_loseBack_35, eX8_loseBack_36, eX8_loseBack_39, gX8_0, gX6_3, k1, s1, tk, ph, QX0_has, if_pos g, ht, ps, qa2, qOk, List.length_nil, List.length_cons, ll0, ll1, ll2, ll3, ll4, Nat.le_refl, and_true, Nat.zero_add, Nat.add_zero, Nat.zero_le, one0, eq_self, or_true, true_or, not_true_eq_false, not_false_eq_true, true_imp_iff, false_imp_iff, true_and, and_true, Classical.not_not]
    intro μ1 q
    obtain ⟨e1, e2, e3, e4, e5, e6⟩ := HsS_Sm q.1 hP.1
    have gi : ∀ H m, HsP H μ o m → ∃ n i : Nat, n ≤ 20 ∧ m.s 31 = nI n ∧ i < n ∧ x1 = nI i := fun H m hP => by
      obtain ⟨f, hf, hf1, -⟩ := (HsP_cs hP).2.2.2.2.1
      obtain ⟨i, hi, hx⟩ := inL_ok hf1 hf ((has_in (n := 0) (HsP_cs hP).1.2.2.2 _).mp g)
      exact ⟨f, i, hf, hf1, hi, hx⟩
    obtain ⟨n, i, hn, hn1, hi, rfl⟩ := gi H m hP
    have hS := sv_g hP q
    have pt : PX0_takeOut (o + 1007 + 3) (nI i) μ1 := take_P e3.2.2.2.2 hS.2.2.2.2.2.1 hn1 hn hi hS.2.2.2.1.2.2.2
    have ei : (nI i).toNatClampNeg = i := nI_clamp (by omega)
    have tk1 := tX0 e3.2.2.2.2.1
    simp only [eX8_loseBack_0, eX8_loseBack_1, eX8_loseBack_4, eX8_loseBack_7, eX8_loseBack_8, eX8_loseBack_11, eX8_loseBack_14, eX8_loseBack_24, eX8_loseBack_25, eX8_loseBack_28, eX8_loseBack_29, eX8_loseBack_32, eX8_loseBack_35, eX8_loseBack_36, eX8_loseBack_39, rtv_at, rti_at, rtj_at, rtd_at, rta_at, qOk, qOkR, gX8_0, gX6_3, e1, e3.1, tk1, pt, takeOut_Q ei, qa2, qOk, List.length_nil, List.length_cons, ll0, ll1, ll2, ll3, ll4, Nat.le_refl, and_true, Nat.zero_add, Nat.add_zero, Nat.zero_le, thX, one0, eq_self, or_true, true_or, not_true_eq_false, not_false_eq_true, true_imp_iff, false_imp_iff, true_and, and_true, Classical.not_not]
    intro H m hP
    have hS := sv_g hP q
    have hi31 : i < 20 := by omega
    clear hn hn1 hi
    obtain ⟨n, i', hn, hn1, hi, hx⟩ := gi H m hP
    have : i' = i := (nI_eq (by omega) (by omega)).mp hx.symm
    subst this
    have gm : inL m.s 31 (nI i') := (has_in (n := 0) (HsP_cs hP).1.2.2.2 _).mp g
    have ea : loseA m 31 (nI i') = ((losM (holM m) 31 i').f 8, endM (losM (holM m) 31 i')) := by
      unfold loseA
      rw [if_pos gm, ei]
    rw [ea]
    refine ⟨end6, ?_, Q_mod hP q (StQ_take31 hS hn1 hn hi) (Iv_take31 hn1 hn hi hS.2.2.2.2.2.2) (Nat.le_refl _) (by omega) (Nat.le_of_eq (nOf_eq (take_o (by omega))).symm) rfl rfl rfl rfl rfl⟩
    show _ = m.s (31 + 1 + i')
    exact hS.2.2.2.1.2.2.2.2 i' (by rw [hn1, nI_clamp (by omega)]; exact hi)
  · simp only [eX8_loseBack_0, eX8_loseBack_1, eX8_loseBack_4, eX8_loseBack_7, eX8_loseBack_8, eX8_loseBack_11, eX8_loseBack_14, eX8_loseBack_24, eX8_loseBack_25, eX8_loseBack_28, eX8_loseBack_29, eX8_loseBack_32, eX8_loseBack_35, eX8_loseBack_36, eX8_loseBack_39, rtv_at, rti_at, rtj_at, rtd_at, rta_at, qOk, qOkR, gX8_0, gX6_3, k1, s1, tk, ph, QX0_has, if_neg g, qa2, qOk, List.length_nil, List.length_cons, ll0, ll1, ll2, ll3, ll4, Nat.le_refl, and_true, Nat.zero_add, Nat.add_zero, Nat.zero_le, thX, one0, eq_self, or_true, true_or, not_true_eq_false, not_false_eq_true, true_imp_iff, false_imp_iff, true_and, and_true, Classical.not_not]
    intro H m hP
    unfold loseA
    rw [if_neg (fun z => g ((has_in (n := 0) (HsP_cs hP).1.2.2.2 _).mpr z))]
    exact ⟨rfl, fai6⟩
theorem xX8_copy (o : Nat) (x1 : Int32) (μ : qMM) (ht : ∃ t, mS μ o = some (.inl (7, t))) (hp : PX8_copy o x1 μ) : EX (SX8_copy (rti 1 6 (QX8_copy o x1 μ)) (thX μ (TX8_copy o x1 μ))) 0 [some (.ref o), some (.int x1)] [] [] μ (0, 0) := by
  obtain ⟨H, m, hP⟩ := hp
  have ps := sv_P hP
  obtain ⟨k1, k2, k3, k4, k5, k6⟩ := id hP.1
  obtain ⟨s1, s2, s3, s4, s5⟩ := id k3
  have tk := tX0 s4.1
  have ph : PX0_has (o + 1007 + 1) x1 μ := s4
  have pf : PX0_isFull (o + 1007 + 1) μ := s4
  have e20 : ∀ H m, HsP H μ o m → (20 ≤ mI μ (o + 1007 + 1) 1 ↔ m.s 10 = 20) := fun H m hP => by
    obtain ⟨-, -, -, -, n, hn1, hn2, -⟩ := (HsP_cs hP).2.2.2.1
    rw [(HsP_cs hP).1.2.2.1.1, hn2]
    refine ⟨fun z => ?_, fun z => ?_⟩
    · have := (nI_leI (a := 20) (by decide) (by omega)).mp z
      have : n = 20 := by omega
      rw [this]
      rfl
    · rw [z]
      decide
  by_cases g : 0 ≤ x1 ∧ x1 ≤ mI μ (o + 1007 + 1) 1 - 1
  · by_cases g2 : 20 ≤ mI μ (o + 1007 + 1) 1
    · simp only [eX8_copy_0, eX8_copy_1, eX8_copy_4, eX8_copy_7, eX8_copy_8, eX8_copy_11, eX8_copy_14, eX8_copy_24, eX8_copy_25, eX8_copy_28, eX8_copy_31, eX8_copy_34, eX8_copy_37, eX8_copy_47, eX8_copy_48, eX8_copy_51, eX8_copy_52, eX8_copy_55, eX8_copy_58, eX8_copy_59, eX8_copy_62, eX8_copy_65, eX8_copy_68, eX8_copy_69, eX8_copy_70, eX8_copy_73, eX8_copy_74, eX8_copy_77, eX8_copy_80, eX8_copy_83, rtv_at, rti_at, rtj_at, rtd_at, rta_at, qOk, qOkR, gX8_0, gX6_2, k1, s1, tk, ph, pf, QX0_has, QX0_isFull, if_pos g, if_pos g2, qa2, qOk, List.length_nil, List.length_cons, ll0, ll1, ll2, ll3, ll4, Nat.le_refl, and_true, Nat.zero_add, Nat.add_zero, Nat.zero_le, thX, one0, eq_self, or_true, true_or, not_true_eq_false, not_false_eq_true, true_imp_iff, false_imp_iff, true_and, and_true, Classical.not_not]
      intro H m hP
      have gm : inL m.s 10 x1 := (has_in (n := 0) (HsP_cs hP).1.2.2.1 _).mp g
      have ec : cpyR m.s x1 = 2 := by
        unfold cpyR
        rw [if_pos gm, if_pos ((e20 H m hP).mp g2)]
      unfold copyA
      rw [ec, if_neg (by decide)]
      exact Or.inr ⟨rfl, fai6⟩
    · simp only [eX8_copy_0, eX8_copy_1, eX8_copy_4, eX8_copy_7, eX8_copy_8, eX8_copy_11, eX8_copy_14, eX8_copy_24, eX8_copy_25, eX8_copy_28, eX8_copy_31, eX8_copy_34, eX8_copy_37, eX8_copy_47, eX8_copy_48, eX8_copy_51, eX8_copy_52, eX8_copy_55, eX8_copy_58, eX8_copy_59, eX8_copy_62, eX8_copy_65, eX8_copy_68, eX8_copy_69, eX8_copy_70, eX8_copy_73, eX8_copy_74, eX8_copy_77, eX8_copy_80, eX8_copy_83, gX8_0, gX6_2, k1, s1, tk, ph, pf, QX0_has, QX0_isFull, if_pos g, if_neg g2, ht, ps, qa2, qOk, List.length_nil, List.length_cons, ll0, ll1, ll2, ll3, ll4, Nat.le_refl, and_true, Nat.zero_add, Nat.add_zero, Nat.zero_le, one0, eq_self, or_true, true_or, not_true_eq_false, not_false_eq_true, true_imp_iff, false_imp_iff, true_and, and_true, Classical.not_not]
      intro μ1 q
      obtain ⟨e1, e2, e3, e4, e5, e6⟩ := HsS_Sm q.1 hP.1
      have gi : ∀ H m, HsP H μ o m → ∃ n i : Nat, n < 20 ∧ m.s 10 = nI n ∧ i < n ∧ x1 = nI i := fun H m hP => by
        obtain ⟨-, -, -, -, f, hf, hf1, -⟩ := (HsP_cs hP).2.2.2.1
        obtain ⟨i, hi, hx⟩ := inL_ok hf1 hf ((has_in (n := 0) (HsP_cs hP).1.2.2.1 _).mp g)
        refine ⟨f, i, ?_, hf1, hi, hx⟩
        rcases Nat.lt_or_ge f 20 with z | z
        · exact z
        · exact absurd ((e20 H m hP).mpr (by rw [hf1, show f = 20 by omega]; rfl)) g2
      obtain ⟨n, i, hn, hn1, hi, rfl⟩ := gi H m hP
      have hS := sv_g hP q
      have ei : (nI i).toNatClampNeg = i := nI_clamp (by omega)
      have pt : ∀ v, PX0_put (o + 1007 + 1) v μ1 := fun v => put_P e3.2.2.2.1 hn1 (by omega) hS.2.2.2.1.2.2.1
      have tk1 := tX0 e3.2.2.2.1.1
      have z1 : ∀ v, obX8 (putK2 μ1 (o + 1007 + 1) v) o := fun v => (HsS_Sm (Sm_putK2 q.1) hP.1).1
      have z2 : ∀ v, obX6 (putK2 μ1 (o + 1007 + 1) v) (o + 1007) := fun v => (HsS_Sm (Sm_putK2 q.1) hP.1).2.2.1.1
      have z3 : ∀ v, obX0 (putK2 μ1 (o + 1007 + 1) v) (o + 1007 + 1) := fun v => (HsS_Sm (Sm_putK2 q.1) hP.1).2.2.1.2.2.2.1.1
      simp only [eX8_copy_0, eX8_copy_1, eX8_copy_4, eX8_copy_7, eX8_copy_8, eX8_copy_11, eX8_copy_14, eX8_copy_24, eX8_copy_25, eX8_copy_28, eX8_copy_31, eX8_copy_34, eX8_copy_37, eX8_copy_47, eX8_copy_48, eX8_copy_51, eX8_copy_52, eX8_copy_55, eX8_copy_58, eX8_copy_59, eX8_copy_62, eX8_copy_65, eX8_copy_68, eX8_copy_69, eX8_copy_70, eX8_copy_73, eX8_copy_74, eX8_copy_77, eX8_copy_80, eX8_copy_83, rtv_at, rti_at, rtj_at, rtd_at, rta_at, qOk, qOkR, gX8_0, gX6_2, gX0_0, gX0_1, e1, e3.1, e3.2.2.2.1.1, e3.2.2.2.1.2, qA20, vp20 (show i < 20 by omega), ei, tk1, pt, put_Q, forall_eq, z1, z2, z3, qOk, List.length_nil, List.length_cons, ll0, ll1, ll2, ll3, ll4, Nat.le_refl, and_true, Nat.zero_add, Nat.add_zero, Nat.zero_le, thX, one0, eq_self, or_true, true_or, not_true_eq_false, not_false_eq_true, true_imp_iff, false_imp_iff, true_and, and_true, Classical.not_not]
      intro H m hP
      have hS := sv_g hP q
      have hi31 : i < 20 := by omega
      clear hn hn1 hi
      obtain ⟨n, i', hn, hn1, hi, hx⟩ := gi H m hP
      have : i' = i := (nI_eq (by omega) (by omega)).mp hx.symm
      subst this
      have gm : inL m.s 10 (nI i') := (has_in (n := 0) (HsP_cs hP).1.2.2.1 _).mp g
      have ec : cpyR m.s (nI i') = 0 := by
        unfold cpyR
        rw [if_pos gm, if_neg (fun z => g2 ((e20 H m hP).mpr z))]
      have ea : copyA m (nI i') = ((cpyM (holM m) i').f 8, endM (cpyM (holM m) i')) := by
        unfold copyA
        rw [if_pos ec, ei]
      rw [ea]
      have ev : mI μ1 (o + 1007 + 1 + 1) i' = m.s (11 + i') := by
        rw [hS.2.2.2.1.2.2.1.2 i' (by rw [hn1, nI_clamp (by omega)]; exact hi), show 10 + 1 + i' = 11 + i' by omega]
      rw [ev]
      obtain ⟨nn, hnn, hnn9, hpk, f, hf, hf1, hfp⟩ := id hS.2.2.2.2.2.2.2.1
      have : f = n := (nI_eq (by omega) (by omega)).mp (hf1.symm.trans hn1)
      subst this
      obtain ⟨p, hp1, hp2⟩ := hfp i' hi
      have hj := StQ_join10 (v := m.s (11 + i')) hS hn1 (by omega)
      refine ⟨end6, ?_, Q_mod hP q hj ?_ (Nat.le_refl _) (by omega) (Nat.le_of_eq (nOf_eq (join_o (by omega) hn1 (by omega))).symm) rfl rfl rfl rfl rfl⟩
      · show _ = joinF 10 (m.s (11 + i')) m.s 10
        exact hj.2.1.2.2.1.1
      · show Iv H (joinF 10 (m.s (11 + i')) m.s)
        rw [hp2]
        exact Iv_join10 (by rw [hnn9]; exact (nI_ltI (by omega) (by omega)).mpr hp1) (by omega) hS.2.2.2.2.2.2
  · simp only [eX8_copy_0, eX8_copy_1, eX8_copy_4, eX8_copy_7, eX8_copy_8, eX8_copy_11, eX8_copy_14, eX8_copy_24, eX8_copy_25, eX8_copy_28, eX8_copy_31, eX8_copy_34, eX8_copy_37, eX8_copy_47, eX8_copy_48, eX8_copy_51, eX8_copy_52, eX8_copy_55, eX8_copy_58, eX8_copy_59, eX8_copy_62, eX8_copy_65, eX8_copy_68, eX8_copy_69, eX8_copy_70, eX8_copy_73, eX8_copy_74, eX8_copy_77, eX8_copy_80, eX8_copy_83, rtv_at, rti_at, rtj_at, rtd_at, rta_at, qOk, qOkR, gX8_0, gX6_2, k1, s1, tk, ph, QX0_has, if_neg g, qa2, qOk, List.length_nil, List.length_cons, ll0, ll1, ll2, ll3, ll4, Nat.le_refl, and_true, Nat.zero_add, Nat.add_zero, Nat.zero_le, thX, one0, eq_self, or_true, true_or, not_true_eq_false, not_false_eq_true, true_imp_iff, false_imp_iff, true_and, and_true, Classical.not_not]
    intro H m hP
    have gm : ¬ inL m.s 10 x1 := fun z => g ((has_in (n := 0) (HsP_cs hP).1.2.2.1 _).mpr z)
    have ec : cpyR m.s x1 = 1 := by
      unfold cpyR
      rw [if_neg gm]
    unfold copyA
    rw [ec, if_neg (by decide)]
    exact Or.inl ⟨rfl, fai6⟩
theorem xX8_deliver (o : Nat) (x1 : Int32) (μ : qMM) (ht : ∃ t, mS μ o = some (.inl (7, t))) (hp : PX8_deliver o x1 μ) : EX (SX8_deliver (rti 1 6 (QX8_deliver o x1 μ)) (thX μ (TX8_deliver o x1 μ))) 0 [some (.ref o), some (.int x1)] [] [] μ (0, 0) := by
  obtain ⟨H, m, hP⟩ := hp
  have ps := sv_P hP
  obtain ⟨k1, k2, k3, k4, k5, k6⟩ := id hP.1
  obtain ⟨s1, s2, s3, s4, s5⟩ := id k3
  have tk := tX0 s4.1
  have ph : PX0_has (o + 1007 + 1) x1 μ := s4
  by_cases g : 0 ≤ x1 ∧ x1 ≤ mI μ (o + 1007 + 1) 1 - 1
  · simp only [eX8_deliver_0, eX8_deliver_1, eX8_deliver_4, eX8_deliver_7, eX8_deliver_8, eX8_deliver_11, eX8_deliver_14, eX8_deliver_24, eX8_deliver_25, eX8_deliver_28, eX8_deliver_29, eX8_deliver_32, eX8_deliver_33, eX8_deliver_36, gX8_0, gX6_2, k1, s1, tk, ph, QX0_has, if_pos g, ht, ps, qa2, qOk, List.length_nil, List.length_cons, ll0, ll1, ll2, ll3, ll4, Nat.le_refl, and_true, Nat.zero_add, Nat.add_zero, Nat.zero_le, one0, eq_self, or_true, true_or, not_true_eq_false, not_false_eq_true, true_imp_iff, false_imp_iff, true_and, and_true, Classical.not_not]
    intro μ1 q
    obtain ⟨e1, e2, e3, e4, e5, e6⟩ := HsS_Sm q.1 hP.1
    have gi : ∀ H m, HsP H μ o m → ∃ n i : Nat, n ≤ 20 ∧ m.s 10 = nI n ∧ i < n ∧ x1 = nI i := fun H m hP => by
      obtain ⟨-, -, -, -, f, hf, hf1, -⟩ := (HsP_cs hP).2.2.2.1
      obtain ⟨i, hi, hx⟩ := inL_ok hf1 hf ((has_in (n := 0) (HsP_cs hP).1.2.2.1 _).mp g)
      exact ⟨f, i, hf, hf1, hi, hx⟩
    obtain ⟨n, i, hn, hn1, hi, rfl⟩ := gi H m hP
    have ei : (nI i).toNatClampNeg = i := nI_clamp (by omega)
    have pd : PX6_deliverPacket (o + 1007) (nI i) μ1 := ⟨o + 1, H, m.s, i, sv_g hP q, by have := hP.2.2.1; omega, rfl, by rw [hn1, nI_clamp (by omega)]; exact hi⟩
    have t61 := tX6 e3.1
    simp only [eX8_deliver_0, eX8_deliver_1, eX8_deliver_4, eX8_deliver_7, eX8_deliver_8, eX8_deliver_11, eX8_deliver_14, eX8_deliver_24, eX8_deliver_25, eX8_deliver_28, eX8_deliver_29, eX8_deliver_32, eX8_deliver_33, eX8_deliver_36, rtv_at, rti_at, rtj_at, rtd_at, rta_at, qOk, qOkR, gX8_0, e1, t61, pd, qOk, List.length_nil, List.length_cons, ll0, ll1, ll2, ll3, ll4, Nat.le_refl, and_true, Nat.zero_add, Nat.add_zero, Nat.zero_le, thX, one0, eq_self, or_true, true_or, not_true_eq_false, not_false_eq_true, true_imp_iff, false_imp_iff, true_and, and_true, Classical.not_not]
    intro r μ2 q2 H m hP
    have hS := sv_g hP q
    have hi31 : i < 20 := by omega
    clear hn hn1 hi
    obtain ⟨n, i', hn, hn1, hi, hx⟩ := gi H m hP
    have : i' = i := (nI_eq (by omega) (by omega)).mp hx.symm
    subst this
    have gm : inL m.s 10 (nI i') := (has_in (n := 0) (HsP_cs hP).1.2.2.1 _).mp g
    have hH := hP.2.2.1
    obtain ⟨er, p⟩ := q2 _ H m.s i' m.g hS (by omega) rfl (by rw [hn1, nI_clamp (by omega)]; exact hi)
    have ea : deliverA m (nI i') = ((dlvM (holM m) i').f 8, endM (dlvM (holM m) i')) := by
      unfold deliverA
      rw [if_pos gm, ei]
    rw [ea]
    obtain ⟨nn, hnn, hnn9, hpk, f, hf, hf1, hfp⟩ := id hS.2.2.2.2.2.2.2.1
    have : f = n := (nI_eq (by omega) (by omega)).mp (hf1.symm.trans hn1)
    subst this
    obtain ⟨pk, hp1, hp2⟩ := hfp i' hi
    have ivt := Iv_take10 hn1 hn hi hS.2.2.2.2.2.2
    have t9 : takeF m.s 10 i' 9 = m.s 9 := take_o (by omega)
    have r9 : recS (takeF m.s 10 i') m.g (m.s (11 + i')).toNatClampNeg 9 = m.s 9 := by rw [rec_9 ivt (by omega), t9]
    have es : (dlvM (holM m) i').s = recS (takeF m.s 10 i') m.g (m.s (11 + i')).toNatClampNeg := by
      unfold dlvM
      rw [Mgs, Mss]
      rfl
    have e8 : (dlvM (holM m) i').f 8 = outF (lateF (takeF m.s 10 i') (m.s (11 + i')).toNatClampNeg) m.g (m.s (11 + i')).toNatClampNeg := by
      unfold dlvM
      rw [Mgf, Msf, Mff, upd_s]
      rfl
    have ef : ∀ k, k ≠ 8 → (dlvM (holM m) i').f k = m.f k := fun k hk => by
      unfold dlvM
      rw [Mgf, Msf, Mff, upd_n hk]
      rfl
    have et : (dlvM (holM m) i').t = m.t ∧ (dlvM (holM m) i').p = m.p ∧ (dlvM (holM m) i').d = va_cpy m.s m.d 0 0 5514 := by
      unfold dlvM
      rw [Mgt, Mst, Mft, Mgp, Msp, Mfp, Mgd, Msd, Mfd]
      exact ⟨rfl, rfl, rfl⟩
    generalize dlvM (holM m) i' = D at *
    rw [← es] at p r9
    refine ⟨end6, by rw [e8]; exact er, Q_mod (H' := H + 15) hP q p ?_ (by omega) (by omega) (Nat.le_of_eq (nOf_eq r9).symm) (ef 3 (by decide)) (ef 5 (by decide)) et.1 et.2.1 et.2.2⟩
    rw [es, hp2, nI_clamp (by omega)]
    exact Iv_rec (by omega) ivt (by rw [t9, hnn9]; exact (nI_ltI (by omega) (by omega)).mpr hp1) (by omega)
  · simp only [eX8_deliver_0, eX8_deliver_1, eX8_deliver_4, eX8_deliver_7, eX8_deliver_8, eX8_deliver_11, eX8_deliver_14, eX8_deliver_24, eX8_deliver_25, eX8_deliver_28, eX8_deliver_29, eX8_deliver_32, eX8_deliver_33, eX8_deliver_36, rtv_at, rti_at, rtj_at, rtd_at, rta_at, qOk, qOkR, gX8_0, gX6_2, k1, s1, tk, ph, QX0_has, if_neg g, qa2, qOk, List.length_nil, List.length_cons, ll0, ll1, ll2, ll3, ll4, Nat.le_refl, and_true, Nat.zero_add, Nat.add_zero, Nat.zero_le, thX, one0, eq_self, or_true, true_or, not_true_eq_false, not_false_eq_true, true_imp_iff, false_imp_iff, true_and, and_true, Classical.not_not]
    intro H m hP
    unfold deliverA
    rw [if_neg (fun z => g ((has_in (n := 0) (HsP_cs hP).1.2.2.1 _).mpr z))]
    exact ⟨rfl, fai6⟩
theorem xX8_deliverBack (o : Nat) (x1 : Int32) (μ : qMM) (ht : ∃ t, mS μ o = some (.inl (7, t))) (hp : PX8_deliverBack o x1 μ) : EX (SX8_deliverBack (rti 1 6 (QX8_deliverBack o x1 μ)) (thX μ (TX8_deliverBack o x1 μ))) 0 [some (.ref o), some (.int x1)] [] [] μ (0, 0) := by
  obtain ⟨H, m, hP⟩ := hp
  have ps := sv_P hP
  obtain ⟨k1, k2, k3, k4, k5, k6⟩ := id hP.1
  obtain ⟨s1, s2, s3, s4, s5⟩ := id k3
  have tk := tX0 s5.1
  have ph : PX0_has (o + 1007 + 3) x1 μ := s5
  by_cases g : 0 ≤ x1 ∧ x1 ≤ mI μ (o + 1007 + 3) 1 - 1
  · simp only [eX8_deliverBack_0, eX8_deliverBack_1, eX8_deliverBack_4, eX8_deliverBack_7, eX8_deliverBack_8, eX8_deliverBack_11, eX8_deliverBack_14, eX8_deliverBack_24, eX8_deliverBack_25, eX8_deliverBack_28, eX8_deliverBack_29, eX8_deliverBack_32, eX8_deliverBack_33, eX8_deliverBack_36, gX8_0, gX6_3, k1, s1, tk, ph, QX0_has, if_pos g, ht, ps, qa2, qOk, List.length_nil, List.length_cons, ll0, ll1, ll2, ll3, ll4, Nat.le_refl, and_true, Nat.zero_add, Nat.add_zero, Nat.zero_le, one0, eq_self, or_true, true_or, not_true_eq_false, not_false_eq_true, true_imp_iff, false_imp_iff, true_and, and_true, Classical.not_not]
    intro μ1 q
    obtain ⟨e1, e2, e3, e4, e5, e6⟩ := HsS_Sm q.1 hP.1
    have gi : ∀ H m, HsP H μ o m → ∃ n i : Nat, n ≤ 20 ∧ m.s 31 = nI n ∧ i < n ∧ x1 = nI i := fun H m hP => by
      obtain ⟨f, hf, hf1, -⟩ := (HsP_cs hP).2.2.2.2.1
      obtain ⟨i, hi, hx⟩ := inL_ok hf1 hf ((has_in (n := 0) (HsP_cs hP).1.2.2.2 _).mp g)
      exact ⟨f, i, hf, hf1, hi, hx⟩
    obtain ⟨n, i, hn, hn1, hi, rfl⟩ := gi H m hP
    have ei : (nI i).toNatClampNeg = i := nI_clamp (by omega)
    have pd : PX6_deliverMessage (o + 1007) (nI i) μ1 := ⟨o + 1, H, m.s, i, sv_g hP q, by have := hP.2.2.1; omega, rfl, by rw [hn1, nI_clamp (by omega)]; exact hi⟩
    have t61 := tX6 e3.1
    simp only [eX8_deliverBack_0, eX8_deliverBack_1, eX8_deliverBack_4, eX8_deliverBack_7, eX8_deliverBack_8, eX8_deliverBack_11, eX8_deliverBack_14, eX8_deliverBack_24, eX8_deliverBack_25, eX8_deliverBack_28, eX8_deliverBack_29, eX8_deliverBack_32, eX8_deliverBack_33, eX8_deliverBack_36, rtv_at, rti_at, rtj_at, rtd_at, rta_at, qOk, qOkR, gX8_0, e1, t61, pd, qOk, List.length_nil, List.length_cons, ll0, ll1, ll2, ll3, ll4, Nat.le_refl, and_true, Nat.zero_add, Nat.add_zero, Nat.zero_le, thX, one0, eq_self, or_true, true_or, not_true_eq_false, not_false_eq_true, true_imp_iff, false_imp_iff, true_and, and_true, Classical.not_not]
    intro r μ2 q2 H m hP
    have hS := sv_g hP q
    have hi31 : i < 20 := by omega
    clear hn hn1 hi
    obtain ⟨n, i', hn, hn1, hi, hx⟩ := gi H m hP
    have : i' = i := (nI_eq (by omega) (by omega)).mp hx.symm
    subst this
    have gm : inL m.s 31 (nI i') := (has_in (n := 0) (HsP_cs hP).1.2.2.2 _).mp g
    have hH := hP.2.2.1
    obtain ⟨er, p⟩ := q2 _ H m.s i' hS (by omega) rfl (by rw [hn1, nI_clamp (by omega)]; exact hi)
    have ea : deliverBackA m (nI i') = ((retM (holM m) i').f 8, endM (retM (holM m) i')) := by
      unfold deliverBackA
      rw [if_pos gm, ei]
    rw [ea]
    have t9 : takeF m.s 31 i' 9 = m.s 9 := take_o (by omega)
    have r9 : hearF (takeF m.s 31 i') (m.s (32 + i')) 9 = m.s 9 := by
      unfold hearF
      split
      · rw [upd_n (by decide), t9]
      · split
        · rw [upd_n (by omega), t9]
        · exact t9
    refine ⟨end6, ?_, Q_mod (m2 := retM (holM m) i') hP q p (Iv_hear (Iv_take31 hn1 hn hi hS.2.2.2.2.2.2)) (Nat.le_refl _) (by omega) (Nat.le_of_eq (nOf_eq r9).symm) rfl rfl rfl rfl rfl⟩
    rw [er]
    rfl
  · simp only [eX8_deliverBack_0, eX8_deliverBack_1, eX8_deliverBack_4, eX8_deliverBack_7, eX8_deliverBack_8, eX8_deliverBack_11, eX8_deliverBack_14, eX8_deliverBack_24, eX8_deliverBack_25, eX8_deliverBack_28, eX8_deliverBack_29, eX8_deliverBack_32, eX8_deliverBack_33, eX8_deliverBack_36, rtv_at, rti_at, rtj_at, rtd_at, rta_at, qOk, qOkR, gX8_0, gX6_3, k1, s1, tk, ph, QX0_has, if_neg g, qa2, qOk, List.length_nil, List.length_cons, ll0, ll1, ll2, ll3, ll4, Nat.le_refl, and_true, Nat.zero_add, Nat.add_zero, Nat.zero_le, thX, one0, eq_self, or_true, true_or, not_true_eq_false, not_false_eq_true, true_imp_iff, false_imp_iff, true_and, and_true, Classical.not_not]
    intro H m hP
    unfold deliverBackA
    rw [if_neg (fun z => g ((has_in (n := 0) (HsP_cs hP).1.2.2.2 _).mpr z))]
    exact ⟨rfl, fai6⟩