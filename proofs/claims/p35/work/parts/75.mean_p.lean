/-! ===== bodies: the mean size ===== -/
theorem xX8_meanSize (o : Nat) (μ : qMM) (ht : ∃ t, mS μ o = some (.inl (7, t))) (hp : PX8_meanSize o μ) : EX (SX8_meanSize (rtd 0 0 (QX8_meanSize o μ)) (fun _ _ _ => False)) 0 [some (.ref o), none] [] [] μ (0, 0) := by
  obtain ⟨H, m, hP⟩ := hp
  obtain ⟨k1, k2, k3, k4, k5, k6⟩ := id hP.1
  obtain ⟨s1, s2, s3, s4, s5⟩ := id k3
  obtain ⟨c0, l0, iv⟩ := HsP_cs hP
  simp only [eX8_meanSize_0, eX8_meanSize_1, eX8_meanSize_4, eX8_meanSize_7, eX8_meanSize_10, eX8_meanSize_11, eX8_meanSize_12, eX8_meanSize_15, eX8_meanSize_16, eX8_meanSize_19, eX8_meanSize_20, eX8_meanSize_23, eX8_meanSize_26, eX8_meanSize_29, eX8_meanSize_30, eX8_meanSize_31, eX8_meanSize_32, eX8_meanSize_33, rtv_at, rti_at, rtj_at, rtd_at, rta_at, qOk, qOkR, gX8_0, gX6_0, gX5_5 (o + 1), gX5_7 (o + 1), k1, s1, s2.1, qOk, List.length_nil, List.length_cons, ll0, ll1, ll2, ll3, ll4, Nat.le_refl, and_true, one0, eq_self, or_true, true_or, not_true_eq_false, not_false_eq_true, true_imp_iff, false_imp_iff, true_and, and_true, Classical.not_not]
  refine ⟨fun g => ⟨dd_ok _ g, fun H m hP => ?_⟩, fun g H m hP => ?_⟩
  · have e := (HsP_cs hP).1.1
    rw [e.2.2.2.2.1] at g ⊢
    rw [e.2.2.2.2.2.2.1]
    exact ⟨by unfold meaF; rw [if_neg g], HsQ_tel hP⟩
  · have e := (HsP_cs hP).1.1
    rw [e.2.2.2.2.1] at g
    exact ⟨by unfold meaF; rw [if_pos g], HsQ_tel hP⟩
