/-! ===== bodies: the helpers of the law (by program) ===== -/
theorem xL_setField (x1 : Nat) (x2 : Int32) (x3 : Int32) (x4 : Nat) (μ : qMM) (hp : PL_setField x1 x2 x3 x4 μ) : EX (SL_setField (rti 1 6 (QL_setField x1 x2 x3 x4 μ)) (fun _ _ _ => False)) 0 [some (.ref x1), some (.int x2), some (.int x3), some (.ref x4), none] [] [] μ (0, 0) := by
  obtain ⟨⟨H, m, hP⟩, ha⟩ := hp
  have hx : PX8_setField x1 x2 x3 μ := ⟨H, m, hP⟩
  have t8 : ∃ t, mS μ x1 = some (.inl (7, t)) := tX8 hP.1.1
  simp only [eL_setField_0, eL_setField_1, eL_setField_2, eL_setField_3, eL_setField_4, eL_setField_5, t8, hx, List.length_nil, List.length_cons, ll0, ll1, ll2, ll3, ll4, Nat.le_refl, and_true, Nat.zero_add, Nat.add_zero, Nat.le_refl, Nat.zero_le, one0, eq_self, or_true, true_or, not_true_eq_false, not_false_eq_true, true_imp_iff, false_imp_iff, true_and, and_true, Classical.not_not]
  refine ⟨fun r μ' q => ?_, fun E hE => ?_⟩
  · have S1 : Sm μ μ' := (q H m hP).2.2.1
    have ha' : LaP μ' x4 := LaP_Sm S1 ha
    simp only [eL_setField_8, eL_setField_9, eL_setField_10, eL_setField_13, eL_setField_15, eL_setField_16, eL_setField_17, eL_setField_19, eL_setField_20, eL_setField_21, eL_setField_22, qArr_La ha', vp01, ci0, rtv_at, rti_at, rtj_at, rtd_at, rta_at, qOk, qOkR, Nat.le_refl, one0, eq_self, or_true, true_or, not_true_eq_false, not_false_eq_true, true_imp_iff, false_imp_iff, true_and, and_true, Classical.not_not]
    exact hl_ok (fun H m hP => q H m hP)
  · rcases hE H m hP with ⟨rfl, -⟩ | ⟨rfl, -⟩
    · refine ⟨13, by decide, fun a => ?_⟩
      simp only [eL_setField_8, eL_setField_9, eL_setField_10, eL_setField_13, eL_setField_15, eL_setField_16, eL_setField_17, eL_setField_19, eL_setField_20, eL_setField_21, eL_setField_22, rtv_at, rti_at, rtj_at, rtd_at, rta_at, qOk, qOkR, Nat.le_refl, one0, eq_self, or_true, true_or, not_true_eq_false, not_false_eq_true, true_imp_iff, false_imp_iff, true_and, and_true, Classical.not_not]
      exact hl_bad (by decide) (fun H m hP => (hE H m hP).elim (fun z => z.2) (fun z => absurd z.1 (by decide)))
    · refine ⟨17, by decide, fun a => ?_⟩
      simp only [eL_setField_8, eL_setField_9, eL_setField_10, eL_setField_13, eL_setField_15, eL_setField_16, eL_setField_17, eL_setField_19, eL_setField_20, eL_setField_21, eL_setField_22, rtv_at, rti_at, rtj_at, rtd_at, rta_at, qOk, qOkR, Nat.le_refl, one0, eq_self, or_true, true_or, not_true_eq_false, not_false_eq_true, true_imp_iff, false_imp_iff, true_and, and_true, Classical.not_not]
      exact hl_bad (by decide) (fun H m hP => (hE H m hP).elim (fun z => absurd z.1 (by decide)) (fun z => z.2))
theorem xL_setStrides (x1 : Nat) (x2 : Int32) (x3 : Int32) (x4 : Nat) (μ : qMM) (hp : PL_setStrides x1 x2 x3 x4 μ) : EX (SL_setStrides (rti 1 6 (QL_setStrides x1 x2 x3 x4 μ)) (fun _ _ _ => False)) 0 [some (.ref x1), some (.int x2), some (.int x3), some (.ref x4), none] [] [] μ (0, 0) := by
  obtain ⟨⟨H, m, hP⟩, ha⟩ := hp
  have hx : PX8_setStrides x1 x2 x3 μ := ⟨H, m, hP⟩
  have t8 : ∃ t, mS μ x1 = some (.inl (7, t)) := tX8 hP.1.1
  simp only [eL_setStrides_0, eL_setStrides_1, eL_setStrides_2, eL_setStrides_3, eL_setStrides_4, eL_setStrides_5, t8, hx, List.length_nil, List.length_cons, ll0, ll1, ll2, ll3, ll4, Nat.le_refl, and_true, Nat.zero_add, Nat.add_zero, Nat.le_refl, Nat.zero_le, one0, eq_self, or_true, true_or, not_true_eq_false, not_false_eq_true, true_imp_iff, false_imp_iff, true_and, and_true, Classical.not_not]
  refine ⟨fun r μ' q => ?_, fun E hE => ?_⟩
  · have S1 : Sm μ μ' := (q H m hP).2.2.1
    have ha' : LaP μ' x4 := LaP_Sm S1 ha
    simp only [eL_setStrides_8, eL_setStrides_9, eL_setStrides_10, eL_setStrides_13, eL_setStrides_15, eL_setStrides_16, eL_setStrides_17, eL_setStrides_18, qArr_La ha', vp01, ci0, rtv_at, rti_at, rtj_at, rtd_at, rta_at, qOk, qOkR, Nat.le_refl, one0, eq_self, or_true, true_or, not_true_eq_false, not_false_eq_true, true_imp_iff, false_imp_iff, true_and, and_true, Classical.not_not]
    exact hl_ok (fun H m hP => q H m hP)
  · have g := hE H m hP
    obtain ⟨rfl, -⟩ := g
    refine ⟨13, by decide, fun a => ?_⟩
    simp only [eL_setStrides_8, eL_setStrides_9, eL_setStrides_10, eL_setStrides_13, eL_setStrides_15, eL_setStrides_16, eL_setStrides_17, eL_setStrides_18, rtv_at, rti_at, rtj_at, rtd_at, rta_at, qOk, qOkR, Nat.le_refl, one0, eq_self, or_true, true_or, not_true_eq_false, not_false_eq_true, true_imp_iff, false_imp_iff, true_and, and_true, Classical.not_not]
    exact hl_bad (by decide) (fun H m hP => (hE H m hP).2)
theorem xL_setPolicy (x1 : Nat) (x2 : Int32) (x3 : Int32) (x4 : Nat) (μ : qMM) (hp : PL_setPolicy x1 x2 x3 x4 μ) : EX (SL_setPolicy (rti 1 6 (QL_setPolicy x1 x2 x3 x4 μ)) (fun _ _ _ => False)) 0 [some (.ref x1), some (.int x2), some (.int x3), some (.ref x4), none] [] [] μ (0, 0) := by
  obtain ⟨⟨H, m, hP⟩, ha⟩ := hp
  have hx : PX8_setPolicy x1 x2 x3 μ := ⟨H, m, hP⟩
  have t8 : ∃ t, mS μ x1 = some (.inl (7, t)) := tX8 hP.1.1
  simp only [eL_setPolicy_0, eL_setPolicy_1, eL_setPolicy_2, eL_setPolicy_3, eL_setPolicy_4, eL_setPolicy_5, t8, hx, List.length_nil, List.length_cons, ll0, ll1, ll2, ll3, ll4, Nat.le_refl, and_true, Nat.zero_add, Nat.add_zero, Nat.le_refl, Nat.zero_le, one0, eq_self, or_true, true_or, not_true_eq_false, not_false_eq_true, true_imp_iff, false_imp_iff, true_and, and_true, Classical.not_not]
  refine ⟨fun r μ' q => ?_, fun E hE => ?_⟩
  · have S1 : Sm μ μ' := (q H m hP).2.2.1
    have ha' : LaP μ' x4 := LaP_Sm S1 ha
    simp only [eL_setPolicy_8, eL_setPolicy_9, eL_setPolicy_10, eL_setPolicy_13, eL_setPolicy_15, eL_setPolicy_16, eL_setPolicy_17, eL_setPolicy_18, qArr_La ha', vp01, ci0, rtv_at, rti_at, rtj_at, rtd_at, rta_at, qOk, qOkR, Nat.le_refl, one0, eq_self, or_true, true_or, not_true_eq_false, not_false_eq_true, true_imp_iff, false_imp_iff, true_and, and_true, Classical.not_not]
    exact hl_ok (fun H m hP => q H m hP)
  · have g := hE H m hP
    obtain ⟨rfl, -⟩ := g
    refine ⟨13, by decide, fun a => ?_⟩
    simp only [eL_setPolicy_8, eL_setPolicy_9, eL_setPolicy_10, eL_setPolicy_13, eL_setPolicy_15, eL_setPolicy_16, eL_setPolicy_17, eL_setPolicy_18, rtv_at, rti_at, rtj_at, rtd_at, rta_at, qOk, qOkR, Nat.le_refl, one0, eq_self, or_true, true_or, not_true_eq_false, not_false_eq_true, true_imp_iff, false_imp_iff, true_and, and_true, Classical.not_not]
    exact hl_bad (by decide) (fun H m hP => (hE H m hP).2)
theorem xL_send (x1 : Nat) (x2 : Nat) (μ : qMM) (hp : PL_send x1 x2 μ) : EX (SL_send (rti 1 6 (QL_send x1 x2 μ)) (fun _ _ _ => False)) 0 [some (.ref x1), some (.ref x2), none] [] [] μ (0, 0) := by
  obtain ⟨⟨H, m, hP⟩, ha⟩ := hp
  have hx : PX8_send x1 μ := ⟨H, m, hP⟩
  have t8 : ∃ t, mS μ x1 = some (.inl (7, t)) := tX8 hP.1.1
  simp only [eL_send_0, eL_send_1, eL_send_2, eL_send_3, t8, hx, List.length_nil, List.length_cons, ll0, ll1, ll2, ll3, ll4, Nat.le_refl, and_true, Nat.zero_add, Nat.add_zero, Nat.le_refl, Nat.zero_le, one0, eq_self, or_true, true_or, not_true_eq_false, not_false_eq_true, true_imp_iff, false_imp_iff, true_and, and_true, Classical.not_not]
  refine ⟨fun r μ' q => ?_, fun E hE => ?_⟩
  · have S1 : Sm μ μ' := (q H m hP).2.2.1
    have ha' : LaP μ' x2 := LaP_Sm S1 ha
    simp only [eL_send_6, eL_send_7, eL_send_8, eL_send_11, eL_send_12, eL_send_13, eL_send_14, eL_send_15, qArr_La ha', vp01, ci0, rtv_at, rti_at, rtj_at, rtd_at, rta_at, qOk, qOkR, Nat.le_refl, one0, eq_self, or_true, true_or, not_true_eq_false, not_false_eq_true, true_imp_iff, false_imp_iff, true_and, and_true, Classical.not_not]
    exact hl_ok (fun H m hP => q H m hP)
  · have g := hE H m hP
    obtain ⟨rfl, -⟩ := g
    refine ⟨11, by decide, fun a => ?_⟩
    simp only [eL_send_6, eL_send_7, eL_send_8, eL_send_11, eL_send_12, eL_send_13, eL_send_14, eL_send_15, rtv_at, rti_at, rtj_at, rtd_at, rta_at, qOk, qOkR, Nat.le_refl, one0, eq_self, or_true, true_or, not_true_eq_false, not_false_eq_true, true_imp_iff, false_imp_iff, true_and, and_true, Classical.not_not]
    exact hl_bad (by decide) (fun H m hP => (hE H m hP).2)
theorem xL_stream (x1 : Nat) (x2 : Int32) (x3 : Nat) (μ : qMM) (hp : PL_stream x1 x2 x3 μ) : EX (SL_stream (rti 1 6 (QL_stream x1 x2 x3 μ)) (fun _ _ _ => False)) 0 [some (.ref x1), some (.int x2), some (.ref x3), none] [] [] μ (0, 0) := by
  obtain ⟨⟨H, m, hP⟩, ha⟩ := hp
  have hx : PX8_stream x1 x2 μ := ⟨H, m, hP⟩
  have t8 : ∃ t, mS μ x1 = some (.inl (7, t)) := tX8 hP.1.1
  simp only [eL_stream_0, eL_stream_1, eL_stream_2, eL_stream_3, eL_stream_4, t8, hx, List.length_nil, List.length_cons, ll0, ll1, ll2, ll3, ll4, Nat.le_refl, and_true, Nat.zero_add, Nat.add_zero, Nat.le_refl, Nat.zero_le, one0, eq_self, or_true, true_or, not_true_eq_false, not_false_eq_true, true_imp_iff, false_imp_iff, true_and, and_true, Classical.not_not]
  refine ⟨fun r μ' q => ?_, fun E hE => ?_⟩
  · have S1 : Sm μ μ' := (q H m hP).2.2.1
    have ha' : LaP μ' x3 := LaP_Sm S1 ha
    simp only [eL_stream_7, eL_stream_8, eL_stream_9, eL_stream_12, eL_stream_13, eL_stream_14, eL_stream_15, eL_stream_16, eL_stream_17, eL_stream_18, eL_stream_19, qArr_La ha', vp01, ci0, rtv_at, rti_at, rtj_at, rtd_at, rta_at, qOk, qOkR, Nat.le_refl, one0, eq_self, or_true, true_or, not_true_eq_false, not_false_eq_true, true_imp_iff, false_imp_iff, true_and, and_true, Classical.not_not]
    exact hl_ok (fun H m hP => q H m hP)
  · rcases hE H m hP with ⟨rfl, -⟩ | ⟨rfl, -⟩
    · refine ⟨12, by decide, fun a => ?_⟩
      simp only [eL_stream_7, eL_stream_8, eL_stream_9, eL_stream_12, eL_stream_13, eL_stream_14, eL_stream_15, eL_stream_16, eL_stream_17, eL_stream_18, eL_stream_19, rtv_at, rti_at, rtj_at, rtd_at, rta_at, qOk, qOkR, Nat.le_refl, one0, eq_self, or_true, true_or, not_true_eq_false, not_false_eq_true, true_imp_iff, false_imp_iff, true_and, and_true, Classical.not_not]
      exact hl_bad (by decide) (fun H m hP => (hE H m hP).elim (fun z => z.2) (fun z => absurd z.1 (by decide)))
    · refine ⟨15, by decide, fun a => ?_⟩
      simp only [eL_stream_7, eL_stream_8, eL_stream_9, eL_stream_12, eL_stream_13, eL_stream_14, eL_stream_15, eL_stream_16, eL_stream_17, eL_stream_18, eL_stream_19, rtv_at, rti_at, rtj_at, rtd_at, rta_at, qOk, qOkR, Nat.le_refl, one0, eq_self, or_true, true_or, not_true_eq_false, not_false_eq_true, true_imp_iff, false_imp_iff, true_and, and_true, Classical.not_not]
      exact hl_bad (by decide) (fun H m hP => (hE H m hP).elim (fun z => absurd z.1 (by decide)) (fun z => z.2))
theorem xL_field (x1 : Nat) (x2 : Int32) (x3 : Nat) (μ : qMM) (hp : PL_field x1 x2 x3 μ) : EX (SL_field (rti 1 6 (QL_field x1 x2 x3 μ)) (fun _ _ _ => False)) 0 [some (.ref x1), some (.int x2), some (.ref x3), none] [] [] μ (0, 0) := by
  obtain ⟨⟨H, m, hP⟩, ha⟩ := hp
  have hx : PX8_field x1 x2 μ := ⟨H, m, hP⟩
  have t8 : ∃ t, mS μ x1 = some (.inl (7, t)) := tX8 hP.1.1
  simp only [eL_field_0, eL_field_1, eL_field_2, eL_field_3, eL_field_4, t8, hx, List.length_nil, List.length_cons, ll0, ll1, ll2, ll3, ll4, Nat.le_refl, and_true, Nat.zero_add, Nat.add_zero, Nat.le_refl, Nat.zero_le, one0, eq_self, or_true, true_or, not_true_eq_false, not_false_eq_true, true_imp_iff, false_imp_iff, true_and, and_true, Classical.not_not]
  refine ⟨fun r μ' q => ?_, fun E hE => ?_⟩
  · have S1 : Sm μ μ' := (q H m hP).2.2.1
    have ha' : LaP μ' x3 := LaP_Sm S1 ha
    simp only [eL_field_7, eL_field_8, eL_field_9, eL_field_12, eL_field_13, eL_field_14, eL_field_15, eL_field_16, qArr_La ha', vp01, ci0, rtv_at, rti_at, rtj_at, rtd_at, rta_at, qOk, qOkR, Nat.le_refl, one0, eq_self, or_true, true_or, not_true_eq_false, not_false_eq_true, true_imp_iff, false_imp_iff, true_and, and_true, Classical.not_not]
    exact hl_ok (fun H m hP => q H m hP)
  · have g := hE H m hP
    obtain ⟨rfl, -⟩ := g
    refine ⟨12, by decide, fun a => ?_⟩
    simp only [eL_field_7, eL_field_8, eL_field_9, eL_field_12, eL_field_13, eL_field_14, eL_field_15, eL_field_16, rtv_at, rti_at, rtj_at, rtd_at, rta_at, qOk, qOkR, Nat.le_refl, one0, eq_self, or_true, true_or, not_true_eq_false, not_false_eq_true, true_imp_iff, false_imp_iff, true_and, and_true, Classical.not_not]
    exact hl_bad (by decide) (fun H m hP => (hE H m hP).2)
theorem xL_sizeWith (x1 : Nat) (x2 : Int32) (x3 : Int32) (x4 : Nat) (μ : qMM) (hp : PL_sizeWith x1 x2 x3 x4 μ) : EX (SL_sizeWith (rti 1 6 (QL_sizeWith x1 x2 x3 x4 μ)) (fun _ _ _ => False)) 0 [some (.ref x1), some (.int x2), some (.int x3), some (.ref x4), none] [] [] μ (0, 0) := by
  obtain ⟨⟨H, m, hP⟩, ha⟩ := hp
  have hx : PX8_sizeWith x1 x2 x3 μ := ⟨H, m, hP⟩
  have t8 : ∃ t, mS μ x1 = some (.inl (7, t)) := tX8 hP.1.1
  simp only [eL_sizeWith_0, eL_sizeWith_1, eL_sizeWith_2, eL_sizeWith_3, eL_sizeWith_4, eL_sizeWith_5, t8, hx, List.length_nil, List.length_cons, ll0, ll1, ll2, ll3, ll4, Nat.le_refl, and_true, Nat.zero_add, Nat.add_zero, Nat.le_refl, Nat.zero_le, one0, eq_self, or_true, true_or, not_true_eq_false, not_false_eq_true, true_imp_iff, false_imp_iff, true_and, and_true, Classical.not_not]
  refine ⟨fun r μ' q => ?_, fun E hE => ?_⟩
  · have S1 : Sm μ μ' := (q H m hP).2.2.1
    have ha' : LaP μ' x4 := LaP_Sm S1 ha
    simp only [eL_sizeWith_8, eL_sizeWith_9, eL_sizeWith_10, eL_sizeWith_13, eL_sizeWith_15, eL_sizeWith_16, eL_sizeWith_17, eL_sizeWith_18, qArr_La ha', vp01, ci0, rtv_at, rti_at, rtj_at, rtd_at, rta_at, qOk, qOkR, Nat.le_refl, one0, eq_self, or_true, true_or, not_true_eq_false, not_false_eq_true, true_imp_iff, false_imp_iff, true_and, and_true, Classical.not_not]
    exact hl_ok (fun H m hP => q H m hP)
  · have g := hE H m hP
    obtain ⟨rfl, -⟩ := g
    refine ⟨13, by decide, fun a => ?_⟩
    simp only [eL_sizeWith_8, eL_sizeWith_9, eL_sizeWith_10, eL_sizeWith_13, eL_sizeWith_15, eL_sizeWith_16, eL_sizeWith_17, eL_sizeWith_18, rtv_at, rti_at, rtj_at, rtd_at, rta_at, qOk, qOkR, Nat.le_refl, one0, eq_self, or_true, true_or, not_true_eq_false, not_false_eq_true, true_imp_iff, false_imp_iff, true_and, and_true, Classical.not_not]
    exact hl_bad (by decide) (fun H m hP => (hE H m hP).2)
theorem xL_sent (x1 : Nat) (x2 : Int32) (x3 : Int32) (x4 : Nat) (μ : qMM) (hp : PL_sent x1 x2 x3 x4 μ) : EX (SL_sent (rti 1 6 (QL_sent x1 x2 x3 x4 μ)) (fun _ _ _ => False)) 0 [some (.ref x1), some (.int x2), some (.int x3), some (.ref x4), none] [] [] μ (0, 0) := by
  obtain ⟨⟨H, m, hP⟩, ha⟩ := hp
  have hx : PX8_sent x1 x2 x3 μ := ⟨H, m, hP⟩
  have t8 : ∃ t, mS μ x1 = some (.inl (7, t)) := tX8 hP.1.1
  simp only [eL_sent_0, eL_sent_1, eL_sent_2, eL_sent_3, eL_sent_4, eL_sent_5, t8, hx, List.length_nil, List.length_cons, ll0, ll1, ll2, ll3, ll4, Nat.le_refl, and_true, Nat.zero_add, Nat.add_zero, Nat.le_refl, Nat.zero_le, one0, eq_self, or_true, true_or, not_true_eq_false, not_false_eq_true, true_imp_iff, false_imp_iff, true_and, and_true, Classical.not_not]
  refine ⟨fun r μ' q => ?_, fun E hE => ?_⟩
  · have S1 : Sm μ μ' := (q H m hP).2.2.1
    have ha' : LaP μ' x4 := LaP_Sm S1 ha
    simp only [eL_sent_8, eL_sent_9, eL_sent_10, eL_sent_13, eL_sent_15, eL_sent_16, eL_sent_17, eL_sent_19, eL_sent_20, eL_sent_21, eL_sent_22, qArr_La ha', vp01, ci0, rtv_at, rti_at, rtj_at, rtd_at, rta_at, qOk, qOkR, Nat.le_refl, one0, eq_self, or_true, true_or, not_true_eq_false, not_false_eq_true, true_imp_iff, false_imp_iff, true_and, and_true, Classical.not_not]
    exact hl_ok (fun H m hP => q H m hP)
  · rcases hE H m hP with ⟨rfl, -⟩ | ⟨rfl, -⟩
    · refine ⟨13, by decide, fun a => ?_⟩
      simp only [eL_sent_8, eL_sent_9, eL_sent_10, eL_sent_13, eL_sent_15, eL_sent_16, eL_sent_17, eL_sent_19, eL_sent_20, eL_sent_21, eL_sent_22, rtv_at, rti_at, rtj_at, rtd_at, rta_at, qOk, qOkR, Nat.le_refl, one0, eq_self, or_true, true_or, not_true_eq_false, not_false_eq_true, true_imp_iff, false_imp_iff, true_and, and_true, Classical.not_not]
      exact hl_bad (by decide) (fun H m hP => (hE H m hP).elim (fun z => z.2) (fun z => absurd z.1 (by decide)))
    · refine ⟨17, by decide, fun a => ?_⟩
      simp only [eL_sent_8, eL_sent_9, eL_sent_10, eL_sent_13, eL_sent_15, eL_sent_16, eL_sent_17, eL_sent_19, eL_sent_20, eL_sent_21, eL_sent_22, rtv_at, rti_at, rtj_at, rtd_at, rta_at, qOk, qOkR, Nat.le_refl, one0, eq_self, or_true, true_or, not_true_eq_false, not_false_eq_true, true_imp_iff, false_imp_iff, true_and, and_true, Classical.not_not]
      exact hl_bad (by decide) (fun H m hP => (hE H m hP).elim (fun z => absurd z.1 (by decide)) (fun z => z.2))
theorem xL_deliver (x1 : Nat) (x2 : Int32) (x3 : Nat) (μ : qMM) (hp : PL_deliver x1 x2 x3 μ) : EX (SL_deliver (rti 1 6 (QL_deliver x1 x2 x3 μ)) (fun _ _ _ => False)) 0 [some (.ref x1), some (.int x2), some (.ref x3), none] [] [] μ (0, 0) := by
  obtain ⟨⟨H, m, hP⟩, ha⟩ := hp
  have hx : PX8_deliver x1 x2 μ := ⟨H, m, hP⟩
  have t8 : ∃ t, mS μ x1 = some (.inl (7, t)) := tX8 hP.1.1
  simp only [eL_deliver_0, eL_deliver_1, eL_deliver_2, eL_deliver_3, eL_deliver_4, t8, hx, List.length_nil, List.length_cons, ll0, ll1, ll2, ll3, ll4, Nat.le_refl, and_true, Nat.zero_add, Nat.add_zero, Nat.le_refl, Nat.zero_le, one0, eq_self, or_true, true_or, not_true_eq_false, not_false_eq_true, true_imp_iff, false_imp_iff, true_and, and_true, Classical.not_not]
  refine ⟨fun r μ' q => ?_, fun E hE => ?_⟩
  · have S1 : Sm μ μ' := (q H m hP).2.2.1
    have ha' : LaP μ' x3 := LaP_Sm S1 ha
    simp only [eL_deliver_7, eL_deliver_8, eL_deliver_9, eL_deliver_12, eL_deliver_13, eL_deliver_14, eL_deliver_15, eL_deliver_16, qArr_La ha', vp01, ci0, rtv_at, rti_at, rtj_at, rtd_at, rta_at, qOk, qOkR, Nat.le_refl, one0, eq_self, or_true, true_or, not_true_eq_false, not_false_eq_true, true_imp_iff, false_imp_iff, true_and, and_true, Classical.not_not]
    exact hl_ok (fun H m hP => q H m hP)
  · have g := hE H m hP
    obtain ⟨rfl, -⟩ := g
    refine ⟨12, by decide, fun a => ?_⟩
    simp only [eL_deliver_7, eL_deliver_8, eL_deliver_9, eL_deliver_12, eL_deliver_13, eL_deliver_14, eL_deliver_15, eL_deliver_16, rtv_at, rti_at, rtj_at, rtd_at, rta_at, qOk, qOkR, Nat.le_refl, one0, eq_self, or_true, true_or, not_true_eq_false, not_false_eq_true, true_imp_iff, false_imp_iff, true_and, and_true, Classical.not_not]
    exact hl_bad (by decide) (fun H m hP => (hE H m hP).2)
theorem xL_lose (x1 : Nat) (x2 : Int32) (x3 : Nat) (μ : qMM) (hp : PL_lose x1 x2 x3 μ) : EX (SL_lose (rti 1 6 (QL_lose x1 x2 x3 μ)) (fun _ _ _ => False)) 0 [some (.ref x1), some (.int x2), some (.ref x3), none] [] [] μ (0, 0) := by
  obtain ⟨⟨H, m, hP⟩, ha⟩ := hp
  have hx : PX8_lose x1 x2 μ := ⟨H, m, hP⟩
  have t8 : ∃ t, mS μ x1 = some (.inl (7, t)) := tX8 hP.1.1
  simp only [eL_lose_0, eL_lose_1, eL_lose_2, eL_lose_3, eL_lose_4, t8, hx, List.length_nil, List.length_cons, ll0, ll1, ll2, ll3, ll4, Nat.le_refl, and_true, Nat.zero_add, Nat.add_zero, Nat.le_refl, Nat.zero_le, one0, eq_self, or_true, true_or, not_true_eq_false, not_false_eq_true, true_imp_iff, false_imp_iff, true_and, and_true, Classical.not_not]
  refine ⟨fun r μ' q => ?_, fun E hE => ?_⟩
  · have S1 : Sm μ μ' := (q H m hP).2.2.1
    have ha' : LaP μ' x3 := LaP_Sm S1 ha
    simp only [eL_lose_7, eL_lose_8, eL_lose_9, eL_lose_12, eL_lose_13, eL_lose_14, eL_lose_15, eL_lose_16, qArr_La ha', vp01, ci0, rtv_at, rti_at, rtj_at, rtd_at, rta_at, qOk, qOkR, Nat.le_refl, one0, eq_self, or_true, true_or, not_true_eq_false, not_false_eq_true, true_imp_iff, false_imp_iff, true_and, and_true, Classical.not_not]
    exact hl_ok (fun H m hP => q H m hP)
  · have g := hE H m hP
    obtain ⟨rfl, -⟩ := g
    refine ⟨12, by decide, fun a => ?_⟩
    simp only [eL_lose_7, eL_lose_8, eL_lose_9, eL_lose_12, eL_lose_13, eL_lose_14, eL_lose_15, eL_lose_16, rtv_at, rti_at, rtj_at, rtd_at, rta_at, qOk, qOkR, Nat.le_refl, one0, eq_self, or_true, true_or, not_true_eq_false, not_false_eq_true, true_imp_iff, false_imp_iff, true_and, and_true, Classical.not_not]
    exact hl_bad (by decide) (fun H m hP => (hE H m hP).2)
theorem xL_copy (x1 : Nat) (x2 : Int32) (x3 : Nat) (μ : qMM) (hp : PL_copy x1 x2 x3 μ) : EX (SL_copy (rti 1 6 (QL_copy x1 x2 x3 μ)) (fun _ _ _ => False)) 0 [some (.ref x1), some (.int x2), some (.ref x3), none] [] [] μ (0, 0) := by
  obtain ⟨⟨H, m, hP⟩, ha⟩ := hp
  have hx : PX8_copy x1 x2 μ := ⟨H, m, hP⟩
  have t8 : ∃ t, mS μ x1 = some (.inl (7, t)) := tX8 hP.1.1
  simp only [eL_copy_0, eL_copy_1, eL_copy_2, eL_copy_3, eL_copy_4, t8, hx, List.length_nil, List.length_cons, ll0, ll1, ll2, ll3, ll4, Nat.le_refl, and_true, Nat.zero_add, Nat.add_zero, Nat.le_refl, Nat.zero_le, one0, eq_self, or_true, true_or, not_true_eq_false, not_false_eq_true, true_imp_iff, false_imp_iff, true_and, and_true, Classical.not_not]
  refine ⟨fun r μ' q => ?_, fun E hE => ?_⟩
  · have S1 : Sm μ μ' := (q H m hP).2.2.1
    have ha' : LaP μ' x3 := LaP_Sm S1 ha
    simp only [eL_copy_7, eL_copy_8, eL_copy_9, eL_copy_12, eL_copy_13, eL_copy_14, eL_copy_15, eL_copy_16, eL_copy_17, eL_copy_18, eL_copy_19, qArr_La ha', vp01, ci0, rtv_at, rti_at, rtj_at, rtd_at, rta_at, qOk, qOkR, Nat.le_refl, one0, eq_self, or_true, true_or, not_true_eq_false, not_false_eq_true, true_imp_iff, false_imp_iff, true_and, and_true, Classical.not_not]
    exact hl_ok (fun H m hP => q H m hP)
  · rcases hE H m hP with ⟨rfl, -⟩ | ⟨rfl, -⟩
    · refine ⟨12, by decide, fun a => ?_⟩
      simp only [eL_copy_7, eL_copy_8, eL_copy_9, eL_copy_12, eL_copy_13, eL_copy_14, eL_copy_15, eL_copy_16, eL_copy_17, eL_copy_18, eL_copy_19, rtv_at, rti_at, rtj_at, rtd_at, rta_at, qOk, qOkR, Nat.le_refl, one0, eq_self, or_true, true_or, not_true_eq_false, not_false_eq_true, true_imp_iff, false_imp_iff, true_and, and_true, Classical.not_not]
      exact hl_bad (by decide) (fun H m hP => (hE H m hP).elim (fun z => z.2) (fun z => absurd z.1 (by decide)))
    · refine ⟨15, by decide, fun a => ?_⟩
      simp only [eL_copy_7, eL_copy_8, eL_copy_9, eL_copy_12, eL_copy_13, eL_copy_14, eL_copy_15, eL_copy_16, eL_copy_17, eL_copy_18, eL_copy_19, rtv_at, rti_at, rtj_at, rtd_at, rta_at, qOk, qOkR, Nat.le_refl, one0, eq_self, or_true, true_or, not_true_eq_false, not_false_eq_true, true_imp_iff, false_imp_iff, true_and, and_true, Classical.not_not]
      exact hl_bad (by decide) (fun H m hP => (hE H m hP).elim (fun z => absurd z.1 (by decide)) (fun z => z.2))
theorem xL_deliverBack (x1 : Nat) (x2 : Int32) (x3 : Nat) (μ : qMM) (hp : PL_deliverBack x1 x2 x3 μ) : EX (SL_deliverBack (rti 1 6 (QL_deliverBack x1 x2 x3 μ)) (fun _ _ _ => False)) 0 [some (.ref x1), some (.int x2), some (.ref x3), none] [] [] μ (0, 0) := by
  obtain ⟨⟨H, m, hP⟩, ha⟩ := hp
  have hx : PX8_deliverBack x1 x2 μ := ⟨H, m, hP⟩
  have t8 : ∃ t, mS μ x1 = some (.inl (7, t)) := tX8 hP.1.1
  simp only [eL_deliverBack_0, eL_deliverBack_1, eL_deliverBack_2, eL_deliverBack_3, eL_deliverBack_4, t8, hx, List.length_nil, List.length_cons, ll0, ll1, ll2, ll3, ll4, Nat.le_refl, and_true, Nat.zero_add, Nat.add_zero, Nat.le_refl, Nat.zero_le, one0, eq_self, or_true, true_or, not_true_eq_false, not_false_eq_true, true_imp_iff, false_imp_iff, true_and, and_true, Classical.not_not]
  refine ⟨fun r μ' q => ?_, fun E hE => ?_⟩
  · have S1 : Sm μ μ' := (q H m hP).2.2.1
    have ha' : LaP μ' x3 := LaP_Sm S1 ha
    simp only [eL_deliverBack_7, eL_deliverBack_8, eL_deliverBack_9, eL_deliverBack_12, eL_deliverBack_13, eL_deliverBack_14, eL_deliverBack_15, eL_deliverBack_16, qArr_La ha', vp01, ci0, rtv_at, rti_at, rtj_at, rtd_at, rta_at, qOk, qOkR, Nat.le_refl, one0, eq_self, or_true, true_or, not_true_eq_false, not_false_eq_true, true_imp_iff, false_imp_iff, true_and, and_true, Classical.not_not]
    exact hl_ok (fun H m hP => q H m hP)
  · have g := hE H m hP
    obtain ⟨rfl, -⟩ := g
    refine ⟨12, by decide, fun a => ?_⟩
    simp only [eL_deliverBack_7, eL_deliverBack_8, eL_deliverBack_9, eL_deliverBack_12, eL_deliverBack_13, eL_deliverBack_14, eL_deliverBack_15, eL_deliverBack_16, rtv_at, rti_at, rtj_at, rtd_at, rta_at, qOk, qOkR, Nat.le_refl, one0, eq_self, or_true, true_or, not_true_eq_false, not_false_eq_true, true_imp_iff, false_imp_iff, true_and, and_true, Classical.not_not]
    exact hl_bad (by decide) (fun H m hP => (hE H m hP).2)
theorem xL_loseBack (x1 : Nat) (x2 : Int32) (x3 : Nat) (μ : qMM) (hp : PL_loseBack x1 x2 x3 μ) : EX (SL_loseBack (rti 1 6 (QL_loseBack x1 x2 x3 μ)) (fun _ _ _ => False)) 0 [some (.ref x1), some (.int x2), some (.ref x3), none] [] [] μ (0, 0) := by
  obtain ⟨⟨H, m, hP⟩, ha⟩ := hp
  have hx : PX8_loseBack x1 x2 μ := ⟨H, m, hP⟩
  have t8 : ∃ t, mS μ x1 = some (.inl (7, t)) := tX8 hP.1.1
  simp only [eL_loseBack_0, eL_loseBack_1, eL_loseBack_2, eL_loseBack_3, eL_loseBack_4, t8, hx, List.length_nil, List.length_cons, ll0, ll1, ll2, ll3, ll4, Nat.le_refl, and_true, Nat.zero_add, Nat.add_zero, Nat.le_refl, Nat.zero_le, one0, eq_self, or_true, true_or, not_true_eq_false, not_false_eq_true, true_imp_iff, false_imp_iff, true_and, and_true, Classical.not_not]
  refine ⟨fun r μ' q => ?_, fun E hE => ?_⟩
  · have S1 : Sm μ μ' := (q H m hP).2.2.1
    have ha' : LaP μ' x3 := LaP_Sm S1 ha
    simp only [eL_loseBack_7, eL_loseBack_8, eL_loseBack_9, eL_loseBack_12, eL_loseBack_13, eL_loseBack_14, eL_loseBack_15, eL_loseBack_16, qArr_La ha', vp01, ci0, rtv_at, rti_at, rtj_at, rtd_at, rta_at, qOk, qOkR, Nat.le_refl, one0, eq_self, or_true, true_or, not_true_eq_false, not_false_eq_true, true_imp_iff, false_imp_iff, true_and, and_true, Classical.not_not]
    exact hl_ok (fun H m hP => q H m hP)
  · have g := hE H m hP
    obtain ⟨rfl, -⟩ := g
    refine ⟨12, by decide, fun a => ?_⟩
    simp only [eL_loseBack_7, eL_loseBack_8, eL_loseBack_9, eL_loseBack_12, eL_loseBack_13, eL_loseBack_14, eL_loseBack_15, eL_loseBack_16, rtv_at, rti_at, rtj_at, rtd_at, rta_at, qOk, qOkR, Nat.le_refl, one0, eq_self, or_true, true_or, not_true_eq_false, not_false_eq_true, true_imp_iff, false_imp_iff, true_and, and_true, Classical.not_not]
    exact hl_bad (by decide) (fun H m hP => (hE H m hP).2)
theorem xL_waitingAt (x1 : Nat) (x2 : Int32) (x3 : Int32) (x4 : Nat) (μ : qMM) (hp : PL_waitingAt x1 x2 x3 x4 μ) : EX (SL_waitingAt (rti 1 6 (QL_waitingAt x1 x2 x3 x4 μ)) (fun _ _ _ => False)) 0 [some (.ref x1), some (.int x2), some (.int x3), some (.ref x4), none] [] [] μ (0, 0) := by
  obtain ⟨⟨H, m, hP⟩, ha⟩ := hp
  have hx : PX8_waitingAt x1 x2 x3 μ := ⟨H, m, hP⟩
  have t8 : ∃ t, mS μ x1 = some (.inl (7, t)) := tX8 hP.1.1
  simp only [eL_waitingAt_0, eL_waitingAt_1, eL_waitingAt_2, eL_waitingAt_3, eL_waitingAt_4, eL_waitingAt_5, t8, hx, List.length_nil, List.length_cons, ll0, ll1, ll2, ll3, ll4, Nat.le_refl, and_true, Nat.zero_add, Nat.add_zero, Nat.le_refl, Nat.zero_le, one0, eq_self, or_true, true_or, not_true_eq_false, not_false_eq_true, true_imp_iff, false_imp_iff, true_and, and_true, Classical.not_not]
  refine ⟨fun r μ' q => ?_, fun E hE => ?_⟩
  · have S1 : Sm μ μ' := (q H m hP).2.2.1
    have ha' : LaP μ' x4 := LaP_Sm S1 ha
    simp only [eL_waitingAt_8, eL_waitingAt_9, eL_waitingAt_10, eL_waitingAt_13, eL_waitingAt_15, eL_waitingAt_16, eL_waitingAt_17, eL_waitingAt_18, qArr_La ha', vp01, ci0, rtv_at, rti_at, rtj_at, rtd_at, rta_at, qOk, qOkR, Nat.le_refl, one0, eq_self, or_true, true_or, not_true_eq_false, not_false_eq_true, true_imp_iff, false_imp_iff, true_and, and_true, Classical.not_not]
    exact hl_ok (fun H m hP => q H m hP)
  · have g := hE H m hP
    obtain ⟨rfl, -⟩ := g
    refine ⟨13, by decide, fun a => ?_⟩
    simp only [eL_waitingAt_8, eL_waitingAt_9, eL_waitingAt_10, eL_waitingAt_13, eL_waitingAt_15, eL_waitingAt_16, eL_waitingAt_17, eL_waitingAt_18, rtv_at, rti_at, rtj_at, rtd_at, rta_at, qOk, qOkR, Nat.le_refl, one0, eq_self, or_true, true_or, not_true_eq_false, not_false_eq_true, true_imp_iff, false_imp_iff, true_and, and_true, Classical.not_not]
    exact hl_bad (by decide) (fun H m hP => (hE H m hP).2)
theorem xL_setReceiver (x1 : Nat) (x2 : Int32) (x3 : Int32) (x4 : Int32) (x5 : Nat) (μ : qMM) (hp : PL_setReceiver x1 x2 x3 x4 x5 μ) : EX (SL_setReceiver (rti 1 6 (QL_setReceiver x1 x2 x3 x4 x5 μ)) (fun _ _ _ => False)) 0 [some (.ref x1), some (.int x2), some (.int x3), some (.int x4), some (.ref x5), none] [] [] μ (0, 0) := by
  obtain ⟨⟨H, m, hP⟩, ha⟩ := hp
  have hx : PX8_setReceiver x1 x2 x3 x4 μ := ⟨H, m, hP⟩
  have t8 : ∃ t, mS μ x1 = some (.inl (7, t)) := tX8 hP.1.1
  simp only [eL_setReceiver_0, eL_setReceiver_2, eL_setReceiver_3, eL_setReceiver_4, eL_setReceiver_5, eL_setReceiver_6, eL_setReceiver_7, t8, hx, List.length_nil, List.length_cons, ll0, ll1, ll2, ll3, ll4, Nat.le_refl, and_true, Nat.zero_add, Nat.add_zero, Nat.le_refl, Nat.zero_le, one0, eq_self, or_true, true_or, not_true_eq_false, not_false_eq_true, true_imp_iff, false_imp_iff, true_and, and_true, Classical.not_not]
  refine ⟨fun r μ' q => ?_, fun E hE => ?_⟩
  · have S1 : Sm μ μ' := (q H m hP).2.2.1
    have ha' : LaP μ' x5 := LaP_Sm S1 ha
    simp only [eL_setReceiver_10, eL_setReceiver_11, eL_setReceiver_12, eL_setReceiver_15, eL_setReceiver_17, eL_setReceiver_18, eL_setReceiver_19, eL_setReceiver_20, qArr_La ha', vp01, ci0, rtv_at, rti_at, rtj_at, rtd_at, rta_at, qOk, qOkR, Nat.le_refl, one0, eq_self, or_true, true_or, not_true_eq_false, not_false_eq_true, true_imp_iff, false_imp_iff, true_and, and_true, Classical.not_not]
    exact hl_ok (fun H m hP => q H m hP)
  · have g := hE H m hP
    obtain ⟨rfl, -⟩ := g
    refine ⟨15, by decide, fun a => ?_⟩
    simp only [eL_setReceiver_10, eL_setReceiver_11, eL_setReceiver_12, eL_setReceiver_15, eL_setReceiver_17, eL_setReceiver_18, eL_setReceiver_19, eL_setReceiver_20, rtv_at, rti_at, rtj_at, rtd_at, rta_at, qOk, qOkR, Nat.le_refl, one0, eq_self, or_true, true_or, not_true_eq_false, not_false_eq_true, true_imp_iff, false_imp_iff, true_and, and_true, Classical.not_not]
    exact hl_bad (by decide) (fun H m hP => (hE H m hP).2)
theorem xL_record (x1 : Nat) (x2 : Int32) (x3 : Int32) (x4 : Nat) (μ : qMM) (hp : PL_record x1 x2 x3 x4 μ) : EX (SL_record (rti 1 6 (QL_record x1 x2 x3 x4 μ)) (fun _ _ _ => False)) 0 [some (.ref x1), some (.int x2), some (.int x3), some (.ref x4), none] [] [] μ (0, 0) := by
  obtain ⟨⟨H, m, hP⟩, ha⟩ := hp
  have hx : PX8_record x1 x2 x3 μ := ⟨H, m, hP⟩
  have t8 : ∃ t, mS μ x1 = some (.inl (7, t)) := tX8 hP.1.1
  simp only [eL_record_0, eL_record_1, eL_record_2, eL_record_3, eL_record_4, eL_record_5, t8, hx, List.length_nil, List.length_cons, ll0, ll1, ll2, ll3, ll4, Nat.le_refl, and_true, Nat.zero_add, Nat.add_zero, Nat.le_refl, Nat.zero_le, one0, eq_self, or_true, true_or, not_true_eq_false, not_false_eq_true, true_imp_iff, false_imp_iff, true_and, and_true, Classical.not_not]
  refine ⟨fun r μ' q => ?_, fun E hE => ?_⟩
  · have S1 : Sm μ μ' := (q H m hP).2.2.1
    have ha' : LaP μ' x4 := LaP_Sm S1 ha
    simp only [eL_record_8, eL_record_9, eL_record_10, eL_record_13, eL_record_15, eL_record_16, eL_record_17, eL_record_18, qArr_La ha', vp01, ci0, rtv_at, rti_at, rtj_at, rtd_at, rta_at, qOk, qOkR, Nat.le_refl, one0, eq_self, or_true, true_or, not_true_eq_false, not_false_eq_true, true_imp_iff, false_imp_iff, true_and, and_true, Classical.not_not]
    exact hl_ok (fun H m hP => q H m hP)
  · have g := hE H m hP
    obtain ⟨rfl, -⟩ := g
    refine ⟨13, by decide, fun a => ?_⟩
    simp only [eL_record_8, eL_record_9, eL_record_10, eL_record_13, eL_record_15, eL_record_16, eL_record_17, eL_record_18, rtv_at, rti_at, rtj_at, rtd_at, rta_at, qOk, qOkR, Nat.le_refl, one0, eq_self, or_true, true_or, not_true_eq_false, not_false_eq_true, true_imp_iff, false_imp_iff, true_and, and_true, Classical.not_not]
    exact hl_bad (by decide) (fun H m hP => (hE H m hP).2)
theorem xL_numberFor (x1 : Nat) (x2 : Int32) (x3 : Nat) (μ : qMM) (hp : PL_numberFor x1 x2 x3 μ) : EX (SL_numberFor (rti 1 6 (QL_numberFor x1 x2 x3 μ)) (fun _ _ _ => False)) 0 [some (.ref x1), some (.int x2), some (.ref x3), none] [] [] μ (0, 0) := by
  obtain ⟨⟨H, m, hP⟩, ha⟩ := hp
  have hx : PX8_numberFor x1 x2 μ := ⟨H, m, hP⟩
  have t8 : ∃ t, mS μ x1 = some (.inl (7, t)) := tX8 hP.1.1
  simp only [eL_numberFor_0, eL_numberFor_1, eL_numberFor_2, eL_numberFor_3, eL_numberFor_4, t8, hx, List.length_nil, List.length_cons, ll0, ll1, ll2, ll3, ll4, Nat.le_refl, and_true, Nat.zero_add, Nat.add_zero, Nat.le_refl, Nat.zero_le, one0, eq_self, or_true, true_or, not_true_eq_false, not_false_eq_true, true_imp_iff, false_imp_iff, true_and, and_true, Classical.not_not]
  refine ⟨fun r μ' q => ?_, fun E hE => ?_⟩
  · have S1 : Sm μ μ' := (q H m hP).2.2.1
    have ha' : LaP μ' x3 := LaP_Sm S1 ha
    simp only [eL_numberFor_7, eL_numberFor_8, eL_numberFor_9, eL_numberFor_12, eL_numberFor_13, eL_numberFor_14, eL_numberFor_15, eL_numberFor_16, qArr_La ha', vp01, ci0, rtv_at, rti_at, rtj_at, rtd_at, rta_at, qOk, qOkR, Nat.le_refl, one0, eq_self, or_true, true_or, not_true_eq_false, not_false_eq_true, true_imp_iff, false_imp_iff, true_and, and_true, Classical.not_not]
    exact hl_ok (fun H m hP => q H m hP)
  · have g := hE H m hP
    obtain ⟨rfl, -⟩ := g
    refine ⟨12, by decide, fun a => ?_⟩
    simp only [eL_numberFor_7, eL_numberFor_8, eL_numberFor_9, eL_numberFor_12, eL_numberFor_13, eL_numberFor_14, eL_numberFor_15, eL_numberFor_16, rtv_at, rti_at, rtj_at, rtd_at, rta_at, qOk, qOkR, Nat.le_refl, one0, eq_self, or_true, true_or, not_true_eq_false, not_false_eq_true, true_imp_iff, false_imp_iff, true_and, and_true, Classical.not_not]
    exact hl_bad (by decide) (fun H m hP => (hE H m hP).2)
theorem xL_count (x1 : Nat) (x2 : Int32) (x3 : Nat) (μ : qMM) (hp : PL_count x1 x2 x3 μ) : EX (SL_count (rti 1 6 (QL_count x1 x2 x3 μ)) (fun _ _ _ => False)) 0 [some (.ref x1), some (.int x2), some (.ref x3), none] [] [] μ (0, 0) := by
  obtain ⟨⟨H, m, hP⟩, ha⟩ := hp
  have hx : PX8_count x1 x2 μ := ⟨H, m, hP⟩
  have t8 : ∃ t, mS μ x1 = some (.inl (7, t)) := tX8 hP.1.1
  simp only [eL_count_0, eL_count_1, eL_count_2, eL_count_3, eL_count_4, t8, hx, List.length_nil, List.length_cons, ll0, ll1, ll2, ll3, ll4, Nat.le_refl, and_true, Nat.zero_add, Nat.add_zero, Nat.le_refl, Nat.zero_le, one0, eq_self, or_true, true_or, not_true_eq_false, not_false_eq_true, true_imp_iff, false_imp_iff, true_and, and_true, Classical.not_not]
  refine ⟨fun r μ' q => ?_, fun E hE => ?_⟩
  · have S1 : Sm μ μ' := (q H m hP).2.2.1
    have ha' : LaP μ' x3 := LaP_Sm S1 ha
    simp only [eL_count_7, eL_count_8, eL_count_9, eL_count_12, eL_count_13, eL_count_14, eL_count_15, eL_count_16, qArr_La ha', vp01, ci0, rtv_at, rti_at, rtj_at, rtd_at, rta_at, qOk, qOkR, Nat.le_refl, one0, eq_self, or_true, true_or, not_true_eq_false, not_false_eq_true, true_imp_iff, false_imp_iff, true_and, and_true, Classical.not_not]
    exact hl_ok (fun H m hP => q H m hP)
  · have g := hE H m hP
    obtain ⟨rfl, -⟩ := g
    refine ⟨12, by decide, fun a => ?_⟩
    simp only [eL_count_7, eL_count_8, eL_count_9, eL_count_12, eL_count_13, eL_count_14, eL_count_15, eL_count_16, rtv_at, rti_at, rtj_at, rtd_at, rta_at, qOk, qOkR, Nat.le_refl, one0, eq_self, or_true, true_or, not_true_eq_false, not_false_eq_true, true_imp_iff, false_imp_iff, true_and, and_true, Classical.not_not]
    exact hl_bad (by decide) (fun H m hP => (hE H m hP).2)
theorem xL_append (x1 : Nat) (x2 : Int32) (x3 : Nat) (μ : qMM) (hp : PL_append x1 x2 x3 μ) : EX (SL_append (rti 1 6 (QL_append x1 x2 x3 μ)) (fun _ _ _ => False)) 0 [some (.ref x1), some (.int x2), some (.ref x3), none] [] [] μ (0, 0) := by
  obtain ⟨⟨H, m, hP⟩, ha⟩ := hp
  have hx : PX8_append x1 x2 μ := ⟨H, m, hP⟩
  have t8 : ∃ t, mS μ x1 = some (.inl (7, t)) := tX8 hP.1.1
  simp only [eL_append_0, eL_append_1, eL_append_2, eL_append_3, eL_append_4, t8, hx, List.length_nil, List.length_cons, ll0, ll1, ll2, ll3, ll4, Nat.le_refl, and_true, Nat.zero_add, Nat.add_zero, Nat.le_refl, Nat.zero_le, one0, eq_self, or_true, true_or, not_true_eq_false, not_false_eq_true, true_imp_iff, false_imp_iff, true_and, and_true, Classical.not_not]
  refine ⟨fun r μ' q => ?_, fun E hE => ?_⟩
  · have S1 : Sm μ μ' := (q H m hP).2.2.1
    have ha' : LaP μ' x3 := LaP_Sm S1 ha
    simp only [eL_append_7, eL_append_8, eL_append_9, eL_append_12, eL_append_13, eL_append_14, eL_append_15, eL_append_16, eL_append_17, eL_append_18, eL_append_19, qArr_La ha', vp01, ci0, rtv_at, rti_at, rtj_at, rtd_at, rta_at, qOk, qOkR, Nat.le_refl, one0, eq_self, or_true, true_or, not_true_eq_false, not_false_eq_true, true_imp_iff, false_imp_iff, true_and, and_true, Classical.not_not]
    exact hl_ok (fun H m hP => q H m hP)
  · rcases hE H m hP with ⟨rfl, -⟩ | ⟨rfl, -⟩
    · refine ⟨12, by decide, fun a => ?_⟩
      simp only [eL_append_7, eL_append_8, eL_append_9, eL_append_12, eL_append_13, eL_append_14, eL_append_15, eL_append_16, eL_append_17, eL_append_18, eL_append_19, rtv_at, rti_at, rtj_at, rtd_at, rta_at, qOk, qOkR, Nat.le_refl, one0, eq_self, or_true, true_or, not_true_eq_false, not_false_eq_true, true_imp_iff, false_imp_iff, true_and, and_true, Classical.not_not]
      exact hl_bad (by decide) (fun H m hP => (hE H m hP).elim (fun z => z.2) (fun z => absurd z.1 (by decide)))
    · refine ⟨15, by decide, fun a => ?_⟩
      simp only [eL_append_7, eL_append_8, eL_append_9, eL_append_12, eL_append_13, eL_append_14, eL_append_15, eL_append_16, eL_append_17, eL_append_18, eL_append_19, rtv_at, rti_at, rtj_at, rtd_at, rta_at, qOk, qOkR, Nat.le_refl, one0, eq_self, or_true, true_or, not_true_eq_false, not_false_eq_true, true_imp_iff, false_imp_iff, true_and, and_true, Classical.not_not]
      exact hl_bad (by decide) (fun H m hP => (hE H m hP).elim (fun z => absurd z.1 (by decide)) (fun z => z.2))
theorem xL_undo (x1 : Nat) (x2 : Nat) (μ : qMM) (hp : PL_undo x1 x2 μ) : EX (SL_undo (rti 1 6 (QL_undo x1 x2 μ)) (fun _ _ _ => False)) 0 [some (.ref x1), some (.ref x2), none] [] [] μ (0, 0) := by
  obtain ⟨⟨H, m, hP⟩, ha⟩ := hp
  have hx : PX8_undo x1 μ := ⟨H, m, hP⟩
  have t8 : ∃ t, mS μ x1 = some (.inl (7, t)) := tX8 hP.1.1
  simp only [eL_undo_0, eL_undo_1, eL_undo_2, eL_undo_3, t8, hx, List.length_nil, List.length_cons, ll0, ll1, ll2, ll3, ll4, Nat.le_refl, and_true, Nat.zero_add, Nat.add_zero, Nat.le_refl, Nat.zero_le, one0, eq_self, or_true, true_or, not_true_eq_false, not_false_eq_true, true_imp_iff, false_imp_iff, true_and, and_true, Classical.not_not]
  refine ⟨fun r μ' q => ?_, fun E hE => ?_⟩
  · have S1 : Sm μ μ' := (q H m hP).2.2.1
    have ha' : LaP μ' x2 := LaP_Sm S1 ha
    simp only [eL_undo_6, eL_undo_7, eL_undo_8, eL_undo_11, eL_undo_12, eL_undo_13, eL_undo_14, eL_undo_15, qArr_La ha', vp01, ci0, rtv_at, rti_at, rtj_at, rtd_at, rta_at, qOk, qOkR, Nat.le_refl, one0, eq_self, or_true, true_or, not_true_eq_false, not_false_eq_true, true_imp_iff, false_imp_iff, true_and, and_true, Classical.not_not]
    exact hl_ok (fun H m hP => q H m hP)
  · have g := hE H m hP
    obtain ⟨rfl, -⟩ := g
    refine ⟨11, by decide, fun a => ?_⟩
    simp only [eL_undo_6, eL_undo_7, eL_undo_8, eL_undo_11, eL_undo_12, eL_undo_13, eL_undo_14, eL_undo_15, rtv_at, rti_at, rtj_at, rtd_at, rta_at, qOk, qOkR, Nat.le_refl, one0, eq_self, or_true, true_or, not_true_eq_false, not_false_eq_true, true_imp_iff, false_imp_iff, true_and, and_true, Classical.not_not]
    exact hl_bad (by decide) (fun H m hP => (hE H m hP).2)
