/-! ===== bodies: the helpers of the law that catch (by program) ===== -/
theorem xL_sets (x1 : Nat) (x2 : Int32) (x3 : Int32) (μ : qMM) (hp : PL_sets x1 x2 x3 μ) : EX (SL_sets (rti 1 6 (QL_sets x1 x2 x3 μ)) (fun _ _ _ => False)) 0 [some (.ref x1), some (.int x2), some (.int x3), none] [] [] μ (0, 0) := by
  obtain ⟨H, m, hP⟩ := hp
  have hx : PX8_setField x1 x2 x3 μ := ⟨H, m, hP⟩
  have t8 : ∃ t, mS μ x1 = some (.inl (7, t)) := tX8 hP.1.1
  simp only [eL_sets_0, eL_sets_1, eL_sets_2, eL_sets_3, t8, hx, List.length_nil, List.length_cons, ll0, ll1, ll2, ll3, ll4, Nat.le_refl, and_true, Nat.zero_add, Nat.add_zero, Nat.le_refl, Nat.zero_le, one0, eq_self, or_true, true_or, not_true_eq_false, not_false_eq_true, true_imp_iff, false_imp_iff, true_and, and_true, Classical.not_not]
  refine ⟨fun r μ' q => ?_, fun E hE => ?_⟩
  · simp only [eL_sets_6, eL_sets_7, eL_sets_8, eL_sets_10, eL_sets_11, eL_sets_12, eL_sets_14, rtv_at, rti_at, rtj_at, rtd_at, rta_at, qOk, qOkR, Nat.le_refl, one0, eq_self, or_true, true_or, not_true_eq_false, not_false_eq_true, true_imp_iff, false_imp_iff, true_and, and_true, Classical.not_not]
    exact fun H m hP => Or.inl (q H m hP)
  · rcases hE H m hP with ⟨rfl, -⟩ | ⟨rfl, -⟩
    · refine ⟨7, by decide, fun a => ?_⟩
      simp only [eL_sets_6, eL_sets_7, eL_sets_8, eL_sets_10, eL_sets_11, eL_sets_12, eL_sets_14, rtv_at, rti_at, rtj_at, rtd_at, rta_at, qOk, qOkR, Nat.le_refl, one0, eq_self, or_true, true_or, not_true_eq_false, not_false_eq_true, true_imp_iff, false_imp_iff, true_and, and_true, Classical.not_not]
      exact fun H m hP => (hE H m hP).elim (fun z => Or.inr (Or.inl ⟨z.2, rfl, rfl⟩)) (fun z => absurd z.1 (by decide))
    · refine ⟨11, by decide, fun a => ?_⟩
      simp only [eL_sets_6, eL_sets_7, eL_sets_8, eL_sets_10, eL_sets_11, eL_sets_12, eL_sets_14, rtv_at, rti_at, rtj_at, rtd_at, rta_at, qOk, qOkR, Nat.le_refl, one0, eq_self, or_true, true_or, not_true_eq_false, not_false_eq_true, true_imp_iff, false_imp_iff, true_and, and_true, Classical.not_not]
      exact fun H m hP => (hE H m hP).elim (fun z => absurd z.1 (by decide)) (fun z => Or.inr (Or.inr ⟨z.2, rfl, rfl⟩))
theorem xL_strides (x1 : Nat) (x2 : Int32) (x3 : Int32) (μ : qMM) (hp : PL_strides x1 x2 x3 μ) : EX (SL_strides (rti 1 6 (QL_strides x1 x2 x3 μ)) (fun _ _ _ => False)) 0 [some (.ref x1), some (.int x2), some (.int x3), none] [] [] μ (0, 0) := by
  obtain ⟨H, m, hP⟩ := hp
  have hx : PX8_setStrides x1 x2 x3 μ := ⟨H, m, hP⟩
  have t8 : ∃ t, mS μ x1 = some (.inl (7, t)) := tX8 hP.1.1
  simp only [eL_strides_0, eL_strides_1, eL_strides_2, eL_strides_3, t8, hx, List.length_nil, List.length_cons, ll0, ll1, ll2, ll3, ll4, Nat.le_refl, and_true, Nat.zero_add, Nat.add_zero, Nat.le_refl, Nat.zero_le, one0, eq_self, or_true, true_or, not_true_eq_false, not_false_eq_true, true_imp_iff, false_imp_iff, true_and, and_true, Classical.not_not]
  refine ⟨fun r μ' q => ?_, fun E hE => ?_⟩
  · simp only [eL_strides_6, eL_strides_7, eL_strides_8, eL_strides_10, rtv_at, rti_at, rtj_at, rtd_at, rta_at, qOk, qOkR, Nat.le_refl, one0, eq_self, or_true, true_or, not_true_eq_false, not_false_eq_true, true_imp_iff, false_imp_iff, true_and, and_true, Classical.not_not]
    exact fun H m hP => Or.inl (q H m hP)
  · have g := hE H m hP
    obtain ⟨rfl, -⟩ := g
    refine ⟨7, by decide, fun a => ?_⟩
    simp only [eL_strides_6, eL_strides_7, eL_strides_8, eL_strides_10, rtv_at, rti_at, rtj_at, rtd_at, rta_at, qOk, qOkR, Nat.le_refl, one0, eq_self, or_true, true_or, not_true_eq_false, not_false_eq_true, true_imp_iff, false_imp_iff, true_and, and_true, Classical.not_not]
    exact fun H m hP => Or.inr (Or.inl ⟨(hE H m hP).2, rfl, rfl⟩)
theorem xL_policies (x1 : Nat) (x2 : Int32) (x3 : Int32) (μ : qMM) (hp : PL_policies x1 x2 x3 μ) : EX (SL_policies (rti 1 6 (QL_policies x1 x2 x3 μ)) (fun _ _ _ => False)) 0 [some (.ref x1), some (.int x2), some (.int x3), none] [] [] μ (0, 0) := by
  obtain ⟨H, m, hP⟩ := hp
  have hx : PX8_setPolicy x1 x2 x3 μ := ⟨H, m, hP⟩
  have t8 : ∃ t, mS μ x1 = some (.inl (7, t)) := tX8 hP.1.1
  simp only [eL_policies_0, eL_policies_1, eL_policies_2, eL_policies_3, t8, hx, List.length_nil, List.length_cons, ll0, ll1, ll2, ll3, ll4, Nat.le_refl, and_true, Nat.zero_add, Nat.add_zero, Nat.le_refl, Nat.zero_le, one0, eq_self, or_true, true_or, not_true_eq_false, not_false_eq_true, true_imp_iff, false_imp_iff, true_and, and_true, Classical.not_not]
  refine ⟨fun r μ' q => ?_, fun E hE => ?_⟩
  · simp only [eL_policies_6, eL_policies_7, eL_policies_8, eL_policies_10, rtv_at, rti_at, rtj_at, rtd_at, rta_at, qOk, qOkR, Nat.le_refl, one0, eq_self, or_true, true_or, not_true_eq_false, not_false_eq_true, true_imp_iff, false_imp_iff, true_and, and_true, Classical.not_not]
    exact fun H m hP => Or.inl (q H m hP)
  · have g := hE H m hP
    obtain ⟨rfl, -⟩ := g
    refine ⟨7, by decide, fun a => ?_⟩
    simp only [eL_policies_6, eL_policies_7, eL_policies_8, eL_policies_10, rtv_at, rti_at, rtj_at, rtd_at, rta_at, qOk, qOkR, Nat.le_refl, one0, eq_self, or_true, true_or, not_true_eq_false, not_false_eq_true, true_imp_iff, false_imp_iff, true_and, and_true, Classical.not_not]
    exact fun H m hP => Or.inr (Or.inl ⟨(hE H m hP).2, rfl, rfl⟩)
theorem xL_sends (x1 : Nat) (μ : qMM) (hp : PL_sends x1 μ) : EX (SL_sends (rti 1 6 (QL_sends x1 μ)) (fun _ _ _ => False)) 0 [some (.ref x1), none] [] [] μ (0, 0) := by
  obtain ⟨H, m, hP⟩ := hp
  have hx : PX8_send x1 μ := ⟨H, m, hP⟩
  have t8 : ∃ t, mS μ x1 = some (.inl (7, t)) := tX8 hP.1.1
  simp only [eL_sends_0, eL_sends_1, t8, hx, List.length_nil, List.length_cons, ll0, ll1, ll2, ll3, ll4, Nat.le_refl, and_true, Nat.zero_add, Nat.add_zero, Nat.le_refl, Nat.zero_le, one0, eq_self, or_true, true_or, not_true_eq_false, not_false_eq_true, true_imp_iff, false_imp_iff, true_and, and_true, Classical.not_not]
  refine ⟨fun r μ' q => ?_, fun E hE => ?_⟩
  · simp only [eL_sends_4, eL_sends_5, eL_sends_6, eL_sends_8, rtv_at, rti_at, rtj_at, rtd_at, rta_at, qOk, qOkR, Nat.le_refl, one0, eq_self, or_true, true_or, not_true_eq_false, not_false_eq_true, true_imp_iff, false_imp_iff, true_and, and_true, Classical.not_not]
    exact fun H m hP => Or.inl (q H m hP)
  · have g := hE H m hP
    obtain ⟨rfl, -⟩ := g
    refine ⟨5, by decide, fun a => ?_⟩
    simp only [eL_sends_4, eL_sends_5, eL_sends_6, eL_sends_8, rtv_at, rti_at, rtj_at, rtd_at, rta_at, qOk, qOkR, Nat.le_refl, one0, eq_self, or_true, true_or, not_true_eq_false, not_false_eq_true, true_imp_iff, false_imp_iff, true_and, and_true, Classical.not_not]
    exact fun H m hP => Or.inr (Or.inl ⟨(hE H m hP).2, rfl, rfl⟩)
theorem xL_streams (x1 : Nat) (x2 : Int32) (μ : qMM) (hp : PL_streams x1 x2 μ) : EX (SL_streams (rti 1 6 (QL_streams x1 x2 μ)) (fun _ _ _ => False)) 0 [some (.ref x1), some (.int x2), none] [] [] μ (0, 0) := by
  obtain ⟨H, m, hP⟩ := hp
  have hx : PX8_stream x1 x2 μ := ⟨H, m, hP⟩
  have t8 : ∃ t, mS μ x1 = some (.inl (7, t)) := tX8 hP.1.1
  simp only [eL_streams_0, eL_streams_1, eL_streams_2, t8, hx, List.length_nil, List.length_cons, ll0, ll1, ll2, ll3, ll4, Nat.le_refl, and_true, Nat.zero_add, Nat.add_zero, Nat.le_refl, Nat.zero_le, one0, eq_self, or_true, true_or, not_true_eq_false, not_false_eq_true, true_imp_iff, false_imp_iff, true_and, and_true, Classical.not_not]
  refine ⟨fun r μ' q => ?_, fun E hE => ?_⟩
  · simp only [eL_streams_5, eL_streams_6, eL_streams_7, eL_streams_9, eL_streams_10, eL_streams_11, eL_streams_13, rtv_at, rti_at, rtj_at, rtd_at, rta_at, qOk, qOkR, Nat.le_refl, one0, eq_self, or_true, true_or, not_true_eq_false, not_false_eq_true, true_imp_iff, false_imp_iff, true_and, and_true, Classical.not_not]
    exact fun H m hP => Or.inl (q H m hP)
  · rcases hE H m hP with ⟨rfl, -⟩ | ⟨rfl, -⟩
    · refine ⟨6, by decide, fun a => ?_⟩
      simp only [eL_streams_5, eL_streams_6, eL_streams_7, eL_streams_9, eL_streams_10, eL_streams_11, eL_streams_13, rtv_at, rti_at, rtj_at, rtd_at, rta_at, qOk, qOkR, Nat.le_refl, one0, eq_self, or_true, true_or, not_true_eq_false, not_false_eq_true, true_imp_iff, false_imp_iff, true_and, and_true, Classical.not_not]
      exact fun H m hP => (hE H m hP).elim (fun z => Or.inr (Or.inl ⟨z.2, rfl, rfl⟩)) (fun z => absurd z.1 (by decide))
    · refine ⟨10, by decide, fun a => ?_⟩
      simp only [eL_streams_5, eL_streams_6, eL_streams_7, eL_streams_9, eL_streams_10, eL_streams_11, eL_streams_13, rtv_at, rti_at, rtj_at, rtd_at, rta_at, qOk, qOkR, Nat.le_refl, one0, eq_self, or_true, true_or, not_true_eq_false, not_false_eq_true, true_imp_iff, false_imp_iff, true_and, and_true, Classical.not_not]
      exact fun H m hP => (hE H m hP).elim (fun z => absurd z.1 (by decide)) (fun z => Or.inr (Or.inr ⟨z.2, rfl, rfl⟩))
theorem xL_fieldOf (x1 : Nat) (x2 : Int32) (μ : qMM) (hp : PL_fieldOf x1 x2 μ) : EX (SL_fieldOf (rti 1 6 (QL_fieldOf x1 x2 μ)) (fun _ _ _ => False)) 0 [some (.ref x1), some (.int x2), none] [] [] μ (0, 0) := by
  obtain ⟨H, m, hP⟩ := hp
  have hx : PX8_field x1 x2 μ := ⟨H, m, hP⟩
  have t8 : ∃ t, mS μ x1 = some (.inl (7, t)) := tX8 hP.1.1
  simp only [eL_fieldOf_0, eL_fieldOf_1, eL_fieldOf_2, t8, hx, List.length_nil, List.length_cons, ll0, ll1, ll2, ll3, ll4, Nat.le_refl, and_true, Nat.zero_add, Nat.add_zero, Nat.le_refl, Nat.zero_le, one0, eq_self, or_true, true_or, not_true_eq_false, not_false_eq_true, true_imp_iff, false_imp_iff, true_and, and_true, Classical.not_not]
  refine ⟨fun r μ' q => ?_, fun E hE => ?_⟩
  · simp only [eL_fieldOf_5, eL_fieldOf_6, eL_fieldOf_7, eL_fieldOf_9, rtv_at, rti_at, rtj_at, rtd_at, rta_at, qOk, qOkR, Nat.le_refl, one0, eq_self, or_true, true_or, not_true_eq_false, not_false_eq_true, true_imp_iff, false_imp_iff, true_and, and_true, Classical.not_not]
    exact fun H m hP => Or.inl (q H m hP)
  · have g := hE H m hP
    obtain ⟨rfl, -⟩ := g
    refine ⟨6, by decide, fun a => ?_⟩
    simp only [eL_fieldOf_5, eL_fieldOf_6, eL_fieldOf_7, eL_fieldOf_9, rtv_at, rti_at, rtj_at, rtd_at, rta_at, qOk, qOkR, Nat.le_refl, one0, eq_self, or_true, true_or, not_true_eq_false, not_false_eq_true, true_imp_iff, false_imp_iff, true_and, and_true, Classical.not_not]
    exact fun H m hP => Or.inr (Or.inl ⟨(hE H m hP).2, rfl, rfl⟩)
theorem xL_sizeBy (x1 : Nat) (x2 : Int32) (x3 : Int32) (μ : qMM) (hp : PL_sizeBy x1 x2 x3 μ) : EX (SL_sizeBy (rti 1 6 (QL_sizeBy x1 x2 x3 μ)) (fun _ _ _ => False)) 0 [some (.ref x1), some (.int x2), some (.int x3), none] [] [] μ (0, 0) := by
  obtain ⟨H, m, hP⟩ := hp
  have hx : PX8_sizeWith x1 x2 x3 μ := ⟨H, m, hP⟩
  have t8 : ∃ t, mS μ x1 = some (.inl (7, t)) := tX8 hP.1.1
  simp only [eL_sizeBy_0, eL_sizeBy_1, eL_sizeBy_2, eL_sizeBy_3, t8, hx, List.length_nil, List.length_cons, ll0, ll1, ll2, ll3, ll4, Nat.le_refl, and_true, Nat.zero_add, Nat.add_zero, Nat.le_refl, Nat.zero_le, one0, eq_self, or_true, true_or, not_true_eq_false, not_false_eq_true, true_imp_iff, false_imp_iff, true_and, and_true, Classical.not_not]
  refine ⟨fun r μ' q => ?_, fun E hE => ?_⟩
  · simp only [eL_sizeBy_6, eL_sizeBy_7, eL_sizeBy_8, eL_sizeBy_10, rtv_at, rti_at, rtj_at, rtd_at, rta_at, qOk, qOkR, Nat.le_refl, one0, eq_self, or_true, true_or, not_true_eq_false, not_false_eq_true, true_imp_iff, false_imp_iff, true_and, and_true, Classical.not_not]
    exact fun H m hP => Or.inl (q H m hP)
  · have g := hE H m hP
    obtain ⟨rfl, -⟩ := g
    refine ⟨7, by decide, fun a => ?_⟩
    simp only [eL_sizeBy_6, eL_sizeBy_7, eL_sizeBy_8, eL_sizeBy_10, rtv_at, rti_at, rtj_at, rtd_at, rta_at, qOk, qOkR, Nat.le_refl, one0, eq_self, or_true, true_or, not_true_eq_false, not_false_eq_true, true_imp_iff, false_imp_iff, true_and, and_true, Classical.not_not]
    exact fun H m hP => Or.inr (Or.inl ⟨(hE H m hP).2, rfl, rfl⟩)
theorem xL_sentOf (x1 : Nat) (x2 : Int32) (x3 : Int32) (μ : qMM) (hp : PL_sentOf x1 x2 x3 μ) : EX (SL_sentOf (rti 1 6 (QL_sentOf x1 x2 x3 μ)) (fun _ _ _ => False)) 0 [some (.ref x1), some (.int x2), some (.int x3), none] [] [] μ (0, 0) := by
  obtain ⟨H, m, hP⟩ := hp
  have hx : PX8_sent x1 x2 x3 μ := ⟨H, m, hP⟩
  have t8 : ∃ t, mS μ x1 = some (.inl (7, t)) := tX8 hP.1.1
  simp only [eL_sentOf_0, eL_sentOf_1, eL_sentOf_2, eL_sentOf_3, t8, hx, List.length_nil, List.length_cons, ll0, ll1, ll2, ll3, ll4, Nat.le_refl, and_true, Nat.zero_add, Nat.add_zero, Nat.le_refl, Nat.zero_le, one0, eq_self, or_true, true_or, not_true_eq_false, not_false_eq_true, true_imp_iff, false_imp_iff, true_and, and_true, Classical.not_not]
  refine ⟨fun r μ' q => ?_, fun E hE => ?_⟩
  · simp only [eL_sentOf_6, eL_sentOf_7, eL_sentOf_8, eL_sentOf_10, eL_sentOf_11, eL_sentOf_12, eL_sentOf_14, rtv_at, rti_at, rtj_at, rtd_at, rta_at, qOk, qOkR, Nat.le_refl, one0, eq_self, or_true, true_or, not_true_eq_false, not_false_eq_true, true_imp_iff, false_imp_iff, true_and, and_true, Classical.not_not]
    exact fun H m hP => Or.inl (q H m hP)
  · rcases hE H m hP with ⟨rfl, -⟩ | ⟨rfl, -⟩
    · refine ⟨7, by decide, fun a => ?_⟩
      simp only [eL_sentOf_6, eL_sentOf_7, eL_sentOf_8, eL_sentOf_10, eL_sentOf_11, eL_sentOf_12, eL_sentOf_14, rtv_at, rti_at, rtj_at, rtd_at, rta_at, qOk, qOkR, Nat.le_refl, one0, eq_self, or_true, true_or, not_true_eq_false, not_false_eq_true, true_imp_iff, false_imp_iff, true_and, and_true, Classical.not_not]
      exact fun H m hP => (hE H m hP).elim (fun z => Or.inr (Or.inl ⟨z.2, rfl, rfl⟩)) (fun z => absurd z.1 (by decide))
    · refine ⟨11, by decide, fun a => ?_⟩
      simp only [eL_sentOf_6, eL_sentOf_7, eL_sentOf_8, eL_sentOf_10, eL_sentOf_11, eL_sentOf_12, eL_sentOf_14, rtv_at, rti_at, rtj_at, rtd_at, rta_at, qOk, qOkR, Nat.le_refl, one0, eq_self, or_true, true_or, not_true_eq_false, not_false_eq_true, true_imp_iff, false_imp_iff, true_and, and_true, Classical.not_not]
      exact fun H m hP => (hE H m hP).elim (fun z => absurd z.1 (by decide)) (fun z => Or.inr (Or.inr ⟨z.2, rfl, rfl⟩))
theorem xL_delivers (x1 : Nat) (x2 : Int32) (μ : qMM) (hp : PL_delivers x1 x2 μ) : EX (SL_delivers (rti 1 6 (QL_delivers x1 x2 μ)) (fun _ _ _ => False)) 0 [some (.ref x1), some (.int x2), none] [] [] μ (0, 0) := by
  obtain ⟨H, m, hP⟩ := hp
  have hx : PX8_deliver x1 x2 μ := ⟨H, m, hP⟩
  have t8 : ∃ t, mS μ x1 = some (.inl (7, t)) := tX8 hP.1.1
  simp only [eL_delivers_0, eL_delivers_1, eL_delivers_2, t8, hx, List.length_nil, List.length_cons, ll0, ll1, ll2, ll3, ll4, Nat.le_refl, and_true, Nat.zero_add, Nat.add_zero, Nat.le_refl, Nat.zero_le, one0, eq_self, or_true, true_or, not_true_eq_false, not_false_eq_true, true_imp_iff, false_imp_iff, true_and, and_true, Classical.not_not]
  refine ⟨fun r μ' q => ?_, fun E hE => ?_⟩
  · simp only [eL_delivers_5, eL_delivers_6, eL_delivers_7, eL_delivers_9, rtv_at, rti_at, rtj_at, rtd_at, rta_at, qOk, qOkR, Nat.le_refl, one0, eq_self, or_true, true_or, not_true_eq_false, not_false_eq_true, true_imp_iff, false_imp_iff, true_and, and_true, Classical.not_not]
    exact fun H m hP => Or.inl (q H m hP)
  · have g := hE H m hP
    obtain ⟨rfl, -⟩ := g
    refine ⟨6, by decide, fun a => ?_⟩
    simp only [eL_delivers_5, eL_delivers_6, eL_delivers_7, eL_delivers_9, rtv_at, rti_at, rtj_at, rtd_at, rta_at, qOk, qOkR, Nat.le_refl, one0, eq_self, or_true, true_or, not_true_eq_false, not_false_eq_true, true_imp_iff, false_imp_iff, true_and, and_true, Classical.not_not]
    exact fun H m hP => Or.inr (Or.inl ⟨(hE H m hP).2, rfl, rfl⟩)
theorem xL_loses (x1 : Nat) (x2 : Int32) (μ : qMM) (hp : PL_loses x1 x2 μ) : EX (SL_loses (rti 1 6 (QL_loses x1 x2 μ)) (fun _ _ _ => False)) 0 [some (.ref x1), some (.int x2), none] [] [] μ (0, 0) := by
  obtain ⟨H, m, hP⟩ := hp
  have hx : PX8_lose x1 x2 μ := ⟨H, m, hP⟩
  have t8 : ∃ t, mS μ x1 = some (.inl (7, t)) := tX8 hP.1.1
  simp only [eL_loses_0, eL_loses_1, eL_loses_2, t8, hx, List.length_nil, List.length_cons, ll0, ll1, ll2, ll3, ll4, Nat.le_refl, and_true, Nat.zero_add, Nat.add_zero, Nat.le_refl, Nat.zero_le, one0, eq_self, or_true, true_or, not_true_eq_false, not_false_eq_true, true_imp_iff, false_imp_iff, true_and, and_true, Classical.not_not]
  refine ⟨fun r μ' q => ?_, fun E hE => ?_⟩
  · simp only [eL_loses_5, eL_loses_6, eL_loses_7, eL_loses_9, rtv_at, rti_at, rtj_at, rtd_at, rta_at, qOk, qOkR, Nat.le_refl, one0, eq_self, or_true, true_or, not_true_eq_false, not_false_eq_true, true_imp_iff, false_imp_iff, true_and, and_true, Classical.not_not]
    exact fun H m hP => Or.inl (q H m hP)
  · have g := hE H m hP
    obtain ⟨rfl, -⟩ := g
    refine ⟨6, by decide, fun a => ?_⟩
    simp only [eL_loses_5, eL_loses_6, eL_loses_7, eL_loses_9, rtv_at, rti_at, rtj_at, rtd_at, rta_at, qOk, qOkR, Nat.le_refl, one0, eq_self, or_true, true_or, not_true_eq_false, not_false_eq_true, true_imp_iff, false_imp_iff, true_and, and_true, Classical.not_not]
    exact fun H m hP => Or.inr (Or.inl ⟨(hE H m hP).2, rfl, rfl⟩)
theorem xL_copies (x1 : Nat) (x2 : Int32) (μ : qMM) (hp : PL_copies x1 x2 μ) : EX (SL_copies (rti 1 6 (QL_copies x1 x2 μ)) (fun _ _ _ => False)) 0 [some (.ref x1), some (.int x2), none] [] [] μ (0, 0) := by
  obtain ⟨H, m, hP⟩ := hp
  have hx : PX8_copy x1 x2 μ := ⟨H, m, hP⟩
  have t8 : ∃ t, mS μ x1 = some (.inl (7, t)) := tX8 hP.1.1
  simp only [eL_copies_0, eL_copies_1, eL_copies_2, t8, hx, List.length_nil, List.length_cons, ll0, ll1, ll2, ll3, ll4, Nat.le_refl, and_true, Nat.zero_add, Nat.add_zero, Nat.le_refl, Nat.zero_le, one0, eq_self, or_true, true_or, not_true_eq_false, not_false_eq_true, true_imp_iff, false_imp_iff, true_and, and_true, Classical.not_not]
  refine ⟨fun r μ' q => ?_, fun E hE => ?_⟩
  · simp only [eL_copies_5, eL_copies_6, eL_copies_7, eL_copies_9, eL_copies_10, eL_copies_11, eL_copies_13, rtv_at, rti_at, rtj_at, rtd_at, rta_at, qOk, qOkR, Nat.le_refl, one0, eq_self, or_true, true_or, not_true_eq_false, not_false_eq_true, true_imp_iff, false_imp_iff, true_and, and_true, Classical.not_not]
    exact fun H m hP => Or.inl (q H m hP)
  · rcases hE H m hP with ⟨rfl, -⟩ | ⟨rfl, -⟩
    · refine ⟨6, by decide, fun a => ?_⟩
      simp only [eL_copies_5, eL_copies_6, eL_copies_7, eL_copies_9, eL_copies_10, eL_copies_11, eL_copies_13, rtv_at, rti_at, rtj_at, rtd_at, rta_at, qOk, qOkR, Nat.le_refl, one0, eq_self, or_true, true_or, not_true_eq_false, not_false_eq_true, true_imp_iff, false_imp_iff, true_and, and_true, Classical.not_not]
      exact fun H m hP => (hE H m hP).elim (fun z => Or.inr (Or.inl ⟨z.2, rfl, rfl⟩)) (fun z => absurd z.1 (by decide))
    · refine ⟨10, by decide, fun a => ?_⟩
      simp only [eL_copies_5, eL_copies_6, eL_copies_7, eL_copies_9, eL_copies_10, eL_copies_11, eL_copies_13, rtv_at, rti_at, rtj_at, rtd_at, rta_at, qOk, qOkR, Nat.le_refl, one0, eq_self, or_true, true_or, not_true_eq_false, not_false_eq_true, true_imp_iff, false_imp_iff, true_and, and_true, Classical.not_not]
      exact fun H m hP => (hE H m hP).elim (fun z => absurd z.1 (by decide)) (fun z => Or.inr (Or.inr ⟨z.2, rfl, rfl⟩))
theorem xL_returns (x1 : Nat) (x2 : Int32) (μ : qMM) (hp : PL_returns x1 x2 μ) : EX (SL_returns (rti 1 6 (QL_returns x1 x2 μ)) (fun _ _ _ => False)) 0 [some (.ref x1), some (.int x2), none] [] [] μ (0, 0) := by
  obtain ⟨H, m, hP⟩ := hp
  have hx : PX8_deliverBack x1 x2 μ := ⟨H, m, hP⟩
  have t8 : ∃ t, mS μ x1 = some (.inl (7, t)) := tX8 hP.1.1
  simp only [eL_returns_0, eL_returns_1, eL_returns_2, t8, hx, List.length_nil, List.length_cons, ll0, ll1, ll2, ll3, ll4, Nat.le_refl, and_true, Nat.zero_add, Nat.add_zero, Nat.le_refl, Nat.zero_le, one0, eq_self, or_true, true_or, not_true_eq_false, not_false_eq_true, true_imp_iff, false_imp_iff, true_and, and_true, Classical.not_not]
  refine ⟨fun r μ' q => ?_, fun E hE => ?_⟩
  · simp only [eL_returns_5, eL_returns_6, eL_returns_7, eL_returns_9, rtv_at, rti_at, rtj_at, rtd_at, rta_at, qOk, qOkR, Nat.le_refl, one0, eq_self, or_true, true_or, not_true_eq_false, not_false_eq_true, true_imp_iff, false_imp_iff, true_and, and_true, Classical.not_not]
    exact fun H m hP => Or.inl (q H m hP)
  · have g := hE H m hP
    obtain ⟨rfl, -⟩ := g
    refine ⟨6, by decide, fun a => ?_⟩
    simp only [eL_returns_5, eL_returns_6, eL_returns_7, eL_returns_9, rtv_at, rti_at, rtj_at, rtd_at, rta_at, qOk, qOkR, Nat.le_refl, one0, eq_self, or_true, true_or, not_true_eq_false, not_false_eq_true, true_imp_iff, false_imp_iff, true_and, and_true, Classical.not_not]
    exact fun H m hP => Or.inr (Or.inl ⟨(hE H m hP).2, rfl, rfl⟩)
theorem xL_losesBack (x1 : Nat) (x2 : Int32) (μ : qMM) (hp : PL_losesBack x1 x2 μ) : EX (SL_losesBack (rti 1 6 (QL_losesBack x1 x2 μ)) (fun _ _ _ => False)) 0 [some (.ref x1), some (.int x2), none] [] [] μ (0, 0) := by
  obtain ⟨H, m, hP⟩ := hp
  have hx : PX8_loseBack x1 x2 μ := ⟨H, m, hP⟩
  have t8 : ∃ t, mS μ x1 = some (.inl (7, t)) := tX8 hP.1.1
  simp only [eL_losesBack_0, eL_losesBack_1, eL_losesBack_2, t8, hx, List.length_nil, List.length_cons, ll0, ll1, ll2, ll3, ll4, Nat.le_refl, and_true, Nat.zero_add, Nat.add_zero, Nat.le_refl, Nat.zero_le, one0, eq_self, or_true, true_or, not_true_eq_false, not_false_eq_true, true_imp_iff, false_imp_iff, true_and, and_true, Classical.not_not]
  refine ⟨fun r μ' q => ?_, fun E hE => ?_⟩
  · simp only [eL_losesBack_5, eL_losesBack_6, eL_losesBack_7, eL_losesBack_9, rtv_at, rti_at, rtj_at, rtd_at, rta_at, qOk, qOkR, Nat.le_refl, one0, eq_self, or_true, true_or, not_true_eq_false, not_false_eq_true, true_imp_iff, false_imp_iff, true_and, and_true, Classical.not_not]
    exact fun H m hP => Or.inl (q H m hP)
  · have g := hE H m hP
    obtain ⟨rfl, -⟩ := g
    refine ⟨6, by decide, fun a => ?_⟩
    simp only [eL_losesBack_5, eL_losesBack_6, eL_losesBack_7, eL_losesBack_9, rtv_at, rti_at, rtj_at, rtd_at, rta_at, qOk, qOkR, Nat.le_refl, one0, eq_self, or_true, true_or, not_true_eq_false, not_false_eq_true, true_imp_iff, false_imp_iff, true_and, and_true, Classical.not_not]
    exact fun H m hP => Or.inr (Or.inl ⟨(hE H m hP).2, rfl, rfl⟩)
theorem xL_waits (x1 : Nat) (x2 : Int32) (x3 : Int32) (μ : qMM) (hp : PL_waits x1 x2 x3 μ) : EX (SL_waits (rti 1 6 (QL_waits x1 x2 x3 μ)) (fun _ _ _ => False)) 0 [some (.ref x1), some (.int x2), some (.int x3), none] [] [] μ (0, 0) := by
  obtain ⟨H, m, hP⟩ := hp
  have hx : PX8_waitingAt x1 x2 x3 μ := ⟨H, m, hP⟩
  have t8 : ∃ t, mS μ x1 = some (.inl (7, t)) := tX8 hP.1.1
  simp only [eL_waits_0, eL_waits_1, eL_waits_2, eL_waits_3, t8, hx, List.length_nil, List.length_cons, ll0, ll1, ll2, ll3, ll4, Nat.le_refl, and_true, Nat.zero_add, Nat.add_zero, Nat.le_refl, Nat.zero_le, one0, eq_self, or_true, true_or, not_true_eq_false, not_false_eq_true, true_imp_iff, false_imp_iff, true_and, and_true, Classical.not_not]
  refine ⟨fun r μ' q => ?_, fun E hE => ?_⟩
  · simp only [eL_waits_6, eL_waits_7, eL_waits_8, eL_waits_10, rtv_at, rti_at, rtj_at, rtd_at, rta_at, qOk, qOkR, Nat.le_refl, one0, eq_self, or_true, true_or, not_true_eq_false, not_false_eq_true, true_imp_iff, false_imp_iff, true_and, and_true, Classical.not_not]
    exact fun H m hP => Or.inl (q H m hP)
  · have g := hE H m hP
    obtain ⟨rfl, -⟩ := g
    refine ⟨7, by decide, fun a => ?_⟩
    simp only [eL_waits_6, eL_waits_7, eL_waits_8, eL_waits_10, rtv_at, rti_at, rtj_at, rtd_at, rta_at, qOk, qOkR, Nat.le_refl, one0, eq_self, or_true, true_or, not_true_eq_false, not_false_eq_true, true_imp_iff, false_imp_iff, true_and, and_true, Classical.not_not]
    exact fun H m hP => Or.inr (Or.inl ⟨(hE H m hP).2, rfl, rfl⟩)
theorem xL_receivers (x1 : Nat) (x2 : Int32) (x3 : Int32) (x4 : Int32) (μ : qMM) (hp : PL_receivers x1 x2 x3 x4 μ) : EX (SL_receivers (rti 1 6 (QL_receivers x1 x2 x3 x4 μ)) (fun _ _ _ => False)) 0 [some (.ref x1), some (.int x2), some (.int x3), some (.int x4), none] [] [] μ (0, 0) := by
  obtain ⟨H, m, hP⟩ := hp
  have hx : PX8_setReceiver x1 x2 x3 x4 μ := ⟨H, m, hP⟩
  have t8 : ∃ t, mS μ x1 = some (.inl (7, t)) := tX8 hP.1.1
  simp only [eL_receivers_0, eL_receivers_1, eL_receivers_2, eL_receivers_3, eL_receivers_4, t8, hx, List.length_nil, List.length_cons, ll0, ll1, ll2, ll3, ll4, Nat.le_refl, and_true, Nat.zero_add, Nat.add_zero, Nat.le_refl, Nat.zero_le, one0, eq_self, or_true, true_or, not_true_eq_false, not_false_eq_true, true_imp_iff, false_imp_iff, true_and, and_true, Classical.not_not]
  refine ⟨fun r μ' q => ?_, fun E hE => ?_⟩
  · simp only [eL_receivers_7, eL_receivers_8, eL_receivers_10, eL_receivers_12, rtv_at, rti_at, rtj_at, rtd_at, rta_at, qOk, qOkR, Nat.le_refl, one0, eq_self, or_true, true_or, not_true_eq_false, not_false_eq_true, true_imp_iff, false_imp_iff, true_and, and_true, Classical.not_not]
    exact fun H m hP => Or.inl (q H m hP)
  · have g := hE H m hP
    obtain ⟨rfl, -⟩ := g
    refine ⟨8, by decide, fun a => ?_⟩
    simp only [eL_receivers_7, eL_receivers_8, eL_receivers_10, eL_receivers_12, rtv_at, rti_at, rtj_at, rtd_at, rta_at, qOk, qOkR, Nat.le_refl, one0, eq_self, or_true, true_or, not_true_eq_false, not_false_eq_true, true_imp_iff, false_imp_iff, true_and, and_true, Classical.not_not]
    exact fun H m hP => Or.inr (Or.inl ⟨(hE H m hP).2, rfl, rfl⟩)
theorem xL_recordOf (x1 : Nat) (x2 : Int32) (x3 : Int32) (μ : qMM) (hp : PL_recordOf x1 x2 x3 μ) : EX (SL_recordOf (rti 1 6 (QL_recordOf x1 x2 x3 μ)) (fun _ _ _ => False)) 0 [some (.ref x1), some (.int x2), some (.int x3), none] [] [] μ (0, 0) := by
  obtain ⟨H, m, hP⟩ := hp
  have hx : PX8_record x1 x2 x3 μ := ⟨H, m, hP⟩
  have t8 : ∃ t, mS μ x1 = some (.inl (7, t)) := tX8 hP.1.1
  simp only [eL_recordOf_0, eL_recordOf_1, eL_recordOf_2, eL_recordOf_3, t8, hx, List.length_nil, List.length_cons, ll0, ll1, ll2, ll3, ll4, Nat.le_refl, and_true, Nat.zero_add, Nat.add_zero, Nat.le_refl, Nat.zero_le, one0, eq_self, or_true, true_or, not_true_eq_false, not_false_eq_true, true_imp_iff, false_imp_iff, true_and, and_true, Classical.not_not]
  refine ⟨fun r μ' q => ?_, fun E hE => ?_⟩
  · simp only [eL_recordOf_6, eL_recordOf_7, eL_recordOf_8, eL_recordOf_10, rtv_at, rti_at, rtj_at, rtd_at, rta_at, qOk, qOkR, Nat.le_refl, one0, eq_self, or_true, true_or, not_true_eq_false, not_false_eq_true, true_imp_iff, false_imp_iff, true_and, and_true, Classical.not_not]
    exact fun H m hP => Or.inl (q H m hP)
  · have g := hE H m hP
    obtain ⟨rfl, -⟩ := g
    refine ⟨7, by decide, fun a => ?_⟩
    simp only [eL_recordOf_6, eL_recordOf_7, eL_recordOf_8, eL_recordOf_10, rtv_at, rti_at, rtj_at, rtd_at, rta_at, qOk, qOkR, Nat.le_refl, one0, eq_self, or_true, true_or, not_true_eq_false, not_false_eq_true, true_imp_iff, false_imp_iff, true_and, and_true, Classical.not_not]
    exact fun H m hP => Or.inr (Or.inl ⟨(hE H m hP).2, rfl, rfl⟩)
theorem xL_numberOf (x1 : Nat) (x2 : Int32) (μ : qMM) (hp : PL_numberOf x1 x2 μ) : EX (SL_numberOf (rti 1 6 (QL_numberOf x1 x2 μ)) (fun _ _ _ => False)) 0 [some (.ref x1), some (.int x2), none] [] [] μ (0, 0) := by
  obtain ⟨H, m, hP⟩ := hp
  have hx : PX8_numberFor x1 x2 μ := ⟨H, m, hP⟩
  have t8 : ∃ t, mS μ x1 = some (.inl (7, t)) := tX8 hP.1.1
  simp only [eL_numberOf_0, eL_numberOf_1, eL_numberOf_2, t8, hx, List.length_nil, List.length_cons, ll0, ll1, ll2, ll3, ll4, Nat.le_refl, and_true, Nat.zero_add, Nat.add_zero, Nat.le_refl, Nat.zero_le, one0, eq_self, or_true, true_or, not_true_eq_false, not_false_eq_true, true_imp_iff, false_imp_iff, true_and, and_true, Classical.not_not]
  refine ⟨fun r μ' q => ?_, fun E hE => ?_⟩
  · simp only [eL_numberOf_5, eL_numberOf_6, eL_numberOf_7, eL_numberOf_9, rtv_at, rti_at, rtj_at, rtd_at, rta_at, qOk, qOkR, Nat.le_refl, one0, eq_self, or_true, true_or, not_true_eq_false, not_false_eq_true, true_imp_iff, false_imp_iff, true_and, and_true, Classical.not_not]
    exact fun H m hP => Or.inl (q H m hP)
  · have g := hE H m hP
    obtain ⟨rfl, -⟩ := g
    refine ⟨6, by decide, fun a => ?_⟩
    simp only [eL_numberOf_5, eL_numberOf_6, eL_numberOf_7, eL_numberOf_9, rtv_at, rti_at, rtj_at, rtd_at, rta_at, qOk, qOkR, Nat.le_refl, one0, eq_self, or_true, true_or, not_true_eq_false, not_false_eq_true, true_imp_iff, false_imp_iff, true_and, and_true, Classical.not_not]
    exact fun H m hP => Or.inr (Or.inl ⟨(hE H m hP).2, rfl, rfl⟩)
theorem xL_countOf (x1 : Nat) (x2 : Int32) (μ : qMM) (hp : PL_countOf x1 x2 μ) : EX (SL_countOf (rti 1 6 (QL_countOf x1 x2 μ)) (fun _ _ _ => False)) 0 [some (.ref x1), some (.int x2), none] [] [] μ (0, 0) := by
  obtain ⟨H, m, hP⟩ := hp
  have hx : PX8_count x1 x2 μ := ⟨H, m, hP⟩
  have t8 : ∃ t, mS μ x1 = some (.inl (7, t)) := tX8 hP.1.1
  simp only [eL_countOf_0, eL_countOf_1, eL_countOf_2, t8, hx, List.length_nil, List.length_cons, ll0, ll1, ll2, ll3, ll4, Nat.le_refl, and_true, Nat.zero_add, Nat.add_zero, Nat.le_refl, Nat.zero_le, one0, eq_self, or_true, true_or, not_true_eq_false, not_false_eq_true, true_imp_iff, false_imp_iff, true_and, and_true, Classical.not_not]
  refine ⟨fun r μ' q => ?_, fun E hE => ?_⟩
  · simp only [eL_countOf_5, eL_countOf_6, eL_countOf_7, eL_countOf_9, rtv_at, rti_at, rtj_at, rtd_at, rta_at, qOk, qOkR, Nat.le_refl, one0, eq_self, or_true, true_or, not_true_eq_false, not_false_eq_true, true_imp_iff, false_imp_iff, true_and, and_true, Classical.not_not]
    exact fun H m hP => Or.inl (q H m hP)
  · have g := hE H m hP
    obtain ⟨rfl, -⟩ := g
    refine ⟨6, by decide, fun a => ?_⟩
    simp only [eL_countOf_5, eL_countOf_6, eL_countOf_7, eL_countOf_9, rtv_at, rti_at, rtj_at, rtd_at, rta_at, qOk, qOkR, Nat.le_refl, one0, eq_self, or_true, true_or, not_true_eq_false, not_false_eq_true, true_imp_iff, false_imp_iff, true_and, and_true, Classical.not_not]
    exact fun H m hP => Or.inr (Or.inl ⟨(hE H m hP).2, rfl, rfl⟩)
