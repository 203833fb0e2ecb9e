/-! ===== bodies: constructors ===== -/
theorem xX0_init (o : Nat) (μ : qMM) (ht : ∃ t, mS μ o = some (.inl (0, t))) (hp : PX0_init o μ) : EX (SX0_init (rtv 1 20 (QX0_init o μ)) (fun _ _ _ => False)) 0 [some (.ref o)] [] [] μ (0, 0) := by
  obtain ⟨h1, h2, h3⟩ := hp
  have hx : ∃ t, mS μ o = some t := ⟨_, h1⟩
  simp only [eX0_init_0, eX0_init_1, eX0_init_4, eX0_init_5, eX0_init_7, eX0_init_9, eX0_init_12, eX0_init_13, eX0_init_14, eX0_init_17, hx, qNwA_at h2 (show ¬ (20 : Int32) < 0 by decide) (show (20 : Int32).toNatClampNeg = 20 by decide) (by decide), List.length_nil, List.length_cons, ll0, ll1, ll2, ll3, ll4, Nat.le_refl, and_true, one0, eq_self, or_true, true_or, not_true_eq_false, not_false_eq_true, true_imp_iff, false_imp_iff, true_and, and_true, Classical.not_not]
  simp [qPut, qOkR, qOk, mS_mk1, mS_wT, mS_wI, h1, rtv_at]
  refine ⟨⟨?_, fun b hb => ?_⟩, ⟨?_, ?_⟩, ?_, ?_⟩
  · simp [mN_wI, mN_wT, mN_mk1]
  · have b1 : b ≠ o := by omega
    have b2 : b ≠ o + 1 := by omega
    simp [wI_def, mS_wR, mS_wT, mS_mk1, mI_wR, mI_wT, mI_mk1, mJ_wR, mJ_wT, mJ_mk1, b1, b2]
  · unfold obX0
    simp [wI_def, mS_wR, mS_wT, mS_mk1]
  · unfold iA
    simp [wI_def, mS_wR, mS_wT, mS_mk1]
  · funext k
    simp [wI_def, mI_wR, mI_wT, mI_mk1, h3, updE, zI]
  · funext k
    simp [wI_def, mI_wR, mI_wT, mI_mk1, h3, updE, zI]
theorem xX4_init (o : Nat) (μ : qMM) (ht : ∃ t, mS μ o = some (.inl (3, t))) (hp : PX4_init o μ) : EX (SX4_init (rtv 3 200 (QX4_init o μ)) (fun _ _ _ => False)) 0 [some (.ref o)] [] [] μ (0, 0) := by
  obtain ⟨h1, h2, h3⟩ := hp
  have hx : ∃ t, mS μ o = some t := ⟨_, h1⟩
  simp [eX4_init_0, eX4_init_1, eX4_init_4, eX4_init_5, eX4_init_7, eX4_init_9, eX4_init_12, eX4_init_13, eX4_init_14, eX4_init_17, eX4_init_18, eX4_init_20, eX4_init_22, eX4_init_25, eX4_init_26, eX4_init_28, eX4_init_30, eX4_init_33, eX4_init_34, eX4_init_35, eX4_init_38, hx, h1, h2, Nat.add_assoc, qNwA, qNwM, qPut, qOkR, qOk, mS_mk1, mS_wT, mS_wI, mS_wR, mS_mkM, mN_mk1, mN_wT, mN_wI, mN_wR, mN_mkM, rtv_at, (show ¬ (4 : Int32) < 0 by decide), (show (4 : Int32).toNatClampNeg = 4 by decide), (show ¬ (6 : Int32) < 0 by decide), (show (6 : Int32).toNatClampNeg = 6 by decide), (show ¬ (20 : Int32) < 0 by decide), (show (20 : Int32).toNatClampNeg = 20 by decide), (show ¬ (50 : Int32) < 0 by decide), (show (50 : Int32).toNatClampNeg = 50 by decide), (show ¬ (64 : Int32) < 0 by decide), (show (64 : Int32).toNatClampNeg = 64 by decide), (show ¬ (100 : Int32) < 0 by decide), (show (100 : Int32).toNatClampNeg = 100 by decide), (show ¬ (500 : Int32) < 0 by decide), (show (500 : Int32).toNatClampNeg = 500 by decide), (show ¬ (5514 : Int32) < 0 by decide), (show (5514 : Int32).toNatClampNeg = 5514 by decide), (show ¬ (22056 : Int32) < 0 by decide), (show (22056 : Int32).toNatClampNeg = 22056 by decide)]
  refine ⟨⟨?_, fun b hb => ?_⟩, ⟨?_, ?_, ?_, ?_⟩, ?_, fun b b1 b2 => ?_⟩
  · simp [Nat.add_assoc, wI_def, mS_wR, mS_wT, mS_mk1, mS_mkM, mI_wR, mI_wT, mI_mk1, mI_mkM, mJ_wR, mJ_wT, mJ_mk1, mJ_mkM, mN_wR, mN_wT, mN_mk1, mN_mkM]
  · have b1 : b ≠ o := by omega
    have b2 : b ≠ o + 1 := by omega
    have b3 : b ≠ o + 2 := by omega
    have b4 : b ≠ o + 3 := by omega
    simp [Nat.add_assoc, wI_def, mS_wR, mS_wT, mS_mk1, mS_mkM, mI_wR, mI_wT, mI_mk1, mI_mkM, mJ_wR, mJ_wT, mJ_mk1, mJ_mkM, mN_wR, mN_wT, mN_mk1, mN_mkM, b1, b2, b3, b4]
  · unfold obX4
    simp [Nat.add_assoc, wI_def, mS_wR, mS_wT, mS_mk1, mS_mkM, mI_wR, mI_wT, mI_mk1, mI_mkM, mJ_wR, mJ_wT, mJ_mk1, mJ_mkM, mN_wR, mN_wT, mN_mk1, mN_mkM]
  · unfold iA
    simp [Nat.add_assoc, wI_def, mS_wR, mS_wT, mS_mk1, mS_mkM, mI_wR, mI_wT, mI_mk1, mI_mkM, mJ_wR, mJ_wT, mJ_mk1, mJ_mkM, mN_wR, mN_wT, mN_mk1, mN_mkM]
  · unfold iA
    simp [Nat.add_assoc, wI_def, mS_wR, mS_wT, mS_mk1, mS_mkM, mI_wR, mI_wT, mI_mk1, mI_mkM, mJ_wR, mJ_wT, mJ_mk1, mJ_mkM, mN_wR, mN_wT, mN_mk1, mN_mkM]
  · unfold iA
    simp [Nat.add_assoc, wI_def, mS_wR, mS_wT, mS_mk1, mS_mkM, mI_wR, mI_wT, mI_mk1, mI_mkM, mJ_wR, mJ_wT, mJ_mk1, mJ_mkM, mN_wR, mN_wT, mN_mk1, mN_mkM]
  · funext k
    simp [Nat.add_assoc, wI_def, mS_wR, mS_wT, mS_mk1, mS_mkM, mI_wR, mI_wT, mI_mk1, mI_mkM, mJ_wR, mJ_wT, mJ_mk1, mJ_mkM, mN_wR, mN_wT, mN_mk1, mN_mkM, h3, updE, zI]
  · funext k
    rcases (by omega : b = o ∨ b = o + 1 ∨ b = o + 2 ∨ b = o + 3) with rfl | rfl | rfl | rfl <;> simp [Nat.add_assoc, wI_def, mS_wR, mS_wT, mS_mk1, mS_mkM, mI_wR, mI_wT, mI_mk1, mI_mkM, mJ_wR, mJ_wT, mJ_mk1, mJ_mkM, mN_wR, mN_wT, mN_mk1, mN_mkM, h3, updE, zI]
