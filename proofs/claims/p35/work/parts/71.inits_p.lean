/-! ===== bodies: constructors ===== -/
theorem nlt {o k : Nat} : (o + k < o) = False := by
  apply eq_false
  omega
theorem nle {o k : Nat} : (o + (k + 1) ≤ o) = False := by
  apply eq_false
  omega
theorem xX0_init (o : Nat) (μ : qMM) (ht : ∃ t, mS μ o = some (.inl (0, t))) (hp : PX0_init o μ) : EX (SX0_init (rtv 1 20 (QX0_init o μ)) (fun _ _ _ => False)) 0 [some (.ref o)] [] [] μ (0, 0) := by
  obtain ⟨h1, h2, h3⟩ := hp
  have hx : ∃ t, mS μ o = some t := ⟨_, h1⟩
  simp only [eX0_init_0, eX0_init_1, eX0_init_4, eX0_init_5, eX0_init_7, eX0_init_9, eX0_init_12, eX0_init_13, eX0_init_14, eX0_init_17, hx, qNwA_at h2 (show ¬ (20 : Int32) < 0 by decide) (show (20 : Int32).toNatClampNeg = 20 by decide) (by decide), List.length_nil, List.length_cons, ll0, ll1, ll2, ll3, ll4, Nat.le_refl, and_true, one0, eq_self, or_true, true_or, not_true_eq_false, not_false_eq_true, true_imp_iff, false_imp_iff, true_and, and_true, Classical.not_not]
  simp [qPut, qOkR, qOk, mS_mk1, mS_wT, mS_wI, h1, rtv_at]
  refine ⟨⟨?_, fun b hb => ?_⟩, ⟨?_, ?_⟩, ?_, ?_⟩
  · simp [mN_wI, mN_wT, mN_mk1]
  · have b1 : b ≠ o := by omega
    have b2 : b ≠ o + 1 := by omega
    simp [wI_def, mS_wR, mS_wT, mS_mk1, mI_wR, mI_wT, mI_mk1, mJ_wR, mJ_wT, mJ_mk1, b1, b2]
  · unfold obX0
    simp [wI_def, mS_wR, mS_wT, mS_mk1]
  · unfold iA
    simp [wI_def, mS_wR, mS_wT, mS_mk1]
  · funext k
    simp [wI_def, mI_wR, mI_wT, mI_mk1, h3, updE, zI]
  · funext k
    simp [wI_def, mI_wR, mI_wT, mI_mk1, h3, updE, zI]
theorem xX4_init (o : Nat) (μ : qMM) (ht : ∃ t, mS μ o = some (.inl (3, t))) (hp : PX4_init o μ) : EX (SX4_init (rtv 3 200 (QX4_init o μ)) (fun _ _ _ => False)) 0 [some (.ref o)] [] [] μ (0, 0) := by
  obtain ⟨h1, h2, h3⟩ := hp
  have hx : ∃ t, mS μ o = some t := ⟨_, h1⟩
  simp [eX4_init_0, eX4_init_1, eX4_init_4, eX4_init_5, eX4_init_7, eX4_init_9, eX4_init_12, eX4_init_13, eX4_init_14, eX4_init_17, eX4_init_18, eX4_init_20, eX4_init_22, eX4_init_25, eX4_init_26, eX4_init_28, eX4_init_30, eX4_init_33, eX4_init_34, eX4_init_35, eX4_init_38, hx, h1, h2, nlt, nle, Nat.add_assoc, qNwA, qNwM, qPut, qOkR, qOk, mS_mk1, mS_wT, mS_wI, mS_wR, mS_mkM, mN_mk1, mN_wT, mN_wI, mN_wR, mN_mkM, rtv_at, (show ¬ (4 : Int32) < 0 by decide), (show (4 : Int32).toNatClampNeg = 4 by decide), (show ¬ (6 : Int32) < 0 by decide), (show (6 : Int32).toNatClampNeg = 6 by decide), (show ¬ (20 : Int32) < 0 by decide), (show (20 : Int32).toNatClampNeg = 20 by decide), (show ¬ (50 : Int32) < 0 by decide), (show (50 : Int32).toNatClampNeg = 50 by decide), (show ¬ (64 : Int32) < 0 by decide), (show (64 : Int32).toNatClampNeg = 64 by decide), (show ¬ (100 : Int32) < 0 by decide), (show (100 : Int32).toNatClampNeg = 100 by decide), (show ¬ (500 : Int32) < 0 by decide), (show (500 : Int32).toNatClampNeg = 500 by decide), (show ¬ (5514 : Int32) < 0 by decide), (show (5514 : Int32).toNatClampNeg = 5514 by decide), (show ¬ (22056 : Int32) < 0 by decide), (show (22056 : Int32).toNatClampNeg = 22056 by decide)]
  refine ⟨⟨?_, fun b hb => ?_⟩, ⟨?_, ?_, ?_, ?_⟩, ?_, fun b b1 b2 => ?_⟩
  · simp [nlt, nle, Nat.add_assoc, wI_def, mS_wR, mS_wT, mS_mk1, mS_mkM, mI_wR, mI_wT, mI_mk1, mI_mkM, mJ_wR, mJ_wT, mJ_mk1, mJ_mkM, mN_wR, mN_wT, mN_mk1, mN_mkM]
  · have b1 : b ≠ o := by omega
    have b2 : b ≠ o + 1 := by omega
    have b3 : b ≠ o + 2 := by omega
    have b4 : b ≠ o + 3 := by omega
    simp [nlt, nle, Nat.add_assoc, wI_def, mS_wR, mS_wT, mS_mk1, mS_mkM, mI_wR, mI_wT, mI_mk1, mI_mkM, mJ_wR, mJ_wT, mJ_mk1, mJ_mkM, mN_wR, mN_wT, mN_mk1, mN_mkM, b1, b2, b3, b4]
  · unfold obX4
    simp [nlt, nle, Nat.add_assoc, wI_def, mS_wR, mS_wT, mS_mk1, mS_mkM, mI_wR, mI_wT, mI_mk1, mI_mkM, mJ_wR, mJ_wT, mJ_mk1, mJ_mkM, mN_wR, mN_wT, mN_mk1, mN_mkM]
  · unfold iA
    simp [nlt, nle, Nat.add_assoc, wI_def, mS_wR, mS_wT, mS_mk1, mS_mkM, mI_wR, mI_wT, mI_mk1, mI_mkM, mJ_wR, mJ_wT, mJ_mk1, mJ_mkM, mN_wR, mN_wT, mN_mk1, mN_mkM]
  · unfold iA
    simp [nlt, nle, Nat.add_assoc, wI_def, mS_wR, mS_wT, mS_mk1, mS_mkM, mI_wR, mI_wT, mI_mk1, mI_mkM, mJ_wR, mJ_wT, mJ_mk1, mJ_mkM, mN_wR, mN_wT, mN_mk1, mN_mkM]
  · unfold iA
    simp [nlt, nle, Nat.add_assoc, wI_def, mS_wR, mS_wT, mS_mk1, mS_mkM, mI_wR, mI_wT, mI_mk1, mI_mkM, mJ_wR, mJ_wT, mJ_mk1, mJ_mkM, mN_wR, mN_wT, mN_mk1, mN_mkM]
  · funext k
    simp [nlt, nle, Nat.add_assoc, wI_def, mS_wR, mS_wT, mS_mk1, mS_mkM, mI_wR, mI_wT, mI_mk1, mI_mkM, mJ_wR, mJ_wT, mJ_mk1, mJ_mkM, mN_wR, mN_wT, mN_mk1, mN_mkM, h3, updE, zI]
  · funext k
    rcases (by omega : b = o ∨ b = o + 1 ∨ b = o + 2 ∨ b = o + 3) with rfl | rfl | rfl | rfl <;> simp [nlt, nle, Nat.add_assoc, wI_def, mS_wR, mS_wT, mS_mk1, mS_mkM, mI_wR, mI_wT, mI_mk1, mI_mkM, mJ_wR, mJ_wT, mJ_mk1, mJ_mkM, mN_wR, mN_wT, mN_mk1, mN_mkM, h3, updE, zI]
theorem xJ7_fill_l (x1 : Nat) (x2 : Int32) (μ : qMM) (h : iA μ x1 64) (R : Option Value → qMM → Nat × Nat → Prop) (X : String → qMM → Nat × Nat → Prop) (hR : R none (wR μ x1 (filF (mI μ x1) x2 64)) (0, 0)) : ∀ k i : Nat, i + k = 64 → EX (SJ7_fill_53178 R X) 5 [some (.ref x1), some (.int x2), some (.int (nI i)), some (.int 64)] [] [] (wR μ x1 (filF (mI μ x1) x2 i)) (0, 0) := by
  intro k
  induction k with
  | zero =>
    intro i hi
    have : i = 64 := by omega
    subst this
    rw [eJ7_fill_53178_5]
    simp only [eJ7_fill_53178_6, eJ7_fill_53178_7, eJ7_fill_53178_20]
    exact ⟨fun _ => hR, fun h => absurd (by decide) h⟩
  | succ k ih =>
    intro i hi
    have := ih (i + 1) (by omega)
    have e : upd (filF (mI μ x1) x2 i) i x2 = filF (mI μ x1) x2 (i + 1) := by
      funext j
      unfold filF
      rw [updE]
      by_cases g : j = i
      · rw [if_pos g, if_pos (by omega)]
      · rw [if_neg g]
        by_cases g2 : j < i
        · rw [if_pos g2, if_pos (by omega)]
        · rw [if_neg g2, if_neg (by omega)]
    rw [eJ7_fill_53178_5]
    simp only [eJ7_fill_53178_6, eJ7_fill_53178_7, eJ7_fill_53178_10, eJ7_fill_53178_11, eJ7_fill_53178_12, eJ7_fill_53178_13, eJ7_fill_53178_14, eJ7_fill_53178_17, h, iA_wR, qA64, vp64 (show i < 64 by omega), nIc (show i < 500 by omega), nI_1, wI_def, mI_wR_s, wR_wR, e, true_and]
    exact ⟨fun h => absurd h (nI_ge (b := 64) (by omega) (by decide)), fun _ => this⟩
theorem xJ7_fill_53178 (x1 : Nat) (x2 : Int32) (μ : qMM) (hp : PJ7_fill_53178 x1 x2 μ) : EX (SJ7_fill_53178 (rtv 0 0 (QJ7_fill_53178 x1 x2 μ)) (fun _ _ _ => False)) 0 [some (.ref x1), some (.int x2), none, none] [] [] μ (0, 0) := by
  have h1 : iA μ x1 64 := hp
  have e0 : filF (mI μ x1) x2 0 = mI μ x1 := by
    funext k
    unfold filF
    rw [if_neg (by omega)]
  have ln : ∀ k : Int32 → Prop, qAln none μ x1 k = k 64 := fun k => by
    unfold iA at h1
    simp [qAln, h1]
  have h := xJ7_fill_l x1 x2 μ h1 (rtv 0 0 (QJ7_fill_53178 x1 x2 μ)) (fun _ _ _ => False) (by rw [rtv_at]; exact ⟨rfl, by decide, by decide⟩) 64 0 rfl
  rw [e0, wR_self] at h
  simp only [eJ7_fill_53178_0, eJ7_fill_53178_1, eJ7_fill_53178_2, eJ7_fill_53178_3, eJ7_fill_53178_4, ln]
  exact h
theorem xX7_init (o : Nat) (μ : qMM) (ht : ∃ t, mS μ o = some (.inl (6, t))) (hp : PX7_init o μ) : EX (SX7_init (rtv 66 512 (QX7_init o μ)) (fun _ _ _ => False)) 0 [some (.ref o)] [] [] μ (0, 0) := by
  obtain ⟨h1, h2, h3⟩ := hp
  have hx : ∃ t, mS μ o = some t := ⟨_, h1⟩
  simp [eX7_init_0, eX7_init_1, eX7_init_4, eX7_init_5, eX7_init_7, eX7_init_9, eX7_init_12, eX7_init_13, eX7_init_15, eX7_init_17, eX7_init_21, eX7_init_24, eX7_init_25, eX7_init_28, eX7_init_29, eX7_init_32, hx, h1, h2, qGet, PJ7_fill_53178, QJ7_fill_53178, iA, nlt, nle, Nat.add_assoc, qNwA, qNwM, qPut, qOkR, qOk, mS_mk1, mS_wT, mS_wI, mS_wR, mS_mkM, mN_mk1, mN_wT, mN_wI, mN_wR, mN_mkM, rtv_at, (show ¬ (4 : Int32) < 0 by decide), (show (4 : Int32).toNatClampNeg = 4 by decide), (show ¬ (6 : Int32) < 0 by decide), (show (6 : Int32).toNatClampNeg = 6 by decide), (show ¬ (20 : Int32) < 0 by decide), (show (20 : Int32).toNatClampNeg = 20 by decide), (show ¬ (50 : Int32) < 0 by decide), (show (50 : Int32).toNatClampNeg = 50 by decide), (show ¬ (64 : Int32) < 0 by decide), (show (64 : Int32).toNatClampNeg = 64 by decide), (show ¬ (100 : Int32) < 0 by decide), (show (100 : Int32).toNatClampNeg = 100 by decide), (show ¬ (500 : Int32) < 0 by decide), (show (500 : Int32).toNatClampNeg = 500 by decide), (show ¬ (5514 : Int32) < 0 by decide), (show (5514 : Int32).toNatClampNeg = 5514 by decide), (show ¬ (22056 : Int32) < 0 by decide), (show (22056 : Int32).toNatClampNeg = 22056 by decide)]
  refine ⟨⟨?_, fun b hb => ?_⟩, ⟨?_, ?_, ?_, fun i hi => ?_⟩, fun k hk => ?_⟩
  · simp [nlt, nle, Nat.add_assoc, wI_def, mS_wR, mS_wT, mS_mk1, mS_mkM, mI_wR, mI_wT, mI_mk1, mI_mkM, mJ_wR, mJ_wT, mJ_mk1, mJ_mkM, mN_wR, mN_wT, mN_mk1, mN_mkM]
  · have b1 : b ≠ o := by omega
    have b2 : b ≠ o + 1 := by omega
    have b3 : b ≠ o + 2 := by omega
    have b4 : ¬ (o + 2 < b ∧ b < o + 67) := by omega
    have b5 : ¬ (o + 2 ≤ b ∧ b < o + 67) := by omega
    simp [nlt, nle, Nat.add_assoc, wI_def, mS_wR, mS_wT, mS_mk1, mS_mkM, mI_wR, mI_wT, mI_mk1, mI_mkM, mJ_wR, mJ_wT, mJ_mk1, mJ_mkM, mN_wR, mN_wT, mN_mk1, mN_mkM, b1, b2, b3, b4, b5]
  · unfold obX7
    simp [nlt, nle, Nat.add_assoc, wI_def, mS_wR, mS_wT, mS_mk1, mS_mkM, mI_wR, mI_wT, mI_mk1, mI_mkM, mJ_wR, mJ_wT, mJ_mk1, mJ_mkM, mN_wR, mN_wT, mN_mk1, mN_mkM]
  · unfold iA
    simp [nlt, nle, Nat.add_assoc, wI_def, mS_wR, mS_wT, mS_mk1, mS_mkM, mI_wR, mI_wT, mI_mk1, mI_mkM, mJ_wR, mJ_wT, mJ_mk1, mJ_mkM, mN_wR, mN_wT, mN_mk1, mN_mkM]
  · unfold WiR
    simp [nlt, nle, Nat.add_assoc, wI_def, mS_wR, mS_wT, mS_mk1, mS_mkM, mI_wR, mI_wT, mI_mk1, mI_mkM, mJ_wR, mJ_wT, mJ_mk1, mJ_mkM, mN_wR, mN_wT, mN_mk1, mN_mkM]
  · unfold iA
    simp only [wI_def, mS_wR, mS_wT, mS_mk1, mS_mkM]
    repeat (first | rw [if_pos trivial] | rw [if_pos (by omega)] | rw [if_neg (by omega)])
  · simp [nlt, nle, Nat.add_assoc, wI_def, mS_wR, mS_wT, mS_mk1, mS_mkM, mI_wR, mI_wT, mI_mk1, mI_mkM, mJ_wR, mJ_wT, mJ_mk1, mJ_mkM, mN_wR, mN_wT, mN_mk1, mN_mkM, filF, hk]
theorem xX1_init (o : Nat) (μ : qMM) (ht : ∃ t, mS μ o = some (.inl (1, t))) (hp : PX1_init o μ) : EX (SX1_init (rtv 1005 7500 (QX1_init o μ)) (fun _ _ _ => False)) 0 [some (.ref o)] [] [] μ (0, 0) := by
  obtain ⟨h1, h2, h3⟩ := hp
  have hx : ∃ t, mS μ o = some t := ⟨_, h1⟩
  simp [eX1_init_0, eX1_init_1, eX1_init_4, eX1_init_5, eX1_init_8, eX1_init_10, eX1_init_14, eX1_init_17, eX1_init_18, eX1_init_21, eX1_init_22, eX1_init_26, eX1_init_29, eX1_init_30, eX1_init_33, eX1_init_35, eX1_init_38, eX1_init_39, eX1_init_42, eX1_init_44, eX1_init_47, eX1_init_48, eX1_init_51, eX1_init_53, eX1_init_56, hx, h1, h2, nlt, nle, Nat.add_assoc, qNwA, qNwM, qPut, qOkR, qOk, mS_mk1, mS_wT, mS_wI, mS_wR, mS_mkM, mN_mk1, mN_wT, mN_wI, mN_wR, mN_mkM, rtv_at, (show ¬ (4 : Int32) < 0 by decide), (show (4 : Int32).toNatClampNeg = 4 by decide), (show ¬ (6 : Int32) < 0 by decide), (show (6 : Int32).toNatClampNeg = 6 by decide), (show ¬ (20 : Int32) < 0 by decide), (show (20 : Int32).toNatClampNeg = 20 by decide), (show ¬ (50 : Int32) < 0 by decide), (show (50 : Int32).toNatClampNeg = 50 by decide), (show ¬ (64 : Int32) < 0 by decide), (show (64 : Int32).toNatClampNeg = 64 by decide), (show ¬ (100 : Int32) < 0 by decide), (show (100 : Int32).toNatClampNeg = 100 by decide), (show ¬ (500 : Int32) < 0 by decide), (show (500 : Int32).toNatClampNeg = 500 by decide), (show ¬ (5514 : Int32) < 0 by decide), (show (5514 : Int32).toNatClampNeg = 5514 by decide), (show ¬ (22056 : Int32) < 0 by decide), (show (22056 : Int32).toNatClampNeg = 22056 by decide)]
  refine ⟨⟨?_, fun b hb => ?_⟩, ?_, ?_, ?_, ?_, ?_, ?_, fun i hi => ?_, fun i hi => ?_⟩
  · simp [nlt, nle, Nat.add_assoc, wI_def, mS_wR, mS_wT, mS_mk1, mS_mkM, mI_wR, mI_wT, mI_mk1, mI_mkM, mJ_wR, mJ_wT, mJ_mk1, mJ_mkM, mN_wR, mN_wT, mN_mk1, mN_mkM]
  · simp only [wI_def, mS_wR, mS_wT, mS_mk1, mS_mkM, wI_def, mI_wR, mI_wT, mI_mk1, mI_mkM, mJ_wT, mJ_mk1, mJ_mkM]
    repeat (first | rw [if_pos trivial] | rw [if_pos (by omega)] | rw [if_neg (by omega)])
    exact ⟨rfl, rfl, rfl⟩
  · unfold obX1
    simp only [wI_def, mS_wR, mS_wT, mS_mk1, mS_mkM]
    repeat (first | rw [if_pos trivial] | rw [if_pos (by omega)] | rw [if_neg (by omega)])
  · unfold oA
    simp only [wI_def, mS_wR, mS_wT, mS_mk1, mS_mkM]
    repeat (first | rw [if_pos trivial] | rw [if_pos (by omega)] | rw [if_neg (by omega)])
  · unfold oA
    simp only [wI_def, mS_wR, mS_wT, mS_mk1, mS_mkM]
    repeat (first | rw [if_pos trivial] | rw [if_pos (by omega)] | rw [if_neg (by omega)])
  · unfold iA
    simp only [wI_def, mS_wR, mS_wT, mS_mk1, mS_mkM]
    repeat (first | rw [if_pos trivial] | rw [if_pos (by omega)] | rw [if_neg (by omega)])
  · unfold iA
    simp only [wI_def, mS_wR, mS_wT, mS_mk1, mS_mkM]
    repeat (first | rw [if_pos trivial] | rw [if_pos (by omega)] | rw [if_neg (by omega)])
  · unfold iA
    simp only [wI_def, mS_wR, mS_wT, mS_mk1, mS_mkM]
    repeat (first | rw [if_pos trivial] | rw [if_pos (by omega)] | rw [if_neg (by omega)])
  · unfold iA
    simp only [wI_def, mS_wR, mS_wT, mS_mk1, mS_mkM]
    repeat (first | rw [if_pos trivial] | rw [if_pos (by omega)] | rw [if_neg (by omega)])
  · unfold iA
    simp only [wI_def, mS_wR, mS_wT, mS_mk1, mS_mkM]
    repeat (first | rw [if_pos trivial] | rw [if_pos (by omega)] | rw [if_neg (by omega)])
theorem stI_0 {j : Nat} (h1 : j ≠ 4) (h2 : j ≠ 5) (h3 : ¬ (52 ≤ j ∧ j ≤ 55)) (h4 : ¬ (66 ≤ j ∧ j < 514)) : stI j = 0 := by
  unfold stI
  repeat (first | rw [if_pos trivial] | rw [if_pos (by omega)] | rw [if_neg (by omega)])
theorem stI_k {k : Nat} (h : k < 64) : stI (66 + 7 * k) = -1 := by
  unfold stI
  repeat (first | rw [if_pos trivial] | rw [if_pos (by omega)] | rw [if_neg (by omega)])
theorem xX5_init (o : Nat) (x1 : Nat) (μ : qMM) (ht : ∃ t, mS μ o = some (.inl (4, t))) (hp : PX5_init o x1 μ) : EX (SX5_init (rtv 4 516 (QX5_init o x1 μ)) (fun _ _ _ => False)) 0 [some (.ref o), some (.ref x1)] [] [] μ (0, 0) := by
  obtain ⟨h1, h2, h3⟩ := hp
  have hx : ∃ t, mS μ o = some t := ⟨_, h1⟩
  simp [eX5_init_0, eX5_init_1, eX5_init_4, eX5_init_5, eX5_init_7, eX5_init_9, eX5_init_12, eX5_init_13, eX5_init_14, eX5_init_17, eX5_init_18, eX5_init_19, eX5_init_22, eX5_init_23, eX5_init_24, eX5_init_27, eX5_init_28, eX5_init_29, eX5_init_32, eX5_init_33, eX5_init_34, eX5_init_37, eX5_init_38, eX5_init_39, eX5_init_42, eX5_init_43, eX5_init_46, eX5_init_48, eX5_init_51, eX5_init_52, eX5_init_54, eX5_init_56, eX5_init_59, eX5_init_60, eX5_init_61, eX5_init_63, eX5_init_66, eX5_init_67, eX5_init_68, eX5_init_71, eX5_init_72, eX5_init_75, eX5_init_76, eX5_init_77, eX5_init_78, eX5_init_79, eX5_init_82, eX5_init_83, eX5_init_86, eX5_init_87, hx, h1, h2, qGet, qArr, v46, v56, nlt, nle, Nat.add_assoc, qNwA, qNwM, qPut, qOkR, qOk, mS_mk1, mS_wT, mS_wI, mS_wR, mS_mkM, mN_mk1, mN_wT, mN_wI, mN_wR, mN_mkM, rtv_at, (show ¬ (4 : Int32) < 0 by decide), (show (4 : Int32).toNatClampNeg = 4 by decide), (show ¬ (6 : Int32) < 0 by decide), (show (6 : Int32).toNatClampNeg = 6 by decide), (show ¬ (20 : Int32) < 0 by decide), (show (20 : Int32).toNatClampNeg = 20 by decide), (show ¬ (50 : Int32) < 0 by decide), (show (50 : Int32).toNatClampNeg = 50 by decide), (show ¬ (64 : Int32) < 0 by decide), (show (64 : Int32).toNatClampNeg = 64 by decide), (show ¬ (100 : Int32) < 0 by decide), (show (100 : Int32).toNatClampNeg = 100 by decide), (show ¬ (500 : Int32) < 0 by decide), (show (500 : Int32).toNatClampNeg = 500 by decide), (show ¬ (5514 : Int32) < 0 by decide), (show (5514 : Int32).toNatClampNeg = 5514 by decide), (show ¬ (22056 : Int32) < 0 by decide), (show (22056 : Int32).toNatClampNeg = 22056 by decide)]
  refine ⟨⟨?_, fun b hb => ?_⟩, ⟨?_, ?_, ?_, ?_, ?_⟩, fun j hj => ?_, ?_, ?_, ?_, ?_, ?_, ?_, fun p hp => ?_⟩
  · simp [nlt, nle, Nat.add_assoc, wI_def, mS_wR, mS_wT, mS_mk1, mS_mkM, mI_wR, mI_wT, mI_mk1, mI_mkM, mJ_wR, mJ_wT, mJ_mk1, mJ_mkM, mN_wR, mN_wT, mN_mk1, mN_mkM]
  · have b1 : b ≠ o := by omega
    have b2 : b ≠ o + 1 := by omega
    have b3 : b ≠ o + 2 := by omega
    have b4 : b ≠ o + 3 := by omega
    have b5 : b ≠ o + 4 := by omega
    simp [nlt, nle, Nat.add_assoc, wI_def, mS_wR, mS_wT, mS_mk1, mS_mkM, mI_wR, mI_wT, mI_mk1, mI_mkM, mJ_wR, mJ_wT, mJ_mk1, mJ_mkM, mN_wR, mN_wT, mN_mk1, mN_mkM, b1, b2, b3, b4, b5]
  · unfold obX5
    simp [nlt, nle, Nat.add_assoc, wI_def, mS_wR, mS_wT, mS_mk1, mS_mkM, mI_wR, mI_wT, mI_mk1, mI_mkM, mJ_wR, mJ_wT, mJ_mk1, mJ_mkM, mN_wR, mN_wT, mN_mk1, mN_mkM]
  · unfold iA
    simp [nlt, nle, Nat.add_assoc, wI_def, mS_wR, mS_wT, mS_mk1, mS_mkM, mI_wR, mI_wT, mI_mk1, mI_mkM, mJ_wR, mJ_wT, mJ_mk1, mJ_mkM, mN_wR, mN_wT, mN_mk1, mN_mkM]
  · unfold iA
    simp [nlt, nle, Nat.add_assoc, wI_def, mS_wR, mS_wT, mS_mk1, mS_mkM, mI_wR, mI_wT, mI_mk1, mI_mkM, mJ_wR, mJ_wT, mJ_mk1, mJ_mkM, mN_wR, mN_wT, mN_mk1, mN_mkM]
  · unfold iA
    simp [nlt, nle, Nat.add_assoc, wI_def, mS_wR, mS_wT, mS_mk1, mS_mkM, mI_wR, mI_wT, mI_mk1, mI_mkM, mJ_wR, mJ_wT, mJ_mk1, mJ_mkM, mN_wR, mN_wT, mN_mk1, mN_mkM]
  · unfold iA
    simp [nlt, nle, Nat.add_assoc, wI_def, mS_wR, mS_wT, mS_mk1, mS_mkM, mI_wR, mI_wT, mI_mk1, mI_mkM, mJ_wR, mJ_wT, mJ_mk1, mJ_mkM, mN_wR, mN_wT, mN_mk1, mN_mkM]
  · rcases (by omega : j = 0 ∨ j = 1 ∨ j = 2 ∨ j = 3 ∨ j = 4 ∨ j = 5) with rfl | rfl | rfl | rfl | rfl | rfl <;> simp [nlt, nle, Nat.add_assoc, wI_def, mS_wR, mS_wT, mS_mk1, mS_mkM, mI_wR, mI_wT, mI_mk1, mI_mkM, mJ_wR, mJ_wT, mJ_mk1, mJ_mkM, mN_wR, mN_wT, mN_mk1, mN_mkM, updE, stI, h3]
  · simp [nlt, nle, Nat.add_assoc, wI_def, mS_wR, mS_wT, mS_mk1, mS_mkM, mI_wR, mI_wT, mI_mk1, mI_mkM, mJ_wR, mJ_wT, mJ_mk1, mJ_mkM, mN_wR, mN_wT, mN_mk1, mN_mkM, updE, stI]
  · simp [nlt, nle, Nat.add_assoc, wI_def, mS_wR, mS_wT, mS_mk1, mS_mkM, mI_wR, mI_wT, mI_mk1, mI_mkM, mJ_wR, mJ_wT, mJ_mk1, mJ_mkM, mN_wR, mN_wT, mN_mk1, mN_mkM, updE, stI]
  · simp [nlt, nle, Nat.add_assoc, wI_def, mS_wR, mS_wT, mS_mk1, mS_mkM, mI_wR, mI_wT, mI_mk1, mI_mkM, mJ_wR, mJ_wT, mJ_mk1, mJ_mkM, mN_wR, mN_wT, mN_mk1, mN_mkM, updE, stI]
  · simp [nlt, nle, Nat.add_assoc, wI_def, mS_wR, mS_wT, mS_mk1, mS_mkM, mI_wR, mI_wT, mI_mk1, mI_mkM, mJ_wR, mJ_wT, mJ_mk1, mJ_mkM, mN_wR, mN_wT, mN_mk1, mN_mkM, updE, stI]
  · simp [nlt, nle, Nat.add_assoc, wI_def, mS_wR, mS_wT, mS_mk1, mS_mkM, mI_wR, mI_wT, mI_mk1, mI_mkM, mJ_wR, mJ_wT, mJ_mk1, mJ_mkM, mN_wR, mN_wT, mN_mk1, mN_mkM, updE, stI]
  · simp [nlt, nle, Nat.add_assoc, wI_def, mS_wR, mS_wT, mS_mk1, mS_mkM, mI_wR, mI_wT, mI_mk1, mI_mkM, mJ_wR, mJ_wT, mJ_mk1, mJ_mkM, mN_wR, mN_wT, mN_mk1, mN_mkM, updE, stI]
  · exfalso
    have e : nOf stI = 0 := by decide
    omega
theorem xX2_init (o : Nat) (x1 : Nat) (μ : qMM) (ht : ∃ t, mS μ o = some (.inl (2, t))) (hp : PX2_init o x1 μ) : EX (SX2_init (rtv 69 524 (QX2_init o x1 μ)) (fun _ _ _ => False)) 0 [some (.ref o), some (.ref x1)] [] [] μ (0, 0) := by
  obtain ⟨h1, h2, h3⟩ := hp
  have hx : ∃ t, mS μ o = some t := ⟨_, h1⟩
  simp [eX2_init_0, eX2_init_1, eX2_init_4, eX2_init_5, eX2_init_6, eX2_init_9, eX2_init_10, eX2_init_11, eX2_init_14, eX2_init_15, eX2_init_16, eX2_init_19, eX2_init_20, eX2_init_21, eX2_init_24, eX2_init_25, eX2_init_26, eX2_init_29, eX2_init_30, eX2_init_31, eX2_init_34, eX2_init_35, eX2_init_36, eX2_init_39, eX2_init_40, eX2_init_41, eX2_init_43, eX2_init_46, eX2_init_47, eX2_init_50i, eX2_init_50r, eX2_init_51, hx, h1, h2, qNwO, PX7_init, NwP, nX2, nlt, nle, Nat.add_assoc, qNwA, qNwM, qPut, qOkR, qOk, mS_mk1, mS_wT, mS_wI, mS_wR, mS_mkM, mN_mk1, mN_wT, mN_wI, mN_wR, mN_mkM, rtv_at, (show ¬ (4 : Int32) < 0 by decide), (show (4 : Int32).toNatClampNeg = 4 by decide), (show ¬ (6 : Int32) < 0 by decide), (show (6 : Int32).toNatClampNeg = 6 by decide), (show ¬ (20 : Int32) < 0 by decide), (show (20 : Int32).toNatClampNeg = 20 by decide), (show ¬ (50 : Int32) < 0 by decide), (show (50 : Int32).toNatClampNeg = 50 by decide), (show ¬ (64 : Int32) < 0 by decide), (show (64 : Int32).toNatClampNeg = 64 by decide), (show ¬ (100 : Int32) < 0 by decide), (show (100 : Int32).toNatClampNeg = 100 by decide), (show ¬ (500 : Int32) < 0 by decide), (show (500 : Int32).toNatClampNeg = 500 by decide), (show ¬ (5514 : Int32) < 0 by decide), (show (5514 : Int32).toNatClampNeg = 5514 by decide), (show ¬ (22056 : Int32) < 0 by decide), (show (22056 : Int32).toNatClampNeg = 22056 by decide), -Prod.forall]
  refine ⟨?_, fun μ' q => ?_⟩
  · simp [nlt, nle, Nat.add_assoc, wI_def, mS_wR, mS_wT, mS_mk1, mS_mkM, mI_wR, mI_wT, mI_mk1, mI_mkM, mJ_wR, mJ_wT, mJ_mk1, mJ_mkM, mN_wR, mN_wT, mN_mk1, mN_mkM]
  obtain ⟨⟨q1, q2⟩, q3, q4⟩ := q
  have e0 := q2 o (by omega)
  have e1 := q2 (o + 1) (by omega)
  have eb : ∀ b, b < o → mS μ' b = mS μ b ∧ mI μ' b = mI μ b ∧ mJ μ' b = mJ μ b := fun b hb => by
    have b1 : b ≠ o := by omega
    have b2 : b ≠ o + 1 := by omega
    have b3 : b ≠ o + 2 := by omega
    have := q2 b (by omega)
    simpa [nlt, nle, Nat.add_assoc, wI_def, mS_wR, mS_wT, mS_mk1, mS_mkM, mI_wR, mI_wT, mI_mk1, mI_mkM, mJ_wR, mJ_wT, mJ_mk1, mJ_mkM, mN_wR, mN_wT, mN_mk1, mN_mkM, b1, b2, b3] using this
  clear q2
  simp [nlt, nle, Nat.add_assoc, wI_def, mS_wR, mS_wT, mS_mk1, mS_mkM, mI_wR, mI_wT, mI_mk1, mI_mkM, mJ_wR, mJ_wT, mJ_mk1, mJ_mkM, mN_wR, mN_wT, mN_mk1, mN_mkM] at e0 e1
  obtain ⟨e0, e2, e3⟩ := e0
  obtain ⟨e1, e4, e5⟩ := e1
  simp [eX2_init_0, eX2_init_1, eX2_init_4, eX2_init_5, eX2_init_6, eX2_init_9, eX2_init_10, eX2_init_11, eX2_init_14, eX2_init_15, eX2_init_16, eX2_init_19, eX2_init_20, eX2_init_21, eX2_init_24, eX2_init_25, eX2_init_26, eX2_init_29, eX2_init_30, eX2_init_31, eX2_init_34, eX2_init_35, eX2_init_36, eX2_init_39, eX2_init_40, eX2_init_41, eX2_init_43, eX2_init_46, eX2_init_47, eX2_init_50i, eX2_init_50r, eX2_init_51, eX2_init_54, eX2_init_57, eX2_init_58, eX2_init_60, eX2_init_62, eX2_init_65, eX2_init_66, eX2_init_67, eX2_init_70, e0, q1, nlt, nle, Nat.add_assoc, qNwA, qNwM, qPut, qOkR, qOk, mS_mk1, mS_wT, mS_wI, mS_wR, mS_mkM, mN_mk1, mN_wT, mN_wI, mN_wR, mN_mkM, rtv_at, (show ¬ (4 : Int32) < 0 by decide), (show (4 : Int32).toNatClampNeg = 4 by decide), (show ¬ (6 : Int32) < 0 by decide), (show (6 : Int32).toNatClampNeg = 6 by decide), (show ¬ (20 : Int32) < 0 by decide), (show (20 : Int32).toNatClampNeg = 20 by decide), (show ¬ (50 : Int32) < 0 by decide), (show (50 : Int32).toNatClampNeg = 50 by decide), (show ¬ (64 : Int32) < 0 by decide), (show (64 : Int32).toNatClampNeg = 64 by decide), (show ¬ (100 : Int32) < 0 by decide), (show (100 : Int32).toNatClampNeg = 100 by decide), (show ¬ (500 : Int32) < 0 by decide), (show (500 : Int32).toNatClampNeg = 500 by decide), (show ¬ (5514 : Int32) < 0 by decide), (show (5514 : Int32).toNatClampNeg = 5514 by decide), (show ¬ (22056 : Int32) < 0 by decide), (show (22056 : Int32).toNatClampNeg = 22056 by decide), -Prod.forall]
  refine ⟨⟨?_, fun b hb => ?_⟩, ⟨?_, ?_, ⟨?_, ?_, ?_, ?_⟩, ?_⟩, ⟨?_, ?_, ?_, ?_, ?_, ?_, ?_⟩, ⟨?_, ?_, ?_, ?_, ?_⟩, fun k hk => ⟨?_, ?_⟩⟩
  · simp [nlt, nle, Nat.add_assoc, wI_def, mS_wR, mS_wT, mS_mk1, mS_mkM, mI_wR, mI_wT, mI_mk1, mI_mkM, mJ_wR, mJ_wT, mJ_mk1, mJ_mkM, mN_wR, mN_wT, mN_mk1, mN_mkM]
  · have b1 : b ≠ o := by omega
    have b6 : b ≠ o + 69 := by omega
    simp [nlt, nle, Nat.add_assoc, wI_def, mS_wR, mS_wT, mS_mk1, mS_mkM, mI_wR, mI_wT, mI_mk1, mI_mkM, mJ_wR, mJ_wT, mJ_mk1, mJ_mkM, mN_wR, mN_wT, mN_mk1, mN_mkM, b1, b6, eb b hb]
  · unfold obX2
    simp [nlt, nle, Nat.add_assoc, wI_def, mS_wR, mS_wT, mS_mk1, mS_mkM, mI_wR, mI_wT, mI_mk1, mI_mkM, mJ_wR, mJ_wT, mJ_mk1, mJ_mkM, mN_wR, mN_wT, mN_mk1, mN_mkM]
  · unfold iA
    simp [nlt, nle, Nat.add_assoc, wI_def, mS_wR, mS_wT, mS_mk1, mS_mkM, mI_wR, mI_wT, mI_mk1, mI_mkM, mJ_wR, mJ_wT, mJ_mk1, mJ_mkM, mN_wR, mN_wT, mN_mk1, mN_mkM, e1]
  · have := q3.1
    unfold obX7 at this ⊢
    simp [nlt, nle, Nat.add_assoc, wI_def, mS_wR, mS_wT, mS_mk1, mS_mkM, mI_wR, mI_wT, mI_mk1, mI_mkM, mJ_wR, mJ_wT, mJ_mk1, mJ_mkM, mN_wR, mN_wT, mN_mk1, mN_mkM, this]
  · have := q3.2.1
    unfold iA at this ⊢
    rw [Nat.add_assoc] at this
    simp [nlt, nle, Nat.add_assoc, wI_def, mS_wR, mS_wT, mS_mk1, mS_mkM, mI_wR, mI_wT, mI_mk1, mI_mkM, mJ_wR, mJ_wT, mJ_mk1, mJ_mkM, mN_wR, mN_wT, mN_mk1, mN_mkM, this]
  · have := q3.2.2.1
    unfold WiR at this ⊢
    rw [Nat.add_assoc] at this
    simp [nlt, nle, Nat.add_assoc, wI_def, mS_wR, mS_wT, mS_mk1, mS_mkM, mI_wR, mI_wT, mI_mk1, mI_mkM, mJ_wR, mJ_wT, mJ_mk1, mJ_mkM, mN_wR, mN_wT, mN_mk1, mN_mkM, this]
  · intro i hi
    have := q3.2.2.2 i hi
    unfold iA at this ⊢
    have b1 : o + 2 + 3 + i ≠ o := by omega
    have b6 : o + 2 + 3 + i ≠ o + 69 := by omega
    simp only [mS_wT, mS_mk1, if_neg b1, if_neg b6, this]
  · unfold iA
    simp [nlt, nle, Nat.add_assoc, wI_def, mS_wR, mS_wT, mS_mk1, mS_mkM, mI_wR, mI_wT, mI_mk1, mI_mkM, mJ_wR, mJ_wT, mJ_mk1, mJ_mkM, mN_wR, mN_wT, mN_mk1, mN_mkM]
  · simp [nlt, nle, Nat.add_assoc, wI_def, mS_wR, mS_wT, mS_mk1, mS_mkM, mI_wR, mI_wT, mI_mk1, mI_mkM, mJ_wR, mJ_wT, mJ_mk1, mJ_mkM, mN_wR, mN_wT, mN_mk1, mN_mkM, e2, updE, stI]
  · simp [nlt, nle, Nat.add_assoc, wI_def, mS_wR, mS_wT, mS_mk1, mS_mkM, mI_wR, mI_wT, mI_mk1, mI_mkM, mJ_wR, mJ_wT, mJ_mk1, mJ_mkM, mN_wR, mN_wT, mN_mk1, mN_mkM, e2, updE, stI]
  · simp [nlt, nle, Nat.add_assoc, wI_def, mS_wR, mS_wT, mS_mk1, mS_mkM, mI_wR, mI_wT, mI_mk1, mI_mkM, mJ_wR, mJ_wT, mJ_mk1, mJ_mkM, mN_wR, mN_wT, mN_mk1, mN_mkM, e2, updE, stI]
  · simp [nlt, nle, Nat.add_assoc, wI_def, mS_wR, mS_wT, mS_mk1, mS_mkM, mI_wR, mI_wT, mI_mk1, mI_mkM, mJ_wR, mJ_wT, mJ_mk1, mJ_mkM, mN_wR, mN_wT, mN_mk1, mN_mkM, e2, updE, stI]
  · simp [nlt, nle, Nat.add_assoc, wI_def, mS_wR, mS_wT, mS_mk1, mS_mkM, mI_wR, mI_wT, mI_mk1, mI_mkM, mJ_wR, mJ_wT, mJ_mk1, mJ_mkM, mN_wR, mN_wT, mN_mk1, mN_mkM, e2, updE, stI]
  · simp [nlt, nle, Nat.add_assoc, wI_def, mS_wR, mS_wT, mS_mk1, mS_mkM, mI_wR, mI_wT, mI_mk1, mI_mkM, mJ_wR, mJ_wT, mJ_mk1, mJ_mkM, mN_wR, mN_wT, mN_mk1, mN_mkM, e2, updE, stI]
  · simp [nlt, nle, Nat.add_assoc, wI_def, mS_wR, mS_wT, mS_mk1, mS_mkM, mI_wR, mI_wT, mI_mk1, mI_mkM, mJ_wR, mJ_wT, mJ_mk1, mJ_mkM, mN_wR, mN_wT, mN_mk1, mN_mkM, e2, updE, stI]
  · simp [nlt, nle, Nat.add_assoc, wI_def, mS_wR, mS_wT, mS_mk1, mS_mkM, mI_wR, mI_wT, mI_mk1, mI_mkM, mJ_wR, mJ_wT, mJ_mk1, mJ_mkM, mN_wR, mN_wT, mN_mk1, mN_mkM, e4, stI]
  · simp [nlt, nle, Nat.add_assoc, wI_def, mS_wR, mS_wT, mS_mk1, mS_mkM, mI_wR, mI_wT, mI_mk1, mI_mkM, mJ_wR, mJ_wT, mJ_mk1, mJ_mkM, mN_wR, mN_wT, mN_mk1, mN_mkM, e4, stI]
  · simp [nlt, nle, Nat.add_assoc, wI_def, mS_wR, mS_wT, mS_mk1, mS_mkM, mI_wR, mI_wT, mI_mk1, mI_mkM, mJ_wR, mJ_wT, mJ_mk1, mJ_mkM, mN_wR, mN_wT, mN_mk1, mN_mkM, e4, stI]
  · simp [nlt, nle, Nat.add_assoc, wI_def, mS_wR, mS_wT, mS_mk1, mS_mkM, mI_wR, mI_wT, mI_mk1, mI_mkM, mJ_wR, mJ_wT, mJ_mk1, mJ_mkM, mN_wR, mN_wT, mN_mk1, mN_mkM, e4, stI]
  · simp [stI]
  · have := q4 k hk
    rw [stI_k hk]
    simp [nlt, nle, Nat.add_assoc, wI_def, mS_wR, mS_wT, mS_mk1, mS_mkM, mI_wR, mI_wT, mI_mk1, mI_mkM, mJ_wR, mJ_wT, mJ_mk1, mJ_mkM, mN_wR, mN_wT, mN_mk1, mN_mkM] at this
    simp [nlt, nle, Nat.add_assoc, wI_def, mS_wR, mS_wT, mS_mk1, mS_mkM, mI_wR, mI_wT, mI_mk1, mI_mkM, mJ_wR, mJ_wT, mJ_mk1, mJ_mkM, mN_wR, mN_wT, mN_mk1, mN_mkM, this]
  · intro h
    exact absurd (stI_k hk) h
/-- alike from a up to b -/
def Agr (μ μ' : qMM) (a b : Nat) : Prop := ∀ c, a ≤ c → c < b → mS μ' c = mS μ c ∧ mI μ' c = mI μ c
theorem iA_fr {μ μ' : qMM} {c n : Nat} (h : mS μ' c = mS μ c) : iA μ c n → iA μ' c n := by
  unfold iA
  rw [h]
  exact id
theorem oA_fr {μ μ' : qMM} {c n b : Nat} (h : mS μ' c = mS μ c) : oA μ c n b → oA μ' c n b := by
  unfold oA
  rw [h]
  exact id
theorem LkS_fr {μ μ' : qMM} {o : Nat} (h : Agr μ μ' o (o + 2)) : LkS μ o → LkS μ' o := fun g => ⟨by
  have := g.1
  unfold obX0 at this ⊢
  rw [(h o (by omega) (by omega)).1, this], iA_fr (h _ (by omega) (by omega)).1 g.2⟩
theorem SeS_fr {μ μ' : qMM} {lg o : Nat} (h : Agr μ μ' o (o + 5)) : SeS μ lg o → SeS μ' lg o := fun g => ⟨by
  have := g.1
  unfold obX5 at this ⊢
  rw [(h o (by omega) (by omega)).1, this], iA_fr (h _ (by omega) (by omega)).1 g.2.1, iA_fr (h _ (by omega) (by omega)).1 g.2.2.1, iA_fr (h _ (by omega) (by omega)).1 g.2.2.2.1, iA_fr (h _ (by omega) (by omega)).1 g.2.2.2.2⟩
theorem WiS_fr {μ μ' : qMM} {o : Nat} (h : Agr μ μ' o (o + 67)) : WiS μ o → WiS μ' o := fun g => ⟨by
  have := g.1
  unfold obX7 at this ⊢
  rw [(h o (by omega) (by omega)).1, this], iA_fr (h _ (by omega) (by omega)).1 g.2.1, by
  have := g.2.2.1
  unfold WiR at this ⊢
  rw [(h _ (by omega) (by omega)).1, this], fun i hi => iA_fr (h _ (by omega) (by omega)).1 (g.2.2.2 i hi)⟩
theorem ReS_fr {μ μ' : qMM} {lg o : Nat} (h : Agr μ μ' o (o + 70)) : ReS μ lg o → ReS μ' lg o := fun g => ⟨by
  have := g.1
  unfold obX2 at this ⊢
  rw [(h o (by omega) (by omega)).1, this], iA_fr (h _ (by omega) (by omega)).1 g.2.1, WiS_fr (fun c a b => h c (by omega) (by omega)) g.2.2.1, iA_fr (h _ (by omega) (by omega)).1 g.2.2.2⟩
theorem StS_fr {μ μ' : qMM} {lg o : Nat} (h : Agr μ μ' o (o + 80)) : StS μ lg o → StS μ' lg o := fun g => ⟨by
  have := g.1
  unfold obX6 at this ⊢
  rw [(h o (by omega) (by omega)).1, this], SeS_fr (fun c a b => h c (by omega) (by omega)) g.2.1, ReS_fr (fun c a b => h c (by omega) (by omega)) g.2.2.1, LkS_fr (fun c a b => h c (by omega) (by omega)) g.2.2.2.1, LkS_fr (fun c a b => h c (by omega) (by omega)) g.2.2.2.2⟩
theorem LgS_fr {μ μ' : qMM} {o : Nat} (h : Agr μ μ' o (o + 1006)) : LgS μ o → LgS μ' o := fun g => ⟨by
  have := g.1
  unfold obX1 at this ⊢
  rw [(h o (by omega) (by omega)).1, this], oA_fr (h _ (by omega) (by omega)).1 g.2.1, oA_fr (h _ (by omega) (by omega)).1 g.2.2.1, iA_fr (h _ (by omega) (by omega)).1 g.2.2.2.1, iA_fr (h _ (by omega) (by omega)).1 g.2.2.2.2.1, iA_fr (h _ (by omega) (by omega)).1 g.2.2.2.2.2.1, fun i hi => iA_fr (h _ (by omega) (by omega)).1 (g.2.2.2.2.2.2.1 i hi), fun i hi => iA_fr (h _ (by omega) (by omega)).1 (g.2.2.2.2.2.2.2 i hi)⟩
theorem SnR_fr {μ μ' : qMM} {o : Nat} {s : Nat → Int32} (h : Agr μ μ' o (o + 5)) (g : SnR μ o s) : SnR μ' o s := by
  unfold SnR at g ⊢
  rw [(h o (by omega) (by omega)).2, (h (o + 1) (by omega) (by omega)).2, (h (o + 2) (by omega) (by omega)).2]
  exact g
theorem LkR_fr {μ μ' : qMM} {o k : Nat} {s : Nat → Int32} (h : Agr μ μ' o (o + 2)) (g : LkR μ o s k) : LkR μ' o s k := by
  unfold LkR at g ⊢
  rw [(h o (by omega) (by omega)).2, (h (o + 1) (by omega) (by omega)).2]
  exact g
theorem RcR_fr {μ μ' : qMM} {o : Nat} {s : Nat → Int32} (h : Agr μ μ' o (o + 70)) (g : RcR μ o s) : RcR μ' o s := by
  unfold RcR at g ⊢
  rw [(h o (by omega) (by omega)).2, (h (o + 1) (by omega) (by omega)).2, (h (o + 3) (by omega) (by omega)).2]
  refine ⟨g.1, g.2.1, fun k hk => ⟨(g.2.2 k hk).1, fun q j hj => ?_⟩⟩
  rw [(h (o + 5 + k) (by omega) (by omega)).2]
  exact (g.2.2 k hk).2 q j hj
theorem CsR_fr {μ μ' : qMM} {o : Nat} {s : Nat → Int32} (h : Agr μ μ' o (o + 80)) (g : CsR μ o s) : CsR μ' o s :=
  ⟨SnR_fr (fun c a b => h c (by omega) (by omega)) g.1, RcR_fr (fun c a b => h c (by omega) (by omega)) g.2.1, LkR_fr (fun c a b => h c (by omega) (by omega)) g.2.2.1, LkR_fr (fun c a b => h c (by omega) (by omega)) g.2.2.2⟩
theorem xX6_init (o : Nat) (x1 : Nat) (μ : qMM) (ht : ∃ t, mS μ o = some (.inl (5, t))) (hp : PX6_init o x1 μ) : EX (SX6_init (rtv 79 1106 (QX6_init o x1 μ)) (fun _ _ _ => False)) 0 [some (.ref o), some (.ref x1)] [] [] μ (0, 0) := by
  obtain ⟨h1, h2, h3⟩ := hp
  have hx : ∃ t, mS μ o = some t := ⟨_, h1⟩
  simp [eX6_init_0, eX6_init_1, eX6_init_4, eX6_init_5, eX6_init_8i, eX6_init_8r, hx, h1, h2, qNwO, nX6, nlt, nle, Nat.add_assoc, qNwA, qNwM, qPut, qOkR, qOk, mS_mk1, mS_wT, mS_wI, mS_wR, mS_mkM, mN_mk1, mN_wT, mN_wI, mN_wR, mN_mkM, rtv_at, (show ¬ (4 : Int32) < 0 by decide), (show (4 : Int32).toNatClampNeg = 4 by decide), (show ¬ (6 : Int32) < 0 by decide), (show (6 : Int32).toNatClampNeg = 6 by decide), (show ¬ (20 : Int32) < 0 by decide), (show (20 : Int32).toNatClampNeg = 20 by decide), (show ¬ (50 : Int32) < 0 by decide), (show (50 : Int32).toNatClampNeg = 50 by decide), (show ¬ (64 : Int32) < 0 by decide), (show (64 : Int32).toNatClampNeg = 64 by decide), (show ¬ (100 : Int32) < 0 by decide), (show (100 : Int32).toNatClampNeg = 100 by decide), (show ¬ (500 : Int32) < 0 by decide), (show (500 : Int32).toNatClampNeg = 500 by decide), (show ¬ (5514 : Int32) < 0 by decide), (show (5514 : Int32).toNatClampNeg = 5514 by decide), (show ¬ (22056 : Int32) < 0 by decide), (show (22056 : Int32).toNatClampNeg = 22056 by decide), -Prod.forall]
  simp [eX6_init_9, PX0_init, NwP, nlt, nle, Nat.add_assoc, qNwA, qNwM, qPut, qOkR, qOk, mS_mk1, mS_wT, mS_wI, mS_wR, mS_mkM, mN_mk1, mN_wT, mN_wI, mN_wR, mN_mkM, rtv_at, (show ¬ (4 : Int32) < 0 by decide), (show (4 : Int32).toNatClampNeg = 4 by decide), (show ¬ (6 : Int32) < 0 by decide), (show (6 : Int32).toNatClampNeg = 6 by decide), (show ¬ (20 : Int32) < 0 by decide), (show (20 : Int32).toNatClampNeg = 20 by decide), (show ¬ (50 : Int32) < 0 by decide), (show (50 : Int32).toNatClampNeg = 50 by decide), (show ¬ (64 : Int32) < 0 by decide), (show (64 : Int32).toNatClampNeg = 64 by decide), (show ¬ (100 : Int32) < 0 by decide), (show (100 : Int32).toNatClampNeg = 100 by decide), (show ¬ (500 : Int32) < 0 by decide), (show (500 : Int32).toNatClampNeg = 500 by decide), (show ¬ (5514 : Int32) < 0 by decide), (show (5514 : Int32).toNatClampNeg = 5514 by decide), (show ¬ (22056 : Int32) < 0 by decide), (show (22056 : Int32).toNatClampNeg = 22056 by decide), -Prod.forall]
  refine ⟨?_, fun μ1 q => ?_⟩
  · simp [nlt, nle, Nat.add_assoc, wI_def, mS_wR, mS_wT, mS_mk1, mS_mkM, mI_wR, mI_wT, mI_mk1, mI_mkM, mJ_wR, mJ_wT, mJ_mk1, mJ_mkM, mN_wR, mN_wT, mN_mk1, mN_mkM]
  obtain ⟨⟨q1, q2⟩, q3, q4, q5⟩ := q
  have e0 := q2 o (by omega)
  have fr1 : ∀ b, b < o + 1 → b ≠ o → mS μ1 b = mS μ b ∧ mI μ1 b = mI μ b ∧ mJ μ1 b = mJ μ b := fun b hb b1 => by
    have b2 : b ≠ o + 1 := by omega
    have := q2 b hb
    simpa [nlt, nle, Nat.add_assoc, wI_def, mS_wR, mS_wT, mS_mk1, mS_mkM, mI_wR, mI_wT, mI_mk1, mI_mkM, mJ_wR, mJ_wT, mJ_mk1, mJ_mkM, mN_wR, mN_wT, mN_mk1, mN_mkM, b1, b2] using this
  simp [nlt, nle, Nat.add_assoc, wI_def, mS_wR, mS_wT, mS_mk1, mS_mkM, mI_wR, mI_wT, mI_mk1, mI_mkM, mJ_wR, mJ_wT, mJ_mk1, mJ_mkM, mN_wR, mN_wT, mN_mk1, mN_mkM] at e0 q1
  obtain ⟨e1, e2', e3'⟩ := e0
  replace e2 := e2'
  rw [h1] at e1
  clear q2 e3'
  simp [eX6_init_12, eX6_init_15, eX6_init_16, eX6_init_19i, eX6_init_19r, qNwO, nX6, e1, q1, nlt, nle, Nat.add_assoc, qNwA, qNwM, qPut, qOkR, qOk, mS_mk1, mS_wT, mS_wI, mS_wR, mS_mkM, mN_mk1, mN_wT, mN_wI, mN_wR, mN_mkM, rtv_at, (show ¬ (4 : Int32) < 0 by decide), (show (4 : Int32).toNatClampNeg = 4 by decide), (show ¬ (6 : Int32) < 0 by decide), (show (6 : Int32).toNatClampNeg = 6 by decide), (show ¬ (20 : Int32) < 0 by decide), (show (20 : Int32).toNatClampNeg = 20 by decide), (show ¬ (50 : Int32) < 0 by decide), (show (50 : Int32).toNatClampNeg = 50 by decide), (show ¬ (64 : Int32) < 0 by decide), (show (64 : Int32).toNatClampNeg = 64 by decide), (show ¬ (100 : Int32) < 0 by decide), (show (100 : Int32).toNatClampNeg = 100 by decide), (show ¬ (500 : Int32) < 0 by decide), (show (500 : Int32).toNatClampNeg = 500 by decide), (show ¬ (5514 : Int32) < 0 by decide), (show (5514 : Int32).toNatClampNeg = 5514 by decide), (show ¬ (22056 : Int32) < 0 by decide), (show (22056 : Int32).toNatClampNeg = 22056 by decide), -Prod.forall]
  simp [eX6_init_20, PX0_init, NwP, nlt, nle, Nat.add_assoc, qNwA, qNwM, qPut, qOkR, qOk, mS_mk1, mS_wT, mS_wI, mS_wR, mS_mkM, mN_mk1, mN_wT, mN_wI, mN_wR, mN_mkM, rtv_at, (show ¬ (4 : Int32) < 0 by decide), (show (4 : Int32).toNatClampNeg = 4 by decide), (show ¬ (6 : Int32) < 0 by decide), (show (6 : Int32).toNatClampNeg = 6 by decide), (show ¬ (20 : Int32) < 0 by decide), (show (20 : Int32).toNatClampNeg = 20 by decide), (show ¬ (50 : Int32) < 0 by decide), (show (50 : Int32).toNatClampNeg = 50 by decide), (show ¬ (64 : Int32) < 0 by decide), (show (64 : Int32).toNatClampNeg = 64 by decide), (show ¬ (100 : Int32) < 0 by decide), (show (100 : Int32).toNatClampNeg = 100 by decide), (show ¬ (500 : Int32) < 0 by decide), (show (500 : Int32).toNatClampNeg = 500 by decide), (show ¬ (5514 : Int32) < 0 by decide), (show (5514 : Int32).toNatClampNeg = 5514 by decide), (show ¬ (22056 : Int32) < 0 by decide), (show (22056 : Int32).toNatClampNeg = 22056 by decide), -Prod.forall]
  refine ⟨?_, fun μ2 q => ?_⟩
  · simp [nlt, nle, Nat.add_assoc, wI_def, mS_wR, mS_wT, mS_mk1, mS_mkM, mI_wR, mI_wT, mI_mk1, mI_mkM, mJ_wR, mJ_wT, mJ_mk1, mJ_mkM, mN_wR, mN_wT, mN_mk1, mN_mkM]
  obtain ⟨⟨q1, q2⟩, p3, p4, p5⟩ := q
  have e0 := q2 o (by omega)
  have fr2 : ∀ b, b < o + 3 → b ≠ o → mS μ2 b = mS μ1 b ∧ mI μ2 b = mI μ1 b ∧ mJ μ2 b = mJ μ1 b := fun b hb b1 => by
    have b2 : b ≠ o + 3 := by omega
    have := q2 b hb
    simpa [nlt, nle, Nat.add_assoc, wI_def, mS_wR, mS_wT, mS_mk1, mS_mkM, mI_wR, mI_wT, mI_mk1, mI_mkM, mJ_wR, mJ_wT, mJ_mk1, mJ_mkM, mN_wR, mN_wT, mN_mk1, mN_mkM, b1, b2] using this
  simp [nlt, nle, Nat.add_assoc, wI_def, mS_wR, mS_wT, mS_mk1, mS_mkM, mI_wR, mI_wT, mI_mk1, mI_mkM, mJ_wR, mJ_wT, mJ_mk1, mJ_mkM, mN_wR, mN_wT, mN_mk1, mN_mkM] at e0 q1
  obtain ⟨e1, e2', e3'⟩ := e0
  rw [e2] at e2'
  replace e2 := e2'
  clear q2 e3'
  simp [eX6_init_23, eX6_init_26, eX6_init_27, eX6_init_30i, eX6_init_30r, eX6_init_31, qNwO, nX6, e1, q1, nlt, nle, Nat.add_assoc, qNwA, qNwM, qPut, qOkR, qOk, mS_mk1, mS_wT, mS_wI, mS_wR, mS_mkM, mN_mk1, mN_wT, mN_wI, mN_wR, mN_mkM, rtv_at, (show ¬ (4 : Int32) < 0 by decide), (show (4 : Int32).toNatClampNeg = 4 by decide), (show ¬ (6 : Int32) < 0 by decide), (show (6 : Int32).toNatClampNeg = 6 by decide), (show ¬ (20 : Int32) < 0 by decide), (show (20 : Int32).toNatClampNeg = 20 by decide), (show ¬ (50 : Int32) < 0 by decide), (show (50 : Int32).toNatClampNeg = 50 by decide), (show ¬ (64 : Int32) < 0 by decide), (show (64 : Int32).toNatClampNeg = 64 by decide), (show ¬ (100 : Int32) < 0 by decide), (show (100 : Int32).toNatClampNeg = 100 by decide), (show ¬ (500 : Int32) < 0 by decide), (show (500 : Int32).toNatClampNeg = 500 by decide), (show ¬ (5514 : Int32) < 0 by decide), (show (5514 : Int32).toNatClampNeg = 5514 by decide), (show ¬ (22056 : Int32) < 0 by decide), (show (22056 : Int32).toNatClampNeg = 22056 by decide), -Prod.forall]
  simp [eX6_init_32, PX5_init, NwP, nlt, nle, Nat.add_assoc, qNwA, qNwM, qPut, qOkR, qOk, mS_mk1, mS_wT, mS_wI, mS_wR, mS_mkM, mN_mk1, mN_wT, mN_wI, mN_wR, mN_mkM, rtv_at, (show ¬ (4 : Int32) < 0 by decide), (show (4 : Int32).toNatClampNeg = 4 by decide), (show ¬ (6 : Int32) < 0 by decide), (show (6 : Int32).toNatClampNeg = 6 by decide), (show ¬ (20 : Int32) < 0 by decide), (show (20 : Int32).toNatClampNeg = 20 by decide), (show ¬ (50 : Int32) < 0 by decide), (show (50 : Int32).toNatClampNeg = 50 by decide), (show ¬ (64 : Int32) < 0 by decide), (show (64 : Int32).toNatClampNeg = 64 by decide), (show ¬ (100 : Int32) < 0 by decide), (show (100 : Int32).toNatClampNeg = 100 by decide), (show ¬ (500 : Int32) < 0 by decide), (show (500 : Int32).toNatClampNeg = 500 by decide), (show ¬ (5514 : Int32) < 0 by decide), (show (5514 : Int32).toNatClampNeg = 5514 by decide), (show ¬ (22056 : Int32) < 0 by decide), (show (22056 : Int32).toNatClampNeg = 22056 by decide), -Prod.forall]
  refine ⟨?_, fun μ3 q => ?_⟩
  · simp [nlt, nle, Nat.add_assoc, wI_def, mS_wR, mS_wT, mS_mk1, mS_mkM, mI_wR, mI_wT, mI_mk1, mI_mkM, mJ_wR, mJ_wT, mJ_mk1, mJ_mkM, mN_wR, mN_wT, mN_mk1, mN_mkM]
  obtain ⟨⟨q1, q2⟩, s3, s4⟩ := q
  have e0 := q2 o (by omega)
  have fr3 : ∀ b, b < o + 5 → b ≠ o → mS μ3 b = mS μ2 b ∧ mI μ3 b = mI μ2 b ∧ mJ μ3 b = mJ μ2 b := fun b hb b1 => by
    have b2 : b ≠ o + 5 := by omega
    have := q2 b hb
    simpa [nlt, nle, Nat.add_assoc, wI_def, mS_wR, mS_wT, mS_mk1, mS_mkM, mI_wR, mI_wT, mI_mk1, mI_mkM, mJ_wR, mJ_wT, mJ_mk1, mJ_mkM, mN_wR, mN_wT, mN_mk1, mN_mkM, b1, b2] using this
  simp [nlt, nle, Nat.add_assoc, wI_def, mS_wR, mS_wT, mS_mk1, mS_mkM, mI_wR, mI_wT, mI_mk1, mI_mkM, mJ_wR, mJ_wT, mJ_mk1, mJ_mkM, mN_wR, mN_wT, mN_mk1, mN_mkM] at e0 q1
  obtain ⟨e1, e2', e3'⟩ := e0
  rw [e2] at e2'
  replace e2 := e2'
  clear q2 e3'
  simp [eX6_init_35, eX6_init_38, eX6_init_39, eX6_init_42i, eX6_init_42r, eX6_init_43, qNwO, nX6, e1, q1, nlt, nle, Nat.add_assoc, qNwA, qNwM, qPut, qOkR, qOk, mS_mk1, mS_wT, mS_wI, mS_wR, mS_mkM, mN_mk1, mN_wT, mN_wI, mN_wR, mN_mkM, rtv_at, (show ¬ (4 : Int32) < 0 by decide), (show (4 : Int32).toNatClampNeg = 4 by decide), (show ¬ (6 : Int32) < 0 by decide), (show (6 : Int32).toNatClampNeg = 6 by decide), (show ¬ (20 : Int32) < 0 by decide), (show (20 : Int32).toNatClampNeg = 20 by decide), (show ¬ (50 : Int32) < 0 by decide), (show (50 : Int32).toNatClampNeg = 50 by decide), (show ¬ (64 : Int32) < 0 by decide), (show (64 : Int32).toNatClampNeg = 64 by decide), (show ¬ (100 : Int32) < 0 by decide), (show (100 : Int32).toNatClampNeg = 100 by decide), (show ¬ (500 : Int32) < 0 by decide), (show (500 : Int32).toNatClampNeg = 500 by decide), (show ¬ (5514 : Int32) < 0 by decide), (show (5514 : Int32).toNatClampNeg = 5514 by decide), (show ¬ (22056 : Int32) < 0 by decide), (show (22056 : Int32).toNatClampNeg = 22056 by decide), -Prod.forall]
  simp [eX6_init_44, PX2_init, NwP, nlt, nle, Nat.add_assoc, qNwA, qNwM, qPut, qOkR, qOk, mS_mk1, mS_wT, mS_wI, mS_wR, mS_mkM, mN_mk1, mN_wT, mN_wI, mN_wR, mN_mkM, rtv_at, (show ¬ (4 : Int32) < 0 by decide), (show (4 : Int32).toNatClampNeg = 4 by decide), (show ¬ (6 : Int32) < 0 by decide), (show (6 : Int32).toNatClampNeg = 6 by decide), (show ¬ (20 : Int32) < 0 by decide), (show (20 : Int32).toNatClampNeg = 20 by decide), (show ¬ (50 : Int32) < 0 by decide), (show (50 : Int32).toNatClampNeg = 50 by decide), (show ¬ (64 : Int32) < 0 by decide), (show (64 : Int32).toNatClampNeg = 64 by decide), (show ¬ (100 : Int32) < 0 by decide), (show (100 : Int32).toNatClampNeg = 100 by decide), (show ¬ (500 : Int32) < 0 by decide), (show (500 : Int32).toNatClampNeg = 500 by decide), (show ¬ (5514 : Int32) < 0 by decide), (show (5514 : Int32).toNatClampNeg = 5514 by decide), (show ¬ (22056 : Int32) < 0 by decide), (show (22056 : Int32).toNatClampNeg = 22056 by decide), -Prod.forall]
  refine ⟨?_, fun μ4 q => ?_⟩
  · simp [nlt, nle, Nat.add_assoc, wI_def, mS_wR, mS_wT, mS_mk1, mS_mkM, mI_wR, mI_wT, mI_mk1, mI_mkM, mJ_wR, mJ_wT, mJ_mk1, mJ_mkM, mN_wR, mN_wT, mN_mk1, mN_mkM]
  obtain ⟨⟨q1, q2⟩, r3, r4⟩ := q
  have e0 := q2 o (by omega)
  have fr4 : ∀ b, b < o + 10 → b ≠ o → mS μ4 b = mS μ3 b ∧ mI μ4 b = mI μ3 b ∧ mJ μ4 b = mJ μ3 b := fun b hb b1 => by
    have b2 : b ≠ o + 10 := by omega
    have := q2 b hb
    simpa [nlt, nle, Nat.add_assoc, wI_def, mS_wR, mS_wT, mS_mk1, mS_mkM, mI_wR, mI_wT, mI_mk1, mI_mkM, mJ_wR, mJ_wT, mJ_mk1, mJ_mkM, mN_wR, mN_wT, mN_mk1, mN_mkM, b1, b2] using this
  simp [nlt, nle, Nat.add_assoc, wI_def, mS_wR, mS_wT, mS_mk1, mS_mkM, mI_wR, mI_wT, mI_mk1, mI_mkM, mJ_wR, mJ_wT, mJ_mk1, mJ_mkM, mN_wR, mN_wT, mN_mk1, mN_mkM] at e0 q1
  obtain ⟨e1, e2', e3'⟩ := e0
  rw [e2] at e2'
  replace e2 := e2'
  clear q2 e3'
  simp [eX6_init_47, eX6_init_50, e1, q1, nlt, nle, Nat.add_assoc, qNwA, qNwM, qPut, qOkR, qOk, mS_mk1, mS_wT, mS_wI, mS_wR, mS_mkM, mN_mk1, mN_wT, mN_wI, mN_wR, mN_mkM, rtv_at, (show ¬ (4 : Int32) < 0 by decide), (show (4 : Int32).toNatClampNeg = 4 by decide), (show ¬ (6 : Int32) < 0 by decide), (show (6 : Int32).toNatClampNeg = 6 by decide), (show ¬ (20 : Int32) < 0 by decide), (show (20 : Int32).toNatClampNeg = 20 by decide), (show ¬ (50 : Int32) < 0 by decide), (show (50 : Int32).toNatClampNeg = 50 by decide), (show ¬ (64 : Int32) < 0 by decide), (show (64 : Int32).toNatClampNeg = 64 by decide), (show ¬ (100 : Int32) < 0 by decide), (show (100 : Int32).toNatClampNeg = 100 by decide), (show ¬ (500 : Int32) < 0 by decide), (show (500 : Int32).toNatClampNeg = 500 by decide), (show ¬ (5514 : Int32) < 0 by decide), (show (5514 : Int32).toNatClampNeg = 5514 by decide), (show ¬ (22056 : Int32) < 0 by decide), (show (22056 : Int32).toNatClampNeg = 22056 by decide), -Prod.forall]
  have fe : ∀ b, b ≠ o → mS (wT μ4 o (.inl (5, [.ref (o + 5), .ref (o + 10), .ref (o + 1), .ref (o + 3)]))) b = mS μ4 b ∧ mI (wT μ4 o (.inl (5, [.ref (o + 5), .ref (o + 10), .ref (o + 1), .ref (o + 3)]))) b = mI μ4 b ∧ mJ (wT μ4 o (.inl (5, [.ref (o + 5), .ref (o + 10), .ref (o + 1), .ref (o + 3)]))) b = mJ μ4 b := fun b b1 => by
    simp [nlt, nle, Nat.add_assoc, wI_def, mS_wR, mS_wT, mS_mk1, mS_mkM, mI_wR, mI_wT, mI_mk1, mI_mkM, mJ_wR, mJ_wT, mJ_mk1, mJ_mkM, mN_wR, mN_wT, mN_mk1, mN_mkM, b1]
  have f4 : ∀ b, b ≠ o → b < o + 10 → mS (wT μ4 o (.inl (5, [.ref (o + 5), .ref (o + 10), .ref (o + 1), .ref (o + 3)]))) b = mS μ3 b ∧ mI (wT μ4 o (.inl (5, [.ref (o + 5), .ref (o + 10), .ref (o + 1), .ref (o + 3)]))) b = mI μ3 b ∧ mJ (wT μ4 o (.inl (5, [.ref (o + 5), .ref (o + 10), .ref (o + 1), .ref (o + 3)]))) b = mJ μ3 b := fun b b1 b2 => by
    rw [(fe b b1).1, (fe b b1).2.1, (fe b b1).2.2]
    exact fr4 b b2 b1
  have f3 : ∀ b, b ≠ o → b < o + 5 → mS (wT μ4 o (.inl (5, [.ref (o + 5), .ref (o + 10), .ref (o + 1), .ref (o + 3)]))) b = mS μ2 b ∧ mI (wT μ4 o (.inl (5, [.ref (o + 5), .ref (o + 10), .ref (o + 1), .ref (o + 3)]))) b = mI μ2 b ∧ mJ (wT μ4 o (.inl (5, [.ref (o + 5), .ref (o + 10), .ref (o + 1), .ref (o + 3)]))) b = mJ μ2 b := fun b b1 b2 => by
    rw [(f4 b b1 (by omega)).1, (f4 b b1 (by omega)).2.1, (f4 b b1 (by omega)).2.2]
    exact fr3 b b2 b1
  have f2 : ∀ b, b ≠ o → b < o + 3 → mS (wT μ4 o (.inl (5, [.ref (o + 5), .ref (o + 10), .ref (o + 1), .ref (o + 3)]))) b = mS μ1 b ∧ mI (wT μ4 o (.inl (5, [.ref (o + 5), .ref (o + 10), .ref (o + 1), .ref (o + 3)]))) b = mI μ1 b ∧ mJ (wT μ4 o (.inl (5, [.ref (o + 5), .ref (o + 10), .ref (o + 1), .ref (o + 3)]))) b = mJ μ1 b := fun b b1 b2 => by
    rw [(f3 b b1 (by omega)).1, (f3 b b1 (by omega)).2.1, (f3 b b1 (by omega)).2.2]
    exact fr2 b b2 b1
  have hN : mN (wT μ4 o (.inl (5, [.ref (o + 5), .ref (o + 10), .ref (o + 1), .ref (o + 3)]))) = some (o + 80) := by
    simp [nlt, nle, Nat.add_assoc, wI_def, mS_wR, mS_wT, mS_mk1, mS_mkM, mI_wR, mI_wT, mI_mk1, mI_mkM, mJ_wR, mJ_wT, mJ_mk1, mJ_mkM, mN_wR, mN_wT, mN_mk1, mN_mkM, q1]
  have hO : mS (wT μ4 o (.inl (5, [.ref (o + 5), .ref (o + 10), .ref (o + 1), .ref (o + 3)]))) o = some (.inl (5, [.ref (o + 5), .ref (o + 10), .ref (o + 1), .ref (o + 3)])) := by
    simp [nlt, nle, Nat.add_assoc, wI_def, mS_wR, mS_wT, mS_mk1, mS_mkM, mI_wR, mI_wT, mI_mk1, mI_mkM, mJ_wR, mJ_wT, mJ_mk1, mJ_mkM, mN_wR, mN_wT, mN_mk1, mN_mkM]
  generalize wT μ4 o (.inl (5, [.ref (o + 5), .ref (o + 10), .ref (o + 1), .ref (o + 3)])) = μ' at hN hO fe f4 f3 f2 ⊢
  have aR : Agr μ4 μ' (o + 10) (o + 80) := fun c a b => ⟨(fe c (by omega)).1, (fe c (by omega)).2.1⟩
  have aS : Agr μ3 μ' (o + 5) (o + 10) := fun c a b => ⟨(f4 c (by omega) (by omega)).1, (f4 c (by omega) (by omega)).2.1⟩
  have aB : Agr μ2 μ' (o + 3) (o + 5) := fun c a b => ⟨(f3 c (by omega) (by omega)).1, (f3 c (by omega) (by omega)).2.1⟩
  have aF : Agr μ1 μ' (o + 1) (o + 3) := fun c a b => ⟨(f2 c (by omega) (by omega)).1, (f2 c (by omega) (by omega)).2.1⟩
  refine ⟨⟨hN, fun b hb => ?_⟩, ⟨hO, SeS_fr aS s3, ReS_fr aR r3, LkS_fr aF q3, LkS_fr aB p3⟩, SnR_fr aS s4, RcR_fr aR r4, LkR_fr aF ⟨?_, fun i hi => ?_⟩, LkR_fr aB ⟨?_, fun i hi => ?_⟩⟩
  · have := f2 b (by omega) (by omega)
    have := fr1 b (by omega) (by omega)
    simp [*]
  · rw [q4]
    simp [zI, stI]
  · exact absurd hi (by simp [stI])
  · rw [p4]
    simp [zI, stI]
  · exact absurd hi (by simp [stI])
def filS (f : Nat → Int32) (n : Nat) : Nat → Int32 := fun k => if 66 ≤ k ∧ k < 66 + 7 * n ∧ (k - 66) % 7 = 0 then -1 else f k
theorem s67 : ∀ i, i < 64 → (66 : Int32) + 7 * nI i = nI (66 + 7 * i) := by decide +kernel
theorem xX8_init_s {R : Option Value → qMM → Nat × Nat → Prop} {X : String → qMM → Nat × Nat → Prop} {o i : Nat} {μ : qMM} (hi : i < 5) (hN : mN μ = some (o + 1088 + 80 * i)) (hO : mS μ o = some (.inl (7, [.ref (o + 1007), .ref (o + 1087), .int 0, .int 0, .null]))) (hP : mS μ (o + 1087) = some (.inr (3, 5, fun k => if k < i then some (o + 1088 + 80 * k) else none)))
    (hk : ∀ μ', mN μ' = some (o + 1088 + 80 * (i + 1)) → mS μ' (o + 1087) = some (.inr (3, 5, fun k => if k < i + 1 then some (o + 1088 + 80 * k) else none)) → StS μ' (o + 1) (o + 1088 + 80 * i) → (∀ b, b < o + 1088 + 80 * i → b ≠ o + 1087 → mS μ' b = mS μ b ∧ mI μ' b = mI μ b ∧ mJ μ' b = mJ μ b) → EX (SX8_init R X) 34 [some (.ref o), some (.ref (o + 1)), some (.int (nI (i + 1)))] [] [] μ' (1087 + 80 * (i + 1), 8620 + 1110 * (i + 1))) :
    EX (SX8_init R X) 34 [some (.ref o), some (.ref (o + 1)), some (.int (nI i))] [] [] μ (1087 + 80 * i, 8620 + 1110 * i) := by
  rw [eX8_init_34]
  simp [eX8_init_35, eX8_init_36, eX8_init_39, eX8_init_40, eX8_init_43, eX8_init_44, eX8_init_47i, eX8_init_47r, eX8_init_48, hN, hO, qGet, qNwO, nX8, -Prod.forall]
  refine ⟨fun h => absurd h (nI_ge (b := 5) (by omega) (by decide)), fun _ => ⟨by omega, by omega, ?_⟩⟩
  simp [eX8_init_49, PX6_init, NwP, nlt, nle, Nat.add_assoc, qNwA, qNwM, qPut, qOkR, qOk, mS_mk1, mS_wT, mS_wI, mS_wR, mS_mkM, mN_mk1, mN_wT, mN_wI, mN_wR, mN_mkM, rtv_at, (show ¬ (4 : Int32) < 0 by decide), (show (4 : Int32).toNatClampNeg = 4 by decide), (show ¬ (6 : Int32) < 0 by decide), (show (6 : Int32).toNatClampNeg = 6 by decide), (show ¬ (20 : Int32) < 0 by decide), (show (20 : Int32).toNatClampNeg = 20 by decide), (show ¬ (50 : Int32) < 0 by decide), (show (50 : Int32).toNatClampNeg = 50 by decide), (show ¬ (64 : Int32) < 0 by decide), (show (64 : Int32).toNatClampNeg = 64 by decide), (show ¬ (100 : Int32) < 0 by decide), (show (100 : Int32).toNatClampNeg = 100 by decide), (show ¬ (500 : Int32) < 0 by decide), (show (500 : Int32).toNatClampNeg = 500 by decide), (show ¬ (5514 : Int32) < 0 by decide), (show (5514 : Int32).toNatClampNeg = 5514 by decide), (show ¬ (22056 : Int32) < 0 by decide), (show (22056 : Int32).toNatClampNeg = 22056 by decide), -Prod.forall]
  refine ⟨by omega, by omega, ?_, fun μ' q => ?_⟩
  · simp [nlt, nle, Nat.add_assoc, wI_def, mS_wR, mS_wT, mS_mk1, mS_mkM, mI_wR, mI_wT, mI_mk1, mI_mkM, mJ_wR, mJ_wT, mJ_mk1, mJ_mkM, mN_wR, mN_wT, mN_mk1, mN_mkM]
  obtain ⟨⟨q1, q2⟩, q3, q4⟩ := q
  have q1' : mN μ' = some (o + 1088 + 80 * (i + 1)) := by
    rw [q1]
    simp only [Option.some.injEq]
    omega
  have fr : ∀ b, b < o + 1088 + 80 * i → mS μ' b = mS μ b ∧ mI μ' b = mI μ b ∧ mJ μ' b = mJ μ b := fun b hb => by
    have b2 : b ≠ o + (1088 + 80 * i) := by omega
    have := q2 b (by omega)
    simpa [nlt, nle, Nat.add_assoc, wI_def, mS_wR, mS_wT, mS_mk1, mS_mkM, mI_wR, mI_wT, mI_mk1, mI_mkM, mJ_wR, mJ_wT, mJ_mk1, mJ_mkM, mN_wR, mN_wT, mN_mk1, mN_mkM, b2] using this
  clear q2
  have eP := (fr (o + 1087) (by omega)).1
  rw [hP] at eP
  have eS := q3.1
  unfold obX6 at eS
  simp only [eX8_init_52, qAst, eP, eS, vp5 hi, true_and, nIc (show i < 500 by omega), eX8_init_53, eX8_init_56, nI_1]
  have hn : o + (1088 + 80 * i) = o + 1088 + 80 * i := by omega
  have hu : va_up (fun k => if k < i then some (o + 1088 + 80 * k) else none) i (some (o + (1088 + 80 * i))) = fun k => if k < i + 1 then some (o + 1088 + 80 * k) else none := by
    funext k
    unfold va_up
    by_cases g : k = i
    · subst g
      simp [hn]
    · by_cases g2 : k < i
      · simp [g, g2, Nat.lt_succ_of_lt g2]
      · have : ¬ k < i + 1 := by omega
        simp [g, g2, this]
  rw [hu]
  have hz : ∀ b, b ≠ o + 1087 → mS (wT μ' (o + 1087) (.inr (3, 5, fun k => if k < i + 1 then some (o + 1088 + 80 * k) else none))) b = mS μ' b ∧ mI (wT μ' (o + 1087) (.inr (3, 5, fun k => if k < i + 1 then some (o + 1088 + 80 * k) else none))) b = mI μ' b ∧ mJ (wT μ' (o + 1087) (.inr (3, 5, fun k => if k < i + 1 then some (o + 1088 + 80 * k) else none))) b = mJ μ' b := fun b b1 => by
    simp [nlt, nle, Nat.add_assoc, wI_def, mS_wR, mS_wT, mS_mk1, mS_mkM, mI_wR, mI_wT, mI_mk1, mI_mkM, mJ_wR, mJ_wT, mJ_mk1, mJ_mkM, mN_wR, mN_wT, mN_mk1, mN_mkM, b1]
  have := hk (wT μ' (o + 1087) (.inr (3, 5, fun k => if k < i + 1 then some (o + 1088 + 80 * k) else none))) (by rw [mN_wT, q1']) (by simp [nlt, nle, Nat.add_assoc, wI_def, mS_wR, mS_wT, mS_mk1, mS_mkM, mI_wR, mI_wT, mI_mk1, mI_mkM, mJ_wR, mJ_wT, mJ_mk1, mJ_mkM, mN_wR, mN_wT, mN_mk1, mN_mkM]) (by
    rw [hn] at q3
    exact StS_fr (fun c a b => ⟨(hz c (by omega)).1, (hz c (by omega)).2.1⟩) q3) (fun b b1 b2 => by
    rw [(hz b b2).1, (hz b b2).2.1, (hz b b2).2.2]
    exact fr b b1)
  exact this
def InP (o : Nat) (ν μ : qMM) (i : Nat) : Prop := mN μ = some (o + 1088 + 80 * i) ∧ mS μ o = some (.inl (7, [.ref (o + 1007), .ref (o + 1087), .int 0, .int 0, .null])) ∧ mS μ (o + 1087) = some (.inr (3, 5, fun k => if k < i then some (o + 1088 + 80 * k) else none)) ∧ (∀ j, j < i → StS μ (o + 1) (o + 1088 + 80 * j)) ∧ ∀ b, b < o + 1088 → b ≠ o + 1087 → mS μ b = mS ν b ∧ mI μ b = mI ν b ∧ mJ μ b = mJ ν b
theorem xX8_init_l {R : Option Value → qMM → Nat × Nat → Prop} {X : String → qMM → Nat × Nat → Prop} {o : Nat} {ν : qMM} (h59 : ∀ μ, InP o ν μ 5 → EX (SX8_init R X) 59 [some (.ref o), some (.ref (o + 1)), some (.int (nI 5))] [] [] μ (1487, 14170)) : ∀ (k i : Nat) (μ : qMM), i + k = 5 → InP o ν μ i → EX (SX8_init R X) 34 [some (.ref o), some (.ref (o + 1)), some (.int (nI i))] [] [] μ (1087 + 80 * i, 8620 + 1110 * i) := by
  intro k
  induction k with
  | zero =>
    intro i μ hi h
    have : i = 5 := by omega
    subst this
    rw [eX8_init_34]
    simp only [eX8_init_35, eX8_init_36]
    exact ⟨fun _ => h59 μ h, fun h => absurd (by decide) h⟩
  | succ k ih =>
    intro i μ hi h
    refine xX8_init_s (by omega) h.1 h.2.1 h.2.2.1 (fun μ' a b c d => ih (i + 1) μ' (by omega) ⟨a, ?_, b, fun j hj => ?_, fun e e1 e2 => ?_⟩)
    · rw [(d o (by omega) (by omega)).1]
      exact h.2.1
    · by_cases g : j = i
      · subst g
        exact c
      · exact StS_fr (fun e e1 e2 => ⟨(d e (by omega) (by omega)).1, (d e (by omega) (by omega)).2.1⟩) (h.2.2.2.1 j (by omega))
    · rw [(d e (by omega) e2).1, (d e (by omega) e2).2.1, (d e (by omega) e2).2.2]
      exact h.2.2.2.2 e e1 e2
theorem xX8_init (o : Nat) (μ : qMM) (ht : ∃ t, mS μ o = some (.inl (7, t))) (hp : PX8_init o μ) : EX (SX8_init (rtv 1491 14375 (QX8_init o μ)) (fun _ _ _ => False)) 0 [some (.ref o), none, none] [] [] μ (0, 0) := by
  obtain ⟨h1, h2, h3⟩ := hp
  have hx : ∃ t, mS μ o = some t := ⟨_, h1⟩
  simp [eX8_init_0, eX8_init_1, eX8_init_4, eX8_init_7i, eX8_init_7r, hx, h1, h2, qNwO, nX8, nlt, nle, Nat.add_assoc, qNwA, qNwM, qPut, qOkR, qOk, mS_mk1, mS_wT, mS_wI, mS_wR, mS_mkM, mN_mk1, mN_wT, mN_wI, mN_wR, mN_mkM, rtv_at, (show ¬ (4 : Int32) < 0 by decide), (show (4 : Int32).toNatClampNeg = 4 by decide), (show ¬ (6 : Int32) < 0 by decide), (show (6 : Int32).toNatClampNeg = 6 by decide), (show ¬ (20 : Int32) < 0 by decide), (show (20 : Int32).toNatClampNeg = 20 by decide), (show ¬ (50 : Int32) < 0 by decide), (show (50 : Int32).toNatClampNeg = 50 by decide), (show ¬ (64 : Int32) < 0 by decide), (show (64 : Int32).toNatClampNeg = 64 by decide), (show ¬ (100 : Int32) < 0 by decide), (show (100 : Int32).toNatClampNeg = 100 by decide), (show ¬ (500 : Int32) < 0 by decide), (show (500 : Int32).toNatClampNeg = 500 by decide), (show ¬ (5514 : Int32) < 0 by decide), (show (5514 : Int32).toNatClampNeg = 5514 by decide), (show ¬ (22056 : Int32) < 0 by decide), (show (22056 : Int32).toNatClampNeg = 22056 by decide), -Prod.forall]
  simp [eX8_init_8, PX1_init, NwP, nlt, nle, Nat.add_assoc, qNwA, qNwM, qPut, qOkR, qOk, mS_mk1, mS_wT, mS_wI, mS_wR, mS_mkM, mN_mk1, mN_wT, mN_wI, mN_wR, mN_mkM, rtv_at, (show ¬ (4 : Int32) < 0 by decide), (show (4 : Int32).toNatClampNeg = 4 by decide), (show ¬ (6 : Int32) < 0 by decide), (show (6 : Int32).toNatClampNeg = 6 by decide), (show ¬ (20 : Int32) < 0 by decide), (show (20 : Int32).toNatClampNeg = 20 by decide), (show ¬ (50 : Int32) < 0 by decide), (show (50 : Int32).toNatClampNeg = 50 by decide), (show ¬ (64 : Int32) < 0 by decide), (show (64 : Int32).toNatClampNeg = 64 by decide), (show ¬ (100 : Int32) < 0 by decide), (show (100 : Int32).toNatClampNeg = 100 by decide), (show ¬ (500 : Int32) < 0 by decide), (show (500 : Int32).toNatClampNeg = 500 by decide), (show ¬ (5514 : Int32) < 0 by decide), (show (5514 : Int32).toNatClampNeg = 5514 by decide), (show ¬ (22056 : Int32) < 0 by decide), (show (22056 : Int32).toNatClampNeg = 22056 by decide), -Prod.forall]
  refine ⟨?_, fun μ1 q => ?_⟩
  · simp [nlt, nle, Nat.add_assoc, wI_def, mS_wR, mS_wT, mS_mk1, mS_mkM, mI_wR, mI_wT, mI_mk1, mI_mkM, mJ_wR, mJ_wT, mJ_mk1, mJ_mkM, mN_wR, mN_wT, mN_mk1, mN_mkM]
  obtain ⟨⟨q1, q2⟩, q3⟩ := q
  have e0 := q2 o (by omega)
  have fr1 : ∀ b, b < o + 1 → b ≠ o → mS μ1 b = mS μ b ∧ mI μ1 b = mI μ b ∧ mJ μ1 b = mJ μ b := fun b hb b1 => by
    have b2 : b ≠ o + 1 := by omega
    have := q2 b hb
    simpa [nlt, nle, Nat.add_assoc, wI_def, mS_wR, mS_wT, mS_mk1, mS_mkM, mI_wR, mI_wT, mI_mk1, mI_mkM, mJ_wR, mJ_wT, mJ_mk1, mJ_mkM, mN_wR, mN_wT, mN_mk1, mN_mkM, b1, b2] using this
  simp [nlt, nle, Nat.add_assoc, wI_def, mS_wR, mS_wT, mS_mk1, mS_mkM, mI_wR, mI_wT, mI_mk1, mI_mkM, mJ_wR, mJ_wT, mJ_mk1, mJ_mkM, mN_wR, mN_wT, mN_mk1, mN_mkM] at e0 q1
  obtain ⟨e1, e2, e3'⟩ := e0
  rw [h1] at e1
  clear q2 e3'
  simp [eX8_init_11, eX8_init_12, eX8_init_13, eX8_init_16i, eX8_init_16r, eX8_init_17, qNwO, nX8, e1, q1, nlt, nle, Nat.add_assoc, qNwA, qNwM, qPut, qOkR, qOk, mS_mk1, mS_wT, mS_wI, mS_wR, mS_mkM, mN_mk1, mN_wT, mN_wI, mN_wR, mN_mkM, rtv_at, (show ¬ (4 : Int32) < 0 by decide), (show (4 : Int32).toNatClampNeg = 4 by decide), (show ¬ (6 : Int32) < 0 by decide), (show (6 : Int32).toNatClampNeg = 6 by decide), (show ¬ (20 : Int32) < 0 by decide), (show (20 : Int32).toNatClampNeg = 20 by decide), (show ¬ (50 : Int32) < 0 by decide), (show (50 : Int32).toNatClampNeg = 50 by decide), (show ¬ (64 : Int32) < 0 by decide), (show (64 : Int32).toNatClampNeg = 64 by decide), (show ¬ (100 : Int32) < 0 by decide), (show (100 : Int32).toNatClampNeg = 100 by decide), (show ¬ (500 : Int32) < 0 by decide), (show (500 : Int32).toNatClampNeg = 500 by decide), (show ¬ (5514 : Int32) < 0 by decide), (show (5514 : Int32).toNatClampNeg = 5514 by decide), (show ¬ (22056 : Int32) < 0 by decide), (show (22056 : Int32).toNatClampNeg = 22056 by decide), -Prod.forall]
  simp [eX8_init_18, PX6_init, NwP, nlt, nle, Nat.add_assoc, qNwA, qNwM, qPut, qOkR, qOk, mS_mk1, mS_wT, mS_wI, mS_wR, mS_mkM, mN_mk1, mN_wT, mN_wI, mN_wR, mN_mkM, rtv_at, (show ¬ (4 : Int32) < 0 by decide), (show (4 : Int32).toNatClampNeg = 4 by decide), (show ¬ (6 : Int32) < 0 by decide), (show (6 : Int32).toNatClampNeg = 6 by decide), (show ¬ (20 : Int32) < 0 by decide), (show (20 : Int32).toNatClampNeg = 20 by decide), (show ¬ (50 : Int32) < 0 by decide), (show (50 : Int32).toNatClampNeg = 50 by decide), (show ¬ (64 : Int32) < 0 by decide), (show (64 : Int32).toNatClampNeg = 64 by decide), (show ¬ (100 : Int32) < 0 by decide), (show (100 : Int32).toNatClampNeg = 100 by decide), (show ¬ (500 : Int32) < 0 by decide), (show (500 : Int32).toNatClampNeg = 500 by decide), (show ¬ (5514 : Int32) < 0 by decide), (show (5514 : Int32).toNatClampNeg = 5514 by decide), (show ¬ (22056 : Int32) < 0 by decide), (show (22056 : Int32).toNatClampNeg = 22056 by decide), -Prod.forall]
  refine ⟨?_, fun μ2 q => ?_⟩
  · simp [nlt, nle, Nat.add_assoc, wI_def, mS_wR, mS_wT, mS_mk1, mS_mkM, mI_wR, mI_wT, mI_mk1, mI_mkM, mJ_wR, mJ_wT, mJ_mk1, mJ_mkM, mN_wR, mN_wT, mN_mk1, mN_mkM]
  obtain ⟨⟨q1, q2⟩, s3, s4⟩ := q
  have e0 := q2 o (by omega)
  have fr2 : ∀ b, b < o + 1007 → b ≠ o → mS μ2 b = mS μ1 b ∧ mI μ2 b = mI μ1 b ∧ mJ μ2 b = mJ μ1 b := fun b hb b1 => by
    have b2 : b ≠ o + 1007 := by omega
    have := q2 b hb
    simpa [nlt, nle, Nat.add_assoc, wI_def, mS_wR, mS_wT, mS_mk1, mS_mkM, mI_wR, mI_wT, mI_mk1, mI_mkM, mJ_wR, mJ_wT, mJ_mk1, mJ_mkM, mN_wR, mN_wT, mN_mk1, mN_mkM, b1, b2] using this
  simp [nlt, nle, Nat.add_assoc, wI_def, mS_wR, mS_wT, mS_mk1, mS_mkM, mI_wR, mI_wT, mI_mk1, mI_mkM, mJ_wR, mJ_wT, mJ_mk1, mJ_mkM, mN_wR, mN_wT, mN_mk1, mN_mkM] at e0 q1
  obtain ⟨e1', e2', e3'⟩ := e0
  rw [e1] at e1'
  rw [e2] at e2'
  clear q2 e3' e1 e2
  simp [eX8_init_21, eX8_init_24, eX8_init_25, eX8_init_26, eX8_init_29, eX8_init_32, eX8_init_33, qNwO, nX8, e1', q1, qNwA_at (n := o + 1087) (N := 5) (x := 5) (tg := 3), nlt, nle, Nat.add_assoc, qNwA, qNwM, qPut, qOkR, qOk, mS_mk1, mS_wT, mS_wI, mS_wR, mS_mkM, mN_mk1, mN_wT, mN_wI, mN_wR, mN_mkM, rtv_at, (show ¬ (4 : Int32) < 0 by decide), (show (4 : Int32).toNatClampNeg = 4 by decide), (show ¬ (6 : Int32) < 0 by decide), (show (6 : Int32).toNatClampNeg = 6 by decide), (show ¬ (20 : Int32) < 0 by decide), (show (20 : Int32).toNatClampNeg = 20 by decide), (show ¬ (50 : Int32) < 0 by decide), (show (50 : Int32).toNatClampNeg = 50 by decide), (show ¬ (64 : Int32) < 0 by decide), (show (64 : Int32).toNatClampNeg = 64 by decide), (show ¬ (100 : Int32) < 0 by decide), (show (100 : Int32).toNatClampNeg = 100 by decide), (show ¬ (500 : Int32) < 0 by decide), (show (500 : Int32).toNatClampNeg = 500 by decide), (show ¬ (5514 : Int32) < 0 by decide), (show (5514 : Int32).toNatClampNeg = 5514 by decide), (show ¬ (22056 : Int32) < 0 by decide), (show (22056 : Int32).toNatClampNeg = 22056 by decide), -Prod.forall]
  have f3 : ∀ b, b ≠ o → b < o + 1087 → mS (wT (mk1 (wT μ2 o (.inl (7, [.ref (o + 1007), .null, .int 0, .int 0, .null]))) (o + 1087) (.inr (3, 5, fun _ => none))) o (.inl (7, [.ref (o + 1007), .ref (o + 1087), .int 0, .int 0, .null]))) b = mS μ2 b ∧ mI (wT (mk1 (wT μ2 o (.inl (7, [.ref (o + 1007), .null, .int 0, .int 0, .null]))) (o + 1087) (.inr (3, 5, fun _ => none))) o (.inl (7, [.ref (o + 1007), .ref (o + 1087), .int 0, .int 0, .null]))) b = mI μ2 b ∧ mJ (wT (mk1 (wT μ2 o (.inl (7, [.ref (o + 1007), .null, .int 0, .int 0, .null]))) (o + 1087) (.inr (3, 5, fun _ => none))) o (.inl (7, [.ref (o + 1007), .ref (o + 1087), .int 0, .int 0, .null]))) b = mJ μ2 b := fun b b1 b2 => by
    have b3 : b ≠ o + 1087 := by omega
    simp [nlt, nle, Nat.add_assoc, wI_def, mS_wR, mS_wT, mS_mk1, mS_mkM, mI_wR, mI_wT, mI_mk1, mI_mkM, mJ_wR, mJ_wT, mJ_mk1, mJ_mkM, mN_wR, mN_wT, mN_mk1, mN_mkM, b1, b3]
  have g1 : mN (wT (mk1 (wT μ2 o (.inl (7, [.ref (o + 1007), .null, .int 0, .int 0, .null]))) (o + 1087) (.inr (3, 5, fun _ => none))) o (.inl (7, [.ref (o + 1007), .ref (o + 1087), .int 0, .int 0, .null]))) = some (o + 1088) := by
    simp [nlt, nle, Nat.add_assoc, wI_def, mS_wR, mS_wT, mS_mk1, mS_mkM, mI_wR, mI_wT, mI_mk1, mI_mkM, mJ_wR, mJ_wT, mJ_mk1, mJ_mkM, mN_wR, mN_wT, mN_mk1, mN_mkM]
  have g2 : mS (wT (mk1 (wT μ2 o (.inl (7, [.ref (o + 1007), .null, .int 0, .int 0, .null]))) (o + 1087) (.inr (3, 5, fun _ => none))) o (.inl (7, [.ref (o + 1007), .ref (o + 1087), .int 0, .int 0, .null]))) o = some (.inl (7, [.ref (o + 1007), .ref (o + 1087), .int 0, .int 0, .null])) := by
    simp [nlt, nle, Nat.add_assoc, wI_def, mS_wR, mS_wT, mS_mk1, mS_mkM, mI_wR, mI_wT, mI_mk1, mI_mkM, mJ_wR, mJ_wT, mJ_mk1, mJ_mkM, mN_wR, mN_wT, mN_mk1, mN_mkM]
  have g3 : mS (wT (mk1 (wT μ2 o (.inl (7, [.ref (o + 1007), .null, .int 0, .int 0, .null]))) (o + 1087) (.inr (3, 5, fun _ => none))) o (.inl (7, [.ref (o + 1007), .ref (o + 1087), .int 0, .int 0, .null]))) (o + 1087) = some (.inr (3, 5, fun _ => none)) := by
    simp [nlt, nle, Nat.add_assoc, wI_def, mS_wR, mS_wT, mS_mk1, mS_mkM, mI_wR, mI_wT, mI_mk1, mI_mkM, mJ_wR, mJ_wT, mJ_mk1, mJ_mkM, mN_wR, mN_wT, mN_mk1, mN_mkM]
  have g4 : mI (wT (mk1 (wT μ2 o (.inl (7, [.ref (o + 1007), .null, .int 0, .int 0, .null]))) (o + 1087) (.inr (3, 5, fun _ => none))) o (.inl (7, [.ref (o + 1007), .ref (o + 1087), .int 0, .int 0, .null]))) o = mI μ2 o := by
    simp [nlt, nle, Nat.add_assoc, wI_def, mS_wR, mS_wT, mS_mk1, mS_mkM, mI_wR, mI_wT, mI_mk1, mI_mkM, mJ_wR, mJ_wT, mJ_mk1, mJ_mkM, mN_wR, mN_wT, mN_mk1, mN_mkM]
  generalize wT (mk1 (wT μ2 o (.inl (7, [.ref (o + 1007), .null, .int 0, .int 0, .null]))) (o + 1087) (.inr (3, 5, fun _ => none))) o (.inl (7, [.ref (o + 1007), .ref (o + 1087), .int 0, .int 0, .null])) = ν at f3 g1 g2 g3 g4 ⊢
  refine xX8_init_l (ν := ν) (fun μ3 h => ?_) 5 0 ν rfl ⟨g1, g2, by rw [g3]; simp, fun j hj => absurd hj (by omega), fun b _ _ => ⟨rfl, rfl, rfl⟩⟩
  obtain ⟨i1, i2, i3, i4, i5⟩ := h
  simp [eX8_init_59, eX8_init_60, eX8_init_63i, eX8_init_63r, qNwO, nX8, i1, i2, nlt, nle, Nat.add_assoc, qNwA, qNwM, qPut, qOkR, qOk, mS_mk1, mS_wT, mS_wI, mS_wR, mS_mkM, mN_mk1, mN_wT, mN_wI, mN_wR, mN_mkM, rtv_at, (show ¬ (4 : Int32) < 0 by decide), (show (4 : Int32).toNatClampNeg = 4 by decide), (show ¬ (6 : Int32) < 0 by decide), (show (6 : Int32).toNatClampNeg = 6 by decide), (show ¬ (20 : Int32) < 0 by decide), (show (20 : Int32).toNatClampNeg = 20 by decide), (show ¬ (50 : Int32) < 0 by decide), (show (50 : Int32).toNatClampNeg = 50 by decide), (show ¬ (64 : Int32) < 0 by decide), (show (64 : Int32).toNatClampNeg = 64 by decide), (show ¬ (100 : Int32) < 0 by decide), (show (100 : Int32).toNatClampNeg = 100 by decide), (show ¬ (500 : Int32) < 0 by decide), (show (500 : Int32).toNatClampNeg = 500 by decide), (show ¬ (5514 : Int32) < 0 by decide), (show (5514 : Int32).toNatClampNeg = 5514 by decide), (show ¬ (22056 : Int32) < 0 by decide), (show (22056 : Int32).toNatClampNeg = 22056 by decide), -Prod.forall]
  simp [eX8_init_64, PX4_init, NwP, nlt, nle, Nat.add_assoc, qNwA, qNwM, qPut, qOkR, qOk, mS_mk1, mS_wT, mS_wI, mS_wR, mS_mkM, mN_mk1, mN_wT, mN_wI, mN_wR, mN_mkM, rtv_at, (show ¬ (4 : Int32) < 0 by decide), (show (4 : Int32).toNatClampNeg = 4 by decide), (show ¬ (6 : Int32) < 0 by decide), (show (6 : Int32).toNatClampNeg = 6 by decide), (show ¬ (20 : Int32) < 0 by decide), (show (20 : Int32).toNatClampNeg = 20 by decide), (show ¬ (50 : Int32) < 0 by decide), (show (50 : Int32).toNatClampNeg = 50 by decide), (show ¬ (64 : Int32) < 0 by decide), (show (64 : Int32).toNatClampNeg = 64 by decide), (show ¬ (100 : Int32) < 0 by decide), (show (100 : Int32).toNatClampNeg = 100 by decide), (show ¬ (500 : Int32) < 0 by decide), (show (500 : Int32).toNatClampNeg = 500 by decide), (show ¬ (5514 : Int32) < 0 by decide), (show (5514 : Int32).toNatClampNeg = 5514 by decide), (show ¬ (22056 : Int32) < 0 by decide), (show (22056 : Int32).toNatClampNeg = 22056 by decide), -Prod.forall]
  refine ⟨?_, fun μ4 q => ?_⟩
  · simp [nlt, nle, Nat.add_assoc, wI_def, mS_wR, mS_wT, mS_mk1, mS_mkM, mI_wR, mI_wT, mI_mk1, mI_mkM, mJ_wR, mJ_wT, mJ_mk1, mJ_mkM, mN_wR, mN_wT, mN_mk1, mN_mkM]
  obtain ⟨⟨q1, q2⟩, t3, t4, t5⟩ := q
  have fr4 : ∀ b, b < o + 1488 → mS μ4 b = mS μ3 b ∧ mI μ4 b = mI μ3 b ∧ mJ μ4 b = mJ μ3 b := fun b hb => by
    have b2 : b ≠ o + 1488 := by omega
    have := q2 b hb
    simpa [nlt, nle, Nat.add_assoc, wI_def, mS_wR, mS_wT, mS_mk1, mS_mkM, mI_wR, mI_wT, mI_mk1, mI_mkM, mJ_wR, mJ_wT, mJ_mk1, mJ_mkM, mN_wR, mN_wT, mN_mk1, mN_mkM, b2] using this
  clear q2
  have e1 := (fr4 o (by omega)).1
  rw [i2] at e1
  simp [eX8_init_67, eX8_init_70, e1, q1, nlt, nle, Nat.add_assoc, qNwA, qNwM, qPut, qOkR, qOk, mS_mk1, mS_wT, mS_wI, mS_wR, mS_mkM, mN_mk1, mN_wT, mN_wI, mN_wR, mN_mkM, rtv_at, (show ¬ (4 : Int32) < 0 by decide), (show (4 : Int32).toNatClampNeg = 4 by decide), (show ¬ (6 : Int32) < 0 by decide), (show (6 : Int32).toNatClampNeg = 6 by decide), (show ¬ (20 : Int32) < 0 by decide), (show (20 : Int32).toNatClampNeg = 20 by decide), (show ¬ (50 : Int32) < 0 by decide), (show (50 : Int32).toNatClampNeg = 50 by decide), (show ¬ (64 : Int32) < 0 by decide), (show (64 : Int32).toNatClampNeg = 64 by decide), (show ¬ (100 : Int32) < 0 by decide), (show (100 : Int32).toNatClampNeg = 100 by decide), (show ¬ (500 : Int32) < 0 by decide), (show (500 : Int32).toNatClampNeg = 500 by decide), (show ¬ (5514 : Int32) < 0 by decide), (show (5514 : Int32).toNatClampNeg = 5514 by decide), (show ¬ (22056 : Int32) < 0 by decide), (show (22056 : Int32).toNatClampNeg = 22056 by decide), -Prod.forall]
  have fe : ∀ b, b ≠ o → mS (wT μ4 o (.inl (7, [.ref (o + 1007), .ref (o + 1087), .int 0, .int 0, .ref (o + 1488)]))) b = mS μ4 b ∧ mI (wT μ4 o (.inl (7, [.ref (o + 1007), .ref (o + 1087), .int 0, .int 0, .ref (o + 1488)]))) b = mI μ4 b ∧ mJ (wT μ4 o (.inl (7, [.ref (o + 1007), .ref (o + 1087), .int 0, .int 0, .ref (o + 1488)]))) b = mJ μ4 b := fun b b1 => by
    simp [nlt, nle, Nat.add_assoc, wI_def, mS_wR, mS_wT, mS_mk1, mS_mkM, mI_wR, mI_wT, mI_mk1, mI_mkM, mJ_wR, mJ_wT, mJ_mk1, mJ_mkM, mN_wR, mN_wT, mN_mk1, mN_mkM, b1]
  have hN : mN (wT μ4 o (.inl (7, [.ref (o + 1007), .ref (o + 1087), .int 0, .int 0, .ref (o + 1488)]))) = some (o + 1492) := by
    simp [nlt, nle, Nat.add_assoc, wI_def, mS_wR, mS_wT, mS_mk1, mS_mkM, mI_wR, mI_wT, mI_mk1, mI_mkM, mJ_wR, mJ_wT, mJ_mk1, mJ_mkM, mN_wR, mN_wT, mN_mk1, mN_mkM, q1]
  have hO : mS (wT μ4 o (.inl (7, [.ref (o + 1007), .ref (o + 1087), .int 0, .int 0, .ref (o + 1488)]))) o = some (.inl (7, [.ref (o + 1007), .ref (o + 1087), .int 0, .int 0, .ref (o + 1488)])) := by
    simp [nlt, nle, Nat.add_assoc, wI_def, mS_wR, mS_wT, mS_mk1, mS_mkM, mI_wR, mI_wT, mI_mk1, mI_mkM, mJ_wR, mJ_wT, mJ_mk1, mJ_mkM, mN_wR, mN_wT, mN_mk1, mN_mkM]
  have hI : mI (wT μ4 o (.inl (7, [.ref (o + 1007), .ref (o + 1087), .int 0, .int 0, .ref (o + 1488)]))) o = mI μ4 o := by
    simp [nlt, nle, Nat.add_assoc, wI_def, mS_wR, mS_wT, mS_mk1, mS_mkM, mI_wR, mI_wT, mI_mk1, mI_mkM, mJ_wR, mJ_wT, mJ_mk1, mJ_mkM, mN_wR, mN_wT, mN_mk1, mN_mkM]
  generalize wT μ4 o (.inl (7, [.ref (o + 1007), .ref (o + 1087), .int 0, .int 0, .ref (o + 1488)])) = μ' at hN hO hI fe ⊢
  have a4 : Agr μ4 μ' (o + 1) (o + 1492) := fun c a b => ⟨(fe c (by omega)).1, (fe c (by omega)).2.1⟩
  have a3 : Agr μ3 μ' (o + 1) (o + 1488) := fun c a b => by
    rw [(a4 c a (by omega)).1, (a4 c a (by omega)).2]
    exact ⟨(fr4 c (by omega)).1, (fr4 c (by omega)).2.1⟩
  have a2 : Agr μ2 μ' (o + 1) (o + 1087) := fun c a b => by
    rw [(a3 c a (by omega)).1, (a3 c a (by omega)).2, (i5 c (by omega) (by omega)).1, (i5 c (by omega) (by omega)).2.1]
    exact ⟨(f3 c (by omega) (by omega)).1, (f3 c (by omega) (by omega)).2.1⟩
  have a1 : Agr μ1 μ' (o + 1) (o + 1007) := fun c a b => by
    rw [(a2 c a (by omega)).1, (a2 c a (by omega)).2]
    exact ⟨(fr2 c (by omega) (by omega)).1, (fr2 c (by omega) (by omega)).2.1⟩
  refine ⟨⟨hN, fun b hb => ?_⟩, ⟨hO, LgS_fr (fun c a b => a1 c (by omega) (by omega)) q3, StS_fr (fun c a b => a2 c (by omega) (by omega)) s3, ?_, fun i hi => StS_fr (fun c a b => a3 c (by omega) (by omega)) (i4 i hi), ?_⟩, ?_, CsR_fr (fun c a b => a2 c (by omega) (by omega)) s4, ?_, ?_⟩
  · rw [(fe b (by omega)).1, (fe b (by omega)).2.1, (fe b (by omega)).2.2, (fr4 b (by omega)).1, (fr4 b (by omega)).2.1, (fr4 b (by omega)).2.2, (i5 b (by omega) (by omega)).1, (i5 b (by omega) (by omega)).2.1, (i5 b (by omega) (by omega)).2.2, (f3 b (by omega) (by omega)).1, (f3 b (by omega) (by omega)).2.1, (f3 b (by omega) (by omega)).2.2, (fr2 b (by omega) (by omega)).1, (fr2 b (by omega) (by omega)).2.1, (fr2 b (by omega) (by omega)).2.2]
    exact fr1 b (by omega) (by omega)
  · unfold PlA
    rw [(a3 (o + 1087) (by omega) (by omega)).1, i3]
  · have k : Agr μ4 μ' (o + 1488) (o + 1492) := fun c a b => a4 c (by omega) (by omega)
    refine ⟨?_, iA_fr (k _ (by omega) (by omega)).1 t3.2.1, iA_fr (k _ (by omega) (by omega)).1 t3.2.2.1, iA_fr (k _ (by omega) (by omega)).1 t3.2.2.2⟩
    have := t3.1
    unfold obX4 at this ⊢
    rw [(k _ (by omega) (by omega)).1, this]
  · rw [hI, (fr4 o (by omega)).2.1, (i5 o (by omega) (by omega)).2.1, g4, e2', h3]
    rfl
  · rw [(a4 (o + 1488) (by omega) (by omega)).2, t4]
  · rw [(a4 (o + 1489) (by omega) (by omega)).2]
    exact t5 (o + 1489) (by omega) (by omega)
