/-! ===== bodies: the window ===== -/
theorem slot_and (x : Int32) : x &&& 63 = nI (slotOf x) ∧ slotOf x < 64 := by
  obtain ⟨j, hj, e⟩ := pk_andE x (m := 63) 6 (by decide)
  unfold slotOf
  rw [e, nI_clamp (by omega)]
  exact ⟨rfl, hj⟩
theorem slot_lt (x : Int32) : slotOf x < 64 := (slot_and x).2
theorem slot_toInt (x : Int32) : (slotOf x : Int) = x.toInt % 64 := by
  have h := pk_and x (m := 63) 6 (by decide)
  have h2 := (slot_and x).1
  rw [h] at h2
  have h3 : x.toBitVec.toNat % 2 ^ 6 = slotOf x := by
    have := congrArg Int32.toNatClampNeg h2
    rw [nI_clamp (by omega), nI_clamp (by have := slot_lt x; omega)] at this
    exact this
  have h4 : x.toInt = if 2 * x.toBitVec.toNat < 2 ^ 32 then (x.toBitVec.toNat : Int) else (x.toBitVec.toNat : Int) - (2 ^ 32 : Nat) := BitVec.toInt_eq_toNat_cond x.toBitVec
  rw [← h3, h4]
  split <;> omega
theorem slot_nI (n : Nat) (h : n < 2 ^ 31) : slotOf (nI n) = n % 64 := by
  have := slot_toInt (nI n)
  rw [nI_toInt h] at this
  omega
theorem rem64 (x : Int32) : (x - x / 64 * 64).toInt = x.toInt.tmod 64 := by
  have := rem_toInt x 64
  exact this
theorem sgn64 (x : Int32) : 0 ≤ x ^^^ 64 ↔ 0 ≤ x := by
  have key : ∀ y : Int32, 0 ≤ y ↔ y.toBitVec.msb = false := fun y => by
    rw [Int32.le_iff_toInt_le, BitVec.msb_eq_toInt, decide_eq_false_iff_not, Int.not_lt]
    exact Iff.rfl
  have h64 : (64#32).msb = false := by decide
  rw [key, key, Int32.toBitVec_xor, BitVec.msb_xor]
  simp [h64]
theorem fmod64 (x : Int32) : fmod x 64 = x &&& 63 := by
  rw [(slot_and x).1]
  apply Int32.toInt_inj.mp
  rw [nI_toInt (by have := slot_lt x; omega), slot_toInt]
  have hr := rem64 x
  have hs := sgn64 x
  unfold fmod
  have h0 : (x - x / 64 * 64 = 0) ↔ x.toInt.tmod 64 = 0 := by
    rw [← hr]
    exact ⟨fun h => by rw [h]; rfl, fun h => Int32.toInt_inj.mp h⟩
  rw [Int32.le_iff_toInt_le (y := x), Int32.toInt_zero] at hs
  have hb := tmod_bounds (a := x.toInt) (M := 64) (by decide)
  by_cases hx : (0 : Int) ≤ x.toInt
  · rw [if_neg (fun q => q.1 (hs.mpr hx)), hr, Int.tmod_eq_emod_of_nonneg hx]
  · have e : x.toInt.tmod 64 = -((-x.toInt).tmod 64) := by simp [Int.neg_tmod]
    rw [Int.tmod_eq_emod_of_nonneg (a := -x.toInt) (by omega)] at e
    by_cases hz : x.toInt.tmod 64 = 0
    · rw [if_neg (fun q => q.2 (h0.mpr hz)), hr]
      omega
    · rw [if_pos ⟨fun q => hx (hs.mp q), fun q => hz (h0.mp q)⟩, Int32.toInt_add, hr]
      show (x.toInt.tmod 64 + 64).bmod _ = _
      rw [Int.bmod_eq_of_le (by omega) (by omega)]
      omega
theorem rem_nn {x : Int32} (h : 0 ≤ x) : x - x / 64 * 64 = x &&& 63 := by
  rw [(slot_and x).1]
  apply Int32.toInt_inj.mp
  rw [nI_toInt (by have := slot_lt x; omega), slot_toInt, rem64, Int.tmod_eq_emod_of_nonneg (by rw [Int32.le_iff_toInt_le] at h; exact h)]
theorem vp64 {n : Nat} (h : n < 64) : vp_in (nI n) 64 := vp_in_nI h (by decide)
theorem vps (x : Int32) : vp_in (x &&& 63) 64 := by rw [(slot_and x).1]; exact vp64 (slot_lt x)
theorem and_c (x : Int32) : (x &&& 63).toNatClampNeg = slotOf x := rfl
theorem xX7_has (o : Nat) (x1 : Int32) (μ : qMM) (ht : ∃ t, mS μ o = some (.inl (6, t))) (hp : PX7_has o x1 μ) : EX (SX7_has (rti 0 0 (QX7_has o x1 μ)) (fun _ _ _ => False)) 0 [some (.ref o), some (.int x1)] [] [] μ (0, 0) := by
  obtain ⟨h1, h2, h3, h4⟩ := hp
  simp only [eX7_has_0, eX7_has_1, eX7_has_4, eX7_has_5, eX7_has_8, eX7_has_9, eX7_has_11, eX7_has_12, eX7_has_13, eX7_has_14, eX7_has_17, eX7_has_18, eX7_has_21, eX7_has_22, rtv_at, rti_at, rtj_at, rtd_at, rta_at, qOk, qOkR, gX7_0, h1, h2, qA64, QX7_has, List.length_nil, List.length_cons]
  by_cases g : 0 ≤ x1
  · simp only [rem_nn g, vps, and_c, Int32.not_lt.mpr g, not_false_eq_true, false_implies, true_implies, true_and, g]
    by_cases g2 : mI μ (o + 1) (slotOf x1) = x1 <;> simp [g2]
  · have g' := Int32.not_le.mp g
    simp [g, g']
theorem xX7_rowOf (o : Nat) (x1 : Int32) (μ : qMM) (ht : ∃ t, mS μ o = some (.inl (6, t))) (hp : PX7_rowOf o x1 μ) : EX (SX7_rowOf (rta 0 0 (QX7_rowOf o x1 μ)) (fun _ _ _ => False)) 0 [some (.ref o), some (.int x1)] [] [] μ (0, 0) := by
  obtain ⟨h1, h2, h3, h4⟩ := hp
  simp only [eX7_rowOf_0, eX7_rowOf_1, eX7_rowOf_4, eX7_rowOf_5, eX7_rowOf_7, eX7_rowOf_10, eX7_rowOf_11, rtv_at, rti_at, rtj_at, rtd_at, rta_at, qOk, qOkR, gX7_1, h1, h3, qAal_WiR, PJ9_floorMod_7cf53, QJ9_floorMod_7cf53, qa2, fmod64, vps, and_c, QX7_rowOf, true_and, List.length_nil, List.length_cons]
  simp
theorem xX7_keep (o : Nat) (x1 : Int32) (x2 : Nat) (μ : qMM) (ht : ∃ t, mS μ o = some (.inl (6, t))) (hp : PX7_keep o x1 x2 μ) : EX (SX7_keep (rtv 0 0 (QX7_keep o x1 x2 μ)) (fun _ _ _ => False)) 0 [some (.ref o), some (.int x1), some (.ref x2), none] [] [] μ (0, 0) := by
  obtain ⟨⟨h1, h2, h3, h4⟩, h5, h6, h7⟩ := hp
  have h8 := h4 _ (slot_lt x1)
  simp only [eX7_keep_0, eX7_keep_1, eX7_keep_3, eX7_keep_6, eX7_keep_7, eX7_keep_8, eX7_keep_11, eX7_keep_12, eX7_keep_13, eX7_keep_14, eX7_keep_15, eX7_keep_16, eX7_keep_19, eX7_keep_20, eX7_keep_21, eX7_keep_24, rtv_at, rti_at, rtj_at, rtd_at, rta_at, qOk, qOkR, gX7_0, gX7_1, h1, h2, h3, qAal_WiR, obX7_wI, WiR_wI, iA_wI, mN_wI, qA64, PJ9_floorMod_7cf53, QJ9_floorMod_7cf53, PX3_copyRow, QX3_copyRow, qa2, fmod64, vps, and_c, QX7_keep, h5, h6, h8, true_and, forall_eq, List.length_nil, List.length_cons]
  simp [wI_def, mI_wR, h7, show o + 3 + slotOf x1 ≠ o + 1 by omega]
theorem xX7_valueOf (o : Nat) (x1 : Int32) (x2 : Int32) (μ : qMM) (ht : ∃ t, mS μ o = some (.inl (6, t))) (hp : PX7_valueOf o x1 x2 μ) : EX (SX7_valueOf (rti 0 0 (QX7_valueOf o x1 x2 μ)) (fun _ _ _ => False)) 0 [some (.ref o), some (.int x1), some (.int x2)] [] [] μ (0, 0) := by
  obtain ⟨h0, h5⟩ := hp
  obtain ⟨h1, h2, h3, h4⟩ := id h0
  have h6 := h4 _ (slot_lt x1)
  simp only [eX7_valueOf_0, eX7_valueOf_1, eX7_valueOf_2, eX7_valueOf_5, eX7_valueOf_8, eX7_valueOf_9, eX7_valueOf_10, eX7_valueOf_13, eX7_valueOf_14, eX7_valueOf_15, eX7_valueOf_18, eX7_valueOf_19, rtv_at, rti_at, rtj_at, rtd_at, rta_at, qOk, qOkR, PX7_has, QX7_has, PX7_rowOf, QX7_rowOf, h0, h1, tX7, qa2, qA6, h6, h5, QX7_valueOf, true_and, List.length_nil, List.length_cons]
  by_cases g : 0 ≤ x1 ∧ mI μ (o + 1) (slotOf x1) = x1
  · simp [g]
  · simp [g]
theorem xX7_size_l (o : Nat) (μ : qMM) (h1 : obX7 μ o) (h2 : iA μ (o + 1) 64) (R : Option Value → qMM → Nat × Nat → Prop) (X : String → qMM → Nat × Nat → Prop) (hR : R (some (.int (cntN (mI μ (o + 1)) 64))) μ (0, 0)) : ∀ k i : Nat, i + k = 64 → EX (SX7_size R X) 4 [some (.ref o), some (.int (cntN (mI μ (o + 1)) i)), some (.int (nI i))] [] [] μ (0, 0) := by
  intro k
  induction k with
  | zero =>
    intro i hi
    have : i = 64 := by omega
    subst this
    rw [eX7_size_4]
    simp only [eX7_size_5, eX7_size_7, eX7_size_29, eX7_size_30, qOk, true_and]
    exact ⟨fun _ => hR, fun h => absurd (by decide) h⟩
  | succ k ih =>
    intro i hi
    rw [eX7_size_4]
    simp only [eX7_size_5, eX7_size_7, eX7_size_10, eX7_size_11, eX7_size_14, eX7_size_15, eX7_size_16, eX7_size_17, eX7_size_20, eX7_size_23, eX7_size_26, gX7_0, h1, h2, qA64, vp64 (show i < 64 by omega), nIc (show i < 500 by omega), nI_1, true_and]
    refine ⟨fun h => absurd h (nI_ge (b := 64) (by omega) (by decide)), fun _ => ?_⟩
    have := ih (i + 1) (by omega)
    unfold cntN at this
    by_cases g : mI μ (o + 1) i = -1
    · rw [if_pos g] at this
      exact ⟨fun _ => this, fun h => absurd g h⟩
    · rw [if_neg g] at this
      exact ⟨fun h => absurd h g, fun _ => this⟩
theorem xX7_size (o : Nat) (μ : qMM) (ht : ∃ t, mS μ o = some (.inl (6, t))) (hp : PX7_size o μ) : EX (SX7_size (rti 0 0 (QX7_size o μ)) (fun _ _ _ => False)) 0 [some (.ref o), none, none] [] [] μ (0, 0) := by
  obtain ⟨h1, h2, h3, h4⟩ := hp
  simp only [eX7_size_0, eX7_size_1, eX7_size_2, eX7_size_3]
  exact xX7_size_l o μ h1 h2 _ _ (by simp [rti_at, QX7_size]) 64 0 rfl
theorem dropN_succ (f : Nat → Int32) (x : Int32) (n : Nat) : dropN f x (n + 1) = if x < f n then dropN f x n else upd (dropN f x n) n (-1) := by
  funext k
  unfold dropN
  by_cases g : x < f n
  · rw [if_pos g]
    by_cases hk : k = n
    · subst hk
      have := Int32.not_le.mpr g
      simp [this]
    · have : (k < n + 1) ↔ k < n := by omega
      simp [this]
  · rw [if_neg g]
    by_cases hk : k = n
    · subst hk
      simp [upd, Int32.not_lt.mp g]
    · have : (k < n + 1) ↔ k < n := by omega
      simp [upd, hk, this]
theorem dropN_at (f : Nat → Int32) (x : Int32) (n : Nat) : dropN f x n n = f n := by simp [dropN]
theorem xX7_dropUpTo_l (o : Nat) (x1 : Int32) (μ : qMM) (h1 : obX7 μ o) (h2 : iA μ (o + 1) 64) (R : Option Value → qMM → Nat × Nat → Prop) (X : String → qMM → Nat × Nat → Prop) (hR : R none (wR μ (o + 1) (dropN (mI μ (o + 1)) x1 64)) (0, 0)) : ∀ k i : Nat, i + k = 64 → EX (SX7_dropUpTo R X) 2 [some (.ref o), some (.int x1), some (.int (nI i))] [] [] (wR μ (o + 1) (dropN (mI μ (o + 1)) x1 i)) (0, 0) := by
  intro k
  induction k with
  | zero =>
    intro i hi
    have : i = 64 := by omega
    subst this
    rw [eX7_dropUpTo_2]
    simp only [eX7_dropUpTo_3, eX7_dropUpTo_5, eX7_dropUpTo_31]
    exact ⟨fun _ => hR, fun h => absurd (by decide) h⟩
  | succ k ih =>
    intro i hi
    have := ih (i + 1) (by omega)
    rw [dropN_succ] at this
    rw [eX7_dropUpTo_2]
    simp only [eX7_dropUpTo_3, eX7_dropUpTo_5, eX7_dropUpTo_8, eX7_dropUpTo_9, eX7_dropUpTo_12, eX7_dropUpTo_13, eX7_dropUpTo_14, eX7_dropUpTo_15, eX7_dropUpTo_18, eX7_dropUpTo_19, eX7_dropUpTo_22, eX7_dropUpTo_23, eX7_dropUpTo_24, eX7_dropUpTo_25, eX7_dropUpTo_28, gX7_0, h1, h2, obX7_wR, iA_wR, qA64, vp64 (show i < 64 by omega), nIc (show i < 500 by omega), nI_1, true_and, mI_wR, if_true, dropN_at, wI_def, wR_wR]
    refine ⟨fun h => absurd h (nI_ge (b := 64) (by omega) (by decide)), fun _ => ?_⟩
    by_cases g : x1 < mI μ (o + 1) i
    · rw [if_pos g] at this
      exact ⟨fun _ => this, fun h => absurd g h⟩
    · rw [if_neg g] at this
      exact ⟨fun h => absurd h g, fun _ => this⟩
theorem xX7_dropUpTo (o : Nat) (x1 : Int32) (μ : qMM) (ht : ∃ t, mS μ o = some (.inl (6, t))) (hp : PX7_dropUpTo o x1 μ) : EX (SX7_dropUpTo (rtv 0 0 (QX7_dropUpTo o x1 μ)) (fun _ _ _ => False)) 0 [some (.ref o), some (.int x1), none] [] [] μ (0, 0) := by
  obtain ⟨h1, h2, h3, h4⟩ := hp
  simp only [eX7_dropUpTo_0, eX7_dropUpTo_1]
  have := xX7_dropUpTo_l o x1 μ h1 h2 (rtv 0 0 (QX7_dropUpTo o x1 μ)) (fun _ _ _ => False) (by simp [rtv_at, QX7_dropUpTo]) 64 0 rfl
  have e : dropN (mI μ (o + 1)) x1 0 = mI μ (o + 1) := by funext k; simp [dropN]
  rw [e, wR_self] at this
  exact this
/-- rows 0 to i - 1 copied -/
def cpRows (μ : qMM) (o x1 i : Nat) : Nat → Nat → Int32 := fun b => if b = o + 1 then va_cpy (mI μ (x1 + 1)) (mI μ (o + 1)) 0 0 64 else if o + 3 ≤ b ∧ b < o + 3 + i then va_cpy (mI μ (x1 + 3 + (b - (o + 3)))) (mI μ b) 0 0 6 else mI μ b
theorem xX7_copyFrom_l (o x1 : Nat) (μ : qMM) (h1 : WiS μ o) (h2 : WiS μ x1) (hN : mN μ = none) (hd : x1 + 67 ≤ o ∨ o + 67 ≤ x1) (R : Option Value → qMM → Nat × Nat → Prop) (X : String → qMM → Nat × Nat → Prop) (hR : R none (wA μ (cpRows μ o x1 64)) (0, 0)) : ∀ k i : Nat, i + k = 64 → EX (SX7_copyFrom R X) 17 [some (.ref o), some (.ref x1), some (.int (nI i))] [] [] (wA μ (cpRows μ o x1 i)) (0, 0) := by
  obtain ⟨a1, a2, a3, a4⟩ := h1
  obtain ⟨b1, b2, b3, b4⟩ := h2
  intro k
  induction k with
  | zero =>
    intro i hi
    have : i = 64 := by omega
    subst this
    rw [eX7_copyFrom_17]
    simp only [eX7_copyFrom_18, eX7_copyFrom_20, eX7_copyFrom_44]
    exact ⟨fun _ => hR, fun h => absurd (by decide) h⟩
  | succ k ih =>
    intro i hi
    have := ih (i + 1) (by omega)
    have c1 : obX7 (wA μ (cpRows μ o x1 i)) o := a1
    have c2 : obX7 (wA μ (cpRows μ o x1 i)) x1 := b1
    have c3 : WiR (wA μ (cpRows μ o x1 i)) o := a3
    have c4 : WiR (wA μ (cpRows μ o x1 i)) x1 := b3
    have c5 : iA (wA μ (cpRows μ o x1 i)) (o + 3 + i) 6 := a4 i (by omega)
    have c6 : iA (wA μ (cpRows μ o x1 i)) (x1 + 3 + i) 6 := b4 i (by omega)
    have c7 : mN (wA μ (cpRows μ o x1 i)) = none := hN
    rw [eX7_copyFrom_17]
    simp only [eX7_copyFrom_18, eX7_copyFrom_20, eX7_copyFrom_23, eX7_copyFrom_24, eX7_copyFrom_27, eX7_copyFrom_28, eX7_copyFrom_29, eX7_copyFrom_30, eX7_copyFrom_33, eX7_copyFrom_34, eX7_copyFrom_35, eX7_copyFrom_38, eX7_copyFrom_41, gX7_1, c1, c2, c3, c4, qAal_WiR, vp64 (show i < 64 by omega), nIc (show i < 500 by omega), nI_1, true_and, PX3_copyRow, QX3_copyRow, c5, c6, c7, forall_eq, List.length_nil, List.length_cons]
    refine ⟨fun h => absurd h (nI_ge (b := 64) (by omega) (by decide)), fun _ => ⟨by simp, by simp, by simp, ?_⟩⟩
    rw [wR_wA, wA_wA]
    refine (congrArg (fun m => EX (SX7_copyFrom R X) 17 [some (.ref o), some (.ref x1), some (.int (nI (i + 1)))] [] [] m (0, 0)) (wA_eq fun b => ?_)).mp this
    rw [mI_wA, mI_wA, mI_wA]
    by_cases hb : b = o + 3 + i
    · subst hb
      rw [if_pos rfl]
      unfold cpRows
      rw [if_neg (show ¬ o + 3 + i = o + 1 by omega), if_pos (show o + 3 ≤ o + 3 + i ∧ o + 3 + i < o + 3 + (i + 1) by omega), if_neg (show ¬ x1 + 3 + i = o + 1 by omega), if_neg (show ¬ (o + 3 ≤ x1 + 3 + i ∧ x1 + 3 + i < o + 3 + i) by omega), if_neg (show ¬ o + 3 + i = o + 1 by omega), if_neg (show ¬ (o + 3 ≤ o + 3 + i ∧ o + 3 + i < o + 3 + i) by omega), show o + 3 + i - (o + 3) = i by omega]
    · rw [if_neg hb]
      unfold cpRows
      by_cases h1 : b = o + 1
      · rw [if_pos h1, if_pos h1]
      · rw [if_neg h1, if_neg h1]
        by_cases h2 : o + 3 ≤ b ∧ b < o + 3 + i
        · rw [if_pos h2, if_pos (by omega)]
        · rw [if_neg h2, if_neg (by omega)]
theorem xX7_copyFrom (o : Nat) (x1 : Nat) (μ : qMM) (ht : ∃ t, mS μ o = some (.inl (6, t))) (hp : PX7_copyFrom o x1 μ) : EX (SX7_copyFrom (rtv 0 0 (QX7_copyFrom o x1 μ)) (fun _ _ _ => False)) 0 [some (.ref o), some (.ref x1), none] [] [] μ (0, 0) := by
  obtain ⟨h1, h2, hN, hd⟩ := hp
  obtain ⟨a1, a2, a3, a4⟩ := id h1
  obtain ⟨b1, b2, b3, b4⟩ := id h2
  simp only [eX7_copyFrom_0, eX7_copyFrom_1, eX7_copyFrom_4, eX7_copyFrom_5, eX7_copyFrom_6, eX7_copyFrom_9, eX7_copyFrom_10, eX7_copyFrom_12, eX7_copyFrom_15, eX7_copyFrom_16, gX7_0, a1, b1, List.length_nil, List.length_cons]
  refine ⟨by simp, by simp, by simp, ⟨64, 64, _, _, b2, a2, by decide, by decide, by decide, by decide, by decide, hN⟩, ?_⟩
  have := xX7_copyFrom_l o x1 μ h1 h2 hN hd (rtv 0 0 (QX7_copyFrom o x1 μ)) (fun _ _ _ => False) (by rw [rtv_at]; exact ⟨rfl, by decide, by decide⟩) 64 0 rfl
  have e : wR μ (o + 1) (va_cpy (mI μ (x1 + 1)) (mI μ (o + 1)) (Int32.toNatClampNeg 0) (Int32.toNatClampNeg 0) (Int32.toNatClampNeg 64)) = wA μ (cpRows μ o x1 0) := by
    rw [wR_wA]
    refine wA_eq fun b => ?_
    unfold cpRows
    rw [if_neg (show ¬ (o + 3 ≤ b ∧ b < o + 3 + 0) by omega)]
    rfl
  rw [e]
  exact this
