/-! ===== bodies: rows ===== -/
theorem vp0 {n : Nat} (h : 0 < n) : vp_in 0 n := (vp_in_iff).mpr ⟨by decide, by simpa using h⟩
theorem vpl (i : Int32) (n : Nat) (h : (decide (0 ≤ i.toInt) && decide (i.toInt < n)) = true) : vp_in i n := by
  simp only [Bool.and_eq_true, decide_eq_true_eq] at h
  exact vp_in_iff.mpr h
theorem v06 : vp_in 0 6 := vpl 0 6 (by decide +kernel)
theorem v16 : vp_in 1 6 := vpl 1 6 (by decide +kernel)
theorem v26 : vp_in 2 6 := vpl 2 6 (by decide +kernel)
theorem v36 : vp_in 3 6 := vpl 3 6 (by decide +kernel)
theorem v46 : vp_in 4 6 := vpl 4 6 (by decide +kernel)
theorem v56 : vp_in 5 6 := vpl 5 6 (by decide +kernel)
theorem v04 : vp_in 0 4 := vpl 0 4 (by decide +kernel)
theorem v14 : vp_in 1 4 := vpl 1 4 (by decide +kernel)
theorem v24 : vp_in 2 4 := vpl 2 4 (by decide +kernel)
theorem v34 : vp_in 3 4 := vpl 3 4 (by decide +kernel)
theorem qArr_iA {μ : qMM} {a n : Nat} {i : Int32} {k : Prop} (h : iA μ a n) : qArr μ a 0 i k = (vp_in i n ∧ k) := by
  unfold qArr
  rw [h]
  simp
theorem qa2 {α β : Type} {a : α} {b : β} {p : α → β → Prop} : (∀ x y, x = a ∧ y = b → p x y) ↔ p a b := ⟨fun h => h a b ⟨rfl, rfl⟩, fun h x y e => by rw [e.1, e.2]; exact h⟩
theorem qA4 {μ : qMM} {a : Nat} {i : Int32} {k : Prop} (h : iA μ a 4) : qArr μ a 0 i k = (vp_in i 4 ∧ k) := qArr_iA h
theorem qA5 {μ : qMM} {a : Nat} {i : Int32} {k : Prop} (h : iA μ a 5) : qArr μ a 0 i k = (vp_in i 5 ∧ k) := qArr_iA h
theorem qA6 {μ : qMM} {a : Nat} {i : Int32} {k : Prop} (h : iA μ a 6) : qArr μ a 0 i k = (vp_in i 6 ∧ k) := qArr_iA h
theorem qA20 {μ : qMM} {a : Nat} {i : Int32} {k : Prop} (h : iA μ a 20) : qArr μ a 0 i k = (vp_in i 20 ∧ k) := qArr_iA h
theorem qA50 {μ : qMM} {a : Nat} {i : Int32} {k : Prop} (h : iA μ a 50) : qArr μ a 0 i k = (vp_in i 50 ∧ k) := qArr_iA h
theorem qA64 {μ : qMM} {a : Nat} {i : Int32} {k : Prop} (h : iA μ a 64) : qArr μ a 0 i k = (vp_in i 64 ∧ k) := qArr_iA h
theorem qA100 {μ : qMM} {a : Nat} {i : Int32} {k : Prop} (h : iA μ a 100) : qArr μ a 0 i k = (vp_in i 100 ∧ k) := qArr_iA h
theorem qA500 {μ : qMM} {a : Nat} {i : Int32} {k : Prop} (h : iA μ a 500) : qArr μ a 0 i k = (vp_in i 500 ∧ k) := qArr_iA h
theorem qA5514 {μ : qMM} {a : Nat} {i : Int32} {k : Prop} (h : iA μ a 5514) : qArr μ a 0 i k = (vp_in i 5514 ∧ k) := qArr_iA h
theorem qA22056 {μ : qMM} {a : Nat} {i : Int32} {k : Prop} (h : iA μ a 22056) : qArr μ a 0 i k = (vp_in i 22056 ∧ k) := qArr_iA h
theorem xX3_copyRow (x1 : Nat) (x2 : Nat) (μ : qMM) (hp : PX3_copyRow x1 x2 μ) : EX (SX3_copyRow (rtv 0 0 (QX3_copyRow x1 x2 μ)) (fun _ _ _ => False)) 0 [some (.ref x1), some (.ref x2)] [] [] μ (0, 0) := by
  obtain ⟨h1, h2, h3⟩ := hp
  simp only [eX3_copyRow_0, eX3_copyRow_1, eX3_copyRow_2, eX3_copyRow_3, eX3_copyRow_4, eX3_copyRow_6, eX3_copyRow_9, rtv_at, rti_at, rtj_at, rtd_at, rta_at, qOk, qOkR, QX3_copyRow]
  refine ⟨by simp, by simp, by simp, ⟨6, 6, _, _, h1, h2, by decide, by decide, by decide, by decide, by decide, h3⟩, ?_⟩
  simp [ci0, ci6]
theorem updE {f : Nat → Int32} {k j : Nat} {x : Int32} : upd f k x j = if j = k then x else f j := (by unfold upd; rfl)
theorem cpyE {f g : Nat → Int32} {sp dp n k : Nat} : va_cpy f g sp dp n k = if dp ≤ k ∧ k < dp + n then f (sp + (k - dp)) else g k := (by unfold va_cpy; rfl)
theorem xX3_putBase (x1 : Nat) (x2 : Nat) (x3 : Int32) (x4 : Int32) (μ : qMM) (hp : PX3_putBase x1 x2 x3 x4 μ) : EX (SX3_putBase (rtv 0 0 (QX3_putBase x1 x2 x3 x4 μ)) (fun _ _ _ => False)) 0 [some (.ref x1), some (.ref x2), some (.int x3), some (.int x4)] [] [] μ (0, 0) := by
  obtain ⟨h1, h2, h3, h4⟩ := hp
  simp only [eX3_putBase_0, eX3_putBase_1, eX3_putBase_2, eX3_putBase_3, eX3_putBase_4, eX3_putBase_6, eX3_putBase_9, eX3_putBase_10, eX3_putBase_11, eX3_putBase_14, eX3_putBase_15, eX3_putBase_16, eX3_putBase_17, eX3_putBase_18, eX3_putBase_19, eX3_putBase_20, eX3_putBase_21, eX3_putBase_22, eX3_putBase_23, eX3_putBase_24, eX3_putBase_25, eX3_putBase_28, eX3_putBase_29, eX3_putBase_30, eX3_putBase_31, eX3_putBase_32, eX3_putBase_33, eX3_putBase_34, eX3_putBase_35, eX3_putBase_36, eX3_putBase_37, eX3_putBase_38, eX3_putBase_39, eX3_putBase_40, eX3_putBase_43, eX3_putBase_44, rtv_at, rti_at, rtj_at, rtd_at, rta_at, qOk, qOkR, QX3_putBase]
  refine ⟨by simp, by simp, by simp, ⟨6, 6, _, _, h2, h1, by decide, by decide, by decide, by decide, by decide, h4⟩, ?_⟩
  unfold iA at h1 h2
  by_cases h : x3 = 2
  · simp [qArr, h1, h2, h3, h, mS_wR, mI_wR, wR_wR, wI_def, PX3_wrapped, QX3_wrapped, v16, v26, v46, v56, ci0, ci1, ci2, ci4, ci5, ci6, putB, updE, cpyE]
  · simp [h, ci0, ci6, putB]
theorem xX3_putCarried (x1 : Nat) (x2 : Nat) (x3 : Nat) (μ : qMM) (hp : PX3_putCarried x1 x2 x3 μ) : EX (SX3_putCarried (rtv 0 0 (QX3_putCarried x1 x2 x3 μ)) (fun _ _ _ => False)) 0 [some (.ref x1), some (.ref x2), some (.ref x3)] [] [] μ (0, 0) := by
  obtain ⟨h1, h2, h3, h4, h5⟩ := hp
  simp only [eX3_putCarried_0, eX3_putCarried_1, eX3_putCarried_2, eX3_putCarried_3, eX3_putCarried_4, eX3_putCarried_5, eX3_putCarried_6, eX3_putCarried_7, eX3_putCarried_8, eX3_putCarried_11, eX3_putCarried_12, eX3_putCarried_15, eX3_putCarried_16, eX3_putCarried_17, eX3_putCarried_18, eX3_putCarried_19, eX3_putCarried_20, eX3_putCarried_21, eX3_putCarried_22, eX3_putCarried_23, eX3_putCarried_24, eX3_putCarried_25, eX3_putCarried_26, eX3_putCarried_27, eX3_putCarried_30, eX3_putCarried_31, eX3_putCarried_32, eX3_putCarried_33, eX3_putCarried_34, eX3_putCarried_35, eX3_putCarried_36, eX3_putCarried_37, eX3_putCarried_38, eX3_putCarried_39, eX3_putCarried_42, eX3_putCarried_43, eX3_putCarried_44, eX3_putCarried_45, eX3_putCarried_46, eX3_putCarried_47, eX3_putCarried_48, eX3_putCarried_49, eX3_putCarried_50, eX3_putCarried_51, eX3_putCarried_54, eX3_putCarried_55, eX3_putCarried_58, eX3_putCarried_59, eX3_putCarried_60, eX3_putCarried_61, eX3_putCarried_62, rtv_at, rti_at, rtj_at, rtd_at, rta_at, qOk, qOkR, QX3_putCarried]
  simp only [qA4, qA6, h1, h2, h3, iA_wR, iA_wI, PX3_difference, QX3_difference, v04, v14, v24, v34, v06, v16, v26, v36, ci0, ci1, ci2, ci3, true_and, qa2, forall_eq, List.length_nil, List.length_cons]
  by_cases g0 : mI μ x2 0 = mI μ x3 0 <;> by_cases g3 : mI μ x2 3 = mI μ x3 3 <;> simp [g0, g3, h4, h5, wI_def, mI_wR, wR_wR, putC, updE]
theorem xX3_sizeOf (x1 : Nat) (μ : qMM) (hp : PX3_sizeOf x1 μ) : EX (SX3_sizeOf (rti 0 0 (QX3_sizeOf x1 μ)) (fun _ _ _ => False)) 0 [some (.ref x1), none] [] [] μ (0, 0) := by
  have h1 : iA μ x1 4 := hp
  simp only [eX3_sizeOf_0, eX3_sizeOf_1, eX3_sizeOf_2, eX3_sizeOf_3, eX3_sizeOf_4, eX3_sizeOf_7, eX3_sizeOf_8, eX3_sizeOf_9, eX3_sizeOf_10, eX3_sizeOf_11, eX3_sizeOf_14, eX3_sizeOf_15, eX3_sizeOf_16, eX3_sizeOf_17, eX3_sizeOf_18, eX3_sizeOf_19, eX3_sizeOf_20, eX3_sizeOf_23, eX3_sizeOf_26, eX3_sizeOf_27, eX3_sizeOf_28, eX3_sizeOf_29, eX3_sizeOf_30, eX3_sizeOf_33, eX3_sizeOf_36, eX3_sizeOf_37, rtv_at, rti_at, rtj_at, rtd_at, rta_at, qOk, qOkR, QX3_sizeOf]
  simp [qArr_iA h1, PX3_bytesOf, QX3_bytesOf, v04, v14, v24, v34, ci0, ci1, ci2, ci3, sizeC]
  by_cases g0 : mI μ x1 0 = -1 <;> by_cases g3 : mI μ x1 3 = -1 <;> simp [g0, g3]
theorem xX3_addCarried (x1 : Nat) (x2 : Nat) (μ : qMM) (hp : PX3_addCarried x1 x2 μ) : EX (SX3_addCarried (rtv 0 0 (QX3_addCarried x1 x2 μ)) (fun _ _ _ => False)) 0 [some (.ref x1), some (.ref x2)] [] [] μ (0, 0) := by
  obtain ⟨h1, h2, h3⟩ := hp
  simp only [eX3_addCarried_0, eX3_addCarried_1, eX3_addCarried_2, eX3_addCarried_3, eX3_addCarried_4, eX3_addCarried_7, eX3_addCarried_8, eX3_addCarried_9, eX3_addCarried_10, eX3_addCarried_11, eX3_addCarried_12, eX3_addCarried_13, eX3_addCarried_14, eX3_addCarried_15, eX3_addCarried_16, eX3_addCarried_17, eX3_addCarried_18, eX3_addCarried_19, eX3_addCarried_20, eX3_addCarried_21, eX3_addCarried_22, eX3_addCarried_25, eX3_addCarried_26, eX3_addCarried_27, eX3_addCarried_28, eX3_addCarried_29, eX3_addCarried_30, eX3_addCarried_31, eX3_addCarried_32, eX3_addCarried_33, eX3_addCarried_34, eX3_addCarried_35, eX3_addCarried_38, eX3_addCarried_39, eX3_addCarried_40, eX3_addCarried_41, eX3_addCarried_42, eX3_addCarried_43, eX3_addCarried_46, eX3_addCarried_47, eX3_addCarried_48, eX3_addCarried_49, eX3_addCarried_50, eX3_addCarried_51, eX3_addCarried_52, rtv_at, rti_at, rtj_at, rtd_at, rta_at, qOk, qOkR, QX3_addCarried]
  simp only [qA4, qA6, h1, h2, iA_wR, iA_wI, PX3_wrapped, QX3_wrapped, v04, v14, v24, v34, v06, v16, v26, v36, ci0, ci1, ci2, ci3, true_and, qa2, forall_eq, List.length_nil, List.length_cons]
  have e : ∀ f : Nat → Int32, wR μ x1 f = wR μ x1 (addC (mI μ x2) (mI μ x1)) ↔ f = addC (mI μ x2) (mI μ x1) := fun f => ⟨fun h => by have := congrArg (fun m => mI m x1) h; simpa [mI_wR] using this, fun h => by rw [h]⟩
  by_cases g0 : mI μ x2 0 = -1 <;> by_cases g3 : mI μ x2 3 = -1 <;> simp [g0, g3, h3, wI_def, mI_wR, wR_wR, updE, e] <;> funext k <;> simp only [updE, addC, g0, g3, if_true, if_false] <;> (by_cases k0 : k = 0 <;> by_cases k1 : k = 1 <;> by_cases k2 : k = 2 <;> by_cases k3 : k = 3 <;> simp [k0, k1, k2, k3])
theorem xX3_sameHeader_l (x1 x2 : Nat) (μ : qMM) (h1 : iA μ x1 6) (h2 : iA μ x2 6) (R : Option Value → qMM → Nat × Nat → Prop) (X : String → qMM → Nat × Nat → Prop) (hR1 : (∀ k, k < 4 → mI μ x1 k = mI μ x2 k) → R (some (.int 1)) μ (0, 0)) (hR0 : (¬ ∀ k, k < 4 → mI μ x1 k = mI μ x2 k) → R (some (.int 0)) μ (0, 0)) : ∀ n i : Nat, i + n = 4 → (∀ k, k < i → mI μ x1 k = mI μ x2 k) → EX (SX3_sameHeader R X) 2 [some (.ref x1), some (.ref x2), some (.int (nI i))] [] [] μ (0, 0) := by
  intro n
  induction n with
  | zero =>
    intro i hi hk
    have : i = 4 := by omega
    subst this
    rw [eX3_sameHeader_2]
    simp only [eX3_sameHeader_3, eX3_sameHeader_4, eX3_sameHeader_24, eX3_sameHeader_25, qOk]
    exact ⟨fun _ => ⟨Or.inr trivial, hR1 hk⟩, fun h => absurd (by decide) h⟩
  | succ n ih =>
    intro i hi hk
    have hi4 : i < 4 := by omega
    have hin : vp_in (nI i) 6 := vp_in_nI (by omega) (by decide)
    have hc : (nI i).toNatClampNeg = i := nI_clamp (by omega)
    rw [eX3_sameHeader_2]
    simp only [eX3_sameHeader_3, eX3_sameHeader_4, eX3_sameHeader_7, eX3_sameHeader_8, eX3_sameHeader_9, eX3_sameHeader_10, eX3_sameHeader_11, eX3_sameHeader_12, eX3_sameHeader_13, eX3_sameHeader_16, eX3_sameHeader_17, eX3_sameHeader_18, eX3_sameHeader_21, qOk, qA6, h1, h2, hin, hc, nI_1, true_and]
    refine ⟨fun h => absurd h (nI_ge (b := 4) hi4 (by decide)), fun _ => ⟨fun h => ?_, fun h => ⟨Or.inl trivial, hR0 (fun q => h (q i hi4))⟩⟩⟩
    exact ih (i + 1) (by omega) (fun k hk1 => by
      rcases Nat.lt_succ_iff_lt_or_eq.mp hk1 with h' | rfl
      · exact hk k h'
      · exact h)
theorem xX3_sameHeader (x1 : Nat) (x2 : Nat) (μ : qMM) (hp : PX3_sameHeader x1 x2 μ) : EX (SX3_sameHeader (rti 0 0 (QX3_sameHeader x1 x2 μ)) (fun _ _ _ => False)) 0 [some (.ref x1), some (.ref x2), none] [] [] μ (0, 0) := by
  obtain ⟨h1, h2⟩ := hp
  simp only [eX3_sameHeader_0, eX3_sameHeader_1]
  have key : (∀ k, k < 4 → mI μ x1 k = mI μ x2 k) ↔ (mI μ x1 0 = mI μ x2 0 ∧ mI μ x1 1 = mI μ x2 1 ∧ mI μ x1 2 = mI μ x2 2 ∧ mI μ x1 3 = mI μ x2 3) := by
    refine ⟨fun h => ⟨h 0 (by decide), h 1 (by decide), h 2 (by decide), h 3 (by decide)⟩, fun h k hk => ?_⟩
    match k, hk with
    | 0, _ => exact h.1
    | 1, _ => exact h.2.1
    | 2, _ => exact h.2.2.1
    | 3, _ => exact h.2.2.2
  refine xX3_sameHeader_l x1 x2 μ h1 h2 _ _ (fun h => ?_) (fun h => ?_) 4 0 rfl (fun k hk => absurd hk (Nat.not_lt_zero _))
  · rw [key] at h
    simp [rti_at, QX3_sameHeader, h]
  · rw [key] at h
    simp [rti_at, QX3_sameHeader, h]
