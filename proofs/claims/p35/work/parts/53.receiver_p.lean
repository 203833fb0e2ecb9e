/-! ===== bodies: a receiver ===== -/
theorem ReS_lg {μ : qMM} {lg lg' o : Nat} (h : ReS μ lg o) (h' : ReS μ lg' o) : lg' = lg := by
  have := h'.1.symm.trans h.1
  simpa using this
theorem xX2_numberOf (o : Nat) (x1 : Int32) (μ : qMM) (ht : ∃ t, mS μ o = some (.inl (2, t))) (hp : PX2_numberOf o x1 μ) : EX (SX2_numberOf (rti 0 0 (QX2_numberOf o x1 μ)) (fun _ _ _ => False)) 0 [some (.ref o), some (.int x1), none] [] [] μ (0, 0) := by
  obtain ⟨lg, h1, h2, h3, h4⟩ := hp
  simp only [eX2_numberOf_0, eX2_numberOf_1, eX2_numberOf_4, eX2_numberOf_5, eX2_numberOf_8, eX2_numberOf_9, eX2_numberOf_10, eX2_numberOf_11, eX2_numberOf_12, eX2_numberOf_13, eX2_numberOf_14, eX2_numberOf_15, eX2_numberOf_16, eX2_numberOf_18, eX2_numberOf_21, eX2_numberOf_22, rtv_at, rti_at, rtj_at, rtd_at, rta_at, qOk, qOkR, gX2_1 lg, gX2_4 lg, h1, PJ9_floorMod_7cf53, QJ9_floorMod_7cf53, fmod64, qa2, QX2_numberOf, List.length_nil, List.length_cons, ll0, ll1, ll2, ll3, ll4, Nat.le_refl, and_true, one0, eq_self, or_true, true_or, not_true_eq_false, not_false_eq_true, true_imp_iff, false_imp_iff, true_and, and_true, Classical.not_not]
  simp
theorem xX2_decodedPackets (o : Nat) (μ : qMM) (ht : ∃ t, mS μ o = some (.inl (2, t))) (hp : PX2_decodedPackets o μ) : EX (SX2_decodedPackets (rti 0 0 (QX2_decodedPackets o μ)) (fun _ _ _ => False)) 0 [some (.ref o)] [] [] μ (0, 0) := by
  obtain ⟨lg, h1, h2, h3, h4⟩ := hp
  simp only [eX2_decodedPackets_0, eX2_decodedPackets_1, eX2_decodedPackets_4, eX2_decodedPackets_5, eX2_decodedPackets_6, eX2_decodedPackets_7, eX2_decodedPackets_10, eX2_decodedPackets_11, eX2_decodedPackets_12, eX2_decodedPackets_13, rtv_at, rti_at, rtj_at, rtd_at, rta_at, qOk, qOkR, gX2_8 lg, h1, h2, qA4, v04, v14, ci0, ci1, QX2_decodedPackets, List.length_nil, List.length_cons, ll0, ll1, ll2, ll3, ll4, Nat.le_refl, and_true, one0, eq_self, or_true, true_or, not_true_eq_false, not_false_eq_true, true_imp_iff, false_imp_iff, true_and, and_true, Classical.not_not]
theorem xX2_isRight (o : Nat) (x1 : Int32) (x2 : Int32) (μ : qMM) (ht : ∃ t, mS μ o = some (.inl (2, t))) (hp : PX2_isRight o x1 x2 μ) : EX (SX2_isRight (rti 0 0 (QX2_isRight o x1 x2 μ)) (fun _ _ _ => False)) 0 [some (.ref o), some (.int x1), some (.int x2)] [] [] μ (0, 0) := by
  obtain ⟨⟨lg, h0, hl⟩, p, hp, rfl⟩ := hp
  obtain ⟨h1, h2, h3, h4⟩ := id h0
  obtain ⟨l1, l2, l3, l4, l5, l6, l7, l8⟩ := id hl
  have b1 := l7 p hp
  have key : ∀ (r : Int32), r = rightC μ lg o (nI p) x2 → QX2_isRight o (nI p) x2 μ r μ := by
    intro r h
    refine ⟨fun lg' h' => ?_, rfl⟩
    rw [ReS_lg h0 h']
    exact h
  simp only [eX2_isRight_0, eX2_isRight_1, eX2_isRight_2, eX2_isRight_5, eX2_isRight_6, eX2_isRight_9, eX2_isRight_10, eX2_isRight_13, eX2_isRight_16, eX2_isRight_17, eX2_isRight_18, eX2_isRight_21, eX2_isRight_24, eX2_isRight_25, eX2_isRight_28, eX2_isRight_29, rtv_at, rti_at, rtj_at, rtd_at, rta_at, qOk, qOkR, gX2_0 lg, gX2_10 lg, gX1_0, h1, l1, l2, b1, h4, qAal_rec (lg := lg), vp500 hp, nIc hp, PX3_sameHeader, QX3_sameHeader, qa2, qOk, List.length_nil, List.length_cons, ll0, ll1, ll2, ll3, ll4, Nat.le_refl, and_true, one0, eq_self, or_true, true_or, not_true_eq_false, not_false_eq_true, true_imp_iff, false_imp_iff, true_and, and_true, Classical.not_not]
  unfold rightC at key
  rw [nIc hp] at key
  by_cases g : x2 = nI p
  · by_cases g2 : mI μ (o + 69) 0 = mI μ (lg + 2 + p) 0 ∧ mI μ (o + 69) 1 = mI μ (lg + 2 + p) 1 ∧ mI μ (o + 69) 2 = mI μ (lg + 2 + p) 2 ∧ mI μ (o + 69) 3 = mI μ (lg + 2 + p) 3
    · rw [if_pos ⟨g, g2⟩] at key
      simp only [g, if_pos g2, one0, eq_self, not_true_eq_false, not_false_eq_true, true_imp_iff, false_imp_iff, true_and, and_true, Classical.not_not]
      subst g
      exact key 1 rfl
    · rw [if_neg (fun z => g2 z.2)] at key
      simp only [g, if_neg g2, one0, eq_self, not_true_eq_false, not_false_eq_true, true_imp_iff, false_imp_iff, true_and, and_true, Classical.not_not]
      subst g
      exact key 0 rfl
  · rw [if_neg (fun z => g z.1)] at key
    exact ⟨fun _ => key 0 rfl, fun h => absurd h g⟩
theorem xX2_decode (o : Nat) (x1 : Int32) (x2 : Int32) (μ : qMM) (ht : ∃ t, mS μ o = some (.inl (2, t))) (hp : PX2_decode o x1 x2 μ) : EX (SX2_decode (rti 0 0 (QX2_decode o x1 x2 μ)) (fun _ _ _ => False)) 0 [some (.ref o), some (.int x1), some (.int x2), none, none] [] [] μ (0, 0) := by
  obtain ⟨⟨lg, h0, hl, hd⟩, hN, p, hp, rfl⟩ := hp
  obtain ⟨h1, h2, h3, h4⟩ := id h0
  obtain ⟨w1, w2, w3, w4⟩ := id h3
  obtain ⟨l1, l2, l3, l4, l5, l6, l7, l8⟩ := id hl
  have b1 := l7 p hp
  have b2 := l8 p hp
  have key : ∀ (r : Int32) (μ' : qMM), (r = (if mI μ (lg + 1003) (nI p).toNatClampNeg = 0 ∨ hasC μ o (x2 - dstC μ lg (nI p)) then 1 else 0) ∧ μ' = (if mI μ (lg + 1003) (nI p).toNatClampNeg = 0 ∨ hasC μ o (x2 - dstC μ lg (nI p)) then wR μ (o + 69) (decC μ lg o (nI p) x2) else μ)) → QX2_decode o (nI p) x2 μ r μ' := by
    intro r μ' h lg' h'
    rw [ReS_lg h0 h']
    exact h
  unfold hasC decC dstC at key
  rw [nIc hp] at key
  have tw := tX7 w1
  have w5 : ∀ i, i < 64 → iA μ (o + 5 + i) 6 := w4
  have b5 := w5 _ (slot_lt (x2 - (nI p - mI μ (lg + 1004) p)))
  have bn : o + 5 + slotOf (x2 - (nI p - mI μ (lg + 1004) p)) ≠ o + 69 := by
    have := slot_lt (x2 - (nI p - mI μ (lg + 1004) p))
    omega
  have o3 : o + 2 + 1 = o + 3 := rfl
  have o5 : o + 2 + 3 = o + 5 := rfl
  simp only [eX2_decode_0, eX2_decode_1, eX2_decode_4, eX2_decode_7, eX2_decode_8, eX2_decode_9, eX2_decode_10, eX2_decode_11, eX2_decode_14, eX2_decode_15, eX2_decode_18, eX2_decode_21, eX2_decode_22, eX2_decode_23, eX2_decode_24, eX2_decode_27, eX2_decode_30, eX2_decode_31, eX2_decode_32, eX2_decode_33, eX2_decode_34, eX2_decode_37, eX2_decode_40, eX2_decode_41, eX2_decode_42, eX2_decode_43, eX2_decode_45, eX2_decode_46, eX2_decode_49, eX2_decode_50, eX2_decode_52, eX2_decode_53, eX2_decode_56, eX2_decode_59, eX2_decode_60, eX2_decode_61, eX2_decode_62, eX2_decode_65, eX2_decode_66, eX2_decode_69, eX2_decode_70, eX2_decode_72, eX2_decode_73, eX2_decode_76, eX2_decode_77, eX2_decode_79, eX2_decode_82, eX2_decode_83, eX2_decode_86, eX2_decode_87, eX2_decode_90, eX2_decode_93, eX2_decode_94, eX2_decode_95, eX2_decode_98, eX2_decode_99, rtv_at, rti_at, rtj_at, rtd_at, rta_at, qOk, qOkR, gX2_0 lg, gX2_9 lg, gX2_10 lg, gX1_0, gX1_1, gX1_2, gX1_3, h1, h3, tw, l1, l2, l3, l4, l5, b1, b2, h4, hN, qA500, qAal_rec (lg := lg), qAal_car (lg := lg), vp500 hp, nIc hp, PX3_copyRow, QX3_copyRow, PX7_has, QX7_has, PX7_rowOf, QX7_rowOf, qa2, forall_eq, qOk, List.length_nil, List.length_cons, ll0, ll1, ll2, ll3, ll4, Nat.le_refl, and_true, one0, eq_self, or_true, true_or, not_true_eq_false, not_false_eq_true, true_imp_iff, false_imp_iff, true_and, and_true, Classical.not_not]
  by_cases g : mI μ (lg + 1003) p = 0
  · simp only [g, true_or, if_true, one0, eq_self, or_true, true_or, not_true_eq_false, not_false_eq_true, true_imp_iff, false_imp_iff, true_and, and_true, Classical.not_not] at key ⊢
    exact key _ _ ⟨rfl, rfl⟩
  · simp only [g, false_or, if_false, o3, o5, one0, eq_self, or_true, true_or, not_true_eq_false, not_false_eq_true, true_imp_iff, false_imp_iff, true_and, and_true, Classical.not_not] at key ⊢
    by_cases g2 : 0 ≤ x2 - (nI p - mI μ (lg + 1004) p) ∧ mI μ (o + 3) (slotOf (x2 - (nI p - mI μ (lg + 1004) p))) = x2 - (nI p - mI μ (lg + 1004) p)
    · simp only [if_pos g2] at key
      simp only [if_pos g2, PX3_putBase, QX3_putBase, PX3_addCarried, QX3_addCarried, h4, b5, b2, hN, bn, ne_eq, forall_eq, eX2_decode_0, eX2_decode_1, eX2_decode_4, eX2_decode_7, eX2_decode_8, eX2_decode_9, eX2_decode_10, eX2_decode_11, eX2_decode_14, eX2_decode_15, eX2_decode_18, eX2_decode_21, eX2_decode_22, eX2_decode_23, eX2_decode_24, eX2_decode_27, eX2_decode_30, eX2_decode_31, eX2_decode_32, eX2_decode_33, eX2_decode_34, eX2_decode_37, eX2_decode_40, eX2_decode_41, eX2_decode_42, eX2_decode_43, eX2_decode_45, eX2_decode_46, eX2_decode_49, eX2_decode_50, eX2_decode_52, eX2_decode_53, eX2_decode_56, eX2_decode_59, eX2_decode_60, eX2_decode_61, eX2_decode_62, eX2_decode_65, eX2_decode_66, eX2_decode_69, eX2_decode_70, eX2_decode_72, eX2_decode_73, eX2_decode_76, eX2_decode_77, eX2_decode_79, eX2_decode_82, eX2_decode_83, eX2_decode_86, eX2_decode_87, eX2_decode_90, eX2_decode_93, eX2_decode_94, eX2_decode_95, eX2_decode_98, eX2_decode_99, rtv_at, rti_at, rtj_at, rtd_at, rta_at, qOk, qOkR, gX2_0 lg, gX2_10 lg, gX1_1, h1, l1, l3, obX2_wR, obX1_wR, oA_wR, iA_wR, qAal_car (lg := lg), vp500 hp, nIc hp, wR_wR, mI_wR_s, mI_wR_n (show lg + 503 + p ≠ o + 69 by omega), qOk, List.length_nil, List.length_cons, ll0, ll1, ll2, ll3, ll4, Nat.le_refl, and_true, one0, eq_self, or_true, true_or, not_true_eq_false, not_false_eq_true, true_imp_iff, false_imp_iff, true_and, and_true, Classical.not_not]
      exact ⟨by omega, key _ _ ⟨rfl, rfl⟩⟩
    · simp only [if_neg g2] at key
      simp only [if_neg g2, one0, eq_self, or_true, true_or, not_true_eq_false, not_false_eq_true, true_imp_iff, false_imp_iff, true_and, and_true, Classical.not_not]
      exact key _ _ ⟨rfl, rfl⟩
theorem xX2_missReference (o : Nat) (x1 : Nat) (μ : qMM) (ht : ∃ t, mS μ o = some (.inl (2, t))) (hp : PX2_missReference o x1 μ) : EX (SX2_missReference (rtv 0 0 (QX2_missReference o x1 μ)) (fun _ _ _ => False)) 0 [some (.ref o), some (.ref x1)] [] [] μ (0, 0) := by
  obtain ⟨⟨lg, h1, h2, h3, h4⟩, ⟨k1, k2⟩, hn, hd⟩ := hp
  have tk := tX0 k1
  simp only [eX2_missReference_0, eX2_missReference_1i, eX2_missReference_1r, eX2_missReference_2, eX2_missReference_5, eX2_missReference_6, eX2_missReference_7, eX2_missReference_10, eX2_missReference_11, eX2_missReference_14, eX2_missReference_15, eX2_missReference_18, eX2_missReference_21, eX2_missReference_22, eX2_missReference_23, eX2_missReference_26, eX2_missReference_27i, eX2_missReference_27r, eX2_missReference_28, eX2_missReference_31, eX2_missReference_32, eX2_missReference_33, eX2_missReference_36, eX2_missReference_37, eX2_missReference_38, eX2_missReference_41, rtv_at, rti_at, rtj_at, rtd_at, rta_at, qOk, qOkR, gX2_3 lg, gX2_5 lg, gX2_6 lg, pX2_5 lg, pX2_6 lg, h1, obX2_wI, obX0_wI, LkS, LkN, k1, k2, tk, PX0_put, QX0_put, wI_def, obX2_wR, obX0_wR, iA_wR, mI_wR_s, wR_wR, upd_s, forall_eq, QX2_missReference, List.length_nil, List.length_cons, ll0, ll1, ll2, ll3, ll4, Nat.le_refl, and_true, one0, eq_self, or_true, true_or, not_true_eq_false, not_false_eq_true, true_imp_iff, false_imp_iff, true_and, and_true, Classical.not_not]
  simp (disch := omega) only [mI_wR_n, mI_wR_s, upd_s, upd_n, hn]
  have ef : upd (upd (upd (mI μ o) 5 (mI μ o 5 + 1)) 5 0) 6 (mI μ o 6 + 1) = upd (upd (mI μ o) 5 0) 6 (mI μ o 6 + 1) := by
    funext k
    simp only [updE]
    by_cases g : k = 5 <;> simp [g]
  rw [ef]
  refine ⟨fun h => by rw [if_pos h], fun h => ⟨tk, hn, ?_⟩⟩
  rw [if_neg h]
  unfold putK2
  simp (disch := omega) only [mI_wR_n]
theorem xX2_copyFrom (o : Nat) (x1 : Nat) (μ : qMM) (ht : ∃ t, mS μ o = some (.inl (2, t))) (hp : PX2_copyFrom o x1 μ) : EX (SX2_copyFrom (rtv 0 0 (QX2_copyFrom o x1 μ)) (fun _ _ _ => False)) 0 [some (.ref o), some (.ref x1)] [] [] μ (0, 0) := by
  obtain ⟨⟨lg, a0, b0⟩, hN, hd⟩ := hp
  obtain ⟨a1, a2, a3, a4⟩ := id a0
  obtain ⟨b1, b2, b3, b4⟩ := id b0
  have ta := tX7 a3.1
  simp only [eX2_copyFrom_0, eX2_copyFrom_1, eX2_copyFrom_2, eX2_copyFrom_5, eX2_copyFrom_8, eX2_copyFrom_9, eX2_copyFrom_10, eX2_copyFrom_13, eX2_copyFrom_16, eX2_copyFrom_17, eX2_copyFrom_18, eX2_copyFrom_21, eX2_copyFrom_24, eX2_copyFrom_25, eX2_copyFrom_26, eX2_copyFrom_29, eX2_copyFrom_32, eX2_copyFrom_33, eX2_copyFrom_34, eX2_copyFrom_37, eX2_copyFrom_40, eX2_copyFrom_41, eX2_copyFrom_42, eX2_copyFrom_45, eX2_copyFrom_48, eX2_copyFrom_49, eX2_copyFrom_50, eX2_copyFrom_53, eX2_copyFrom_56, eX2_copyFrom_57, eX2_copyFrom_60, eX2_copyFrom_61, eX2_copyFrom_62, eX2_copyFrom_65, eX2_copyFrom_66, eX2_copyFrom_67, eX2_copyFrom_70, eX2_copyFrom_71, eX2_copyFrom_74, eX2_copyFrom_75, eX2_copyFrom_78, eX2_copyFrom_81, rtv_at, rti_at, rtj_at, rtd_at, rta_at, qOk, qOkR, gX2_1 lg, gX2_2 lg, gX2_3 lg, gX2_4 lg, gX2_5 lg, gX2_6 lg, gX2_7 lg, gX2_8 lg, gX2_9 lg, pX2_1 lg, pX2_2 lg, pX2_3 lg, pX2_4 lg, pX2_5 lg, pX2_6 lg, pX2_7 lg, a1, b1, obX2_wI, wI_def, obX2_wR, wR_wR, mI_wR_s, mI_wR_n (show x1 ≠ o by omega), mI_wR_n (show x1 + 1 ≠ o by omega), List.length_nil, List.length_cons, ll0, ll1, ll2, ll3, ll4, Nat.le_refl, and_true, one0, eq_self, or_true, true_or, not_true_eq_false, not_false_eq_true, true_imp_iff, false_imp_iff, true_and, and_true, Classical.not_not]
  have ef : upd (upd (upd (upd (upd (upd (upd (mI μ o) 1 (mI μ x1 1)) 2 (mI μ x1 2)) 3 (mI μ x1 3)) 4 (mI μ x1 4)) 5 (mI μ x1 5)) 6 (mI μ x1 6)) 7 (mI μ x1 7) = cpRe (mI μ x1) (mI μ o) := by
    funext k
    unfold cpRe
    simp only [updE]
    by_cases g : 1 ≤ k ∧ k ≤ 7
    · rw [if_pos g]
      rcases (by omega : k = 1 ∨ k = 2 ∨ k = 3 ∨ k = 4 ∨ k = 5 ∨ k = 6 ∨ k = 7) with rfl | rfl | rfl | rfl | rfl | rfl | rfl <;> rfl
    · rw [if_neg g, if_neg (by omega), if_neg (by omega), if_neg (by omega), if_neg (by omega), if_neg (by omega), if_neg (by omega), if_neg (by omega)]
  rw [ef]
  refine ⟨⟨4, 4, _, _, b2, a2, by decide, by decide, by decide, by decide, by decide, hN⟩, ta, ⟨a3, b3, hN, by omega⟩, fun μ' hq => ?_⟩
  unfold QX7_copyFrom at hq
  rw [hq]
  refine ⟨?_, ?_, ?_, ?_, fun i hi => ?_, fun b hb => ?_⟩
  · rw [wR_wA, wR_wA, wA_wA, wA_wA]
    exact ⟨_, rfl⟩
  · rw [mI_wA, if_neg (by omega), if_neg (by omega), mI_wR_n (by omega), mI_wR_s]
  · rw [mI_wA, if_neg (by omega), if_neg (by omega), mI_wR_s, mI_wR_n (by omega)]
    rfl
  · rw [mI_wA, if_pos rfl, mI_wR_n (by omega), mI_wR_n (by omega), mI_wR_n (by omega), mI_wR_n (by omega)]
  · rw [mI_wA, if_neg (by omega), if_pos (by omega), mI_wR_n (by omega), mI_wR_n (by omega), mI_wR_n (by omega), mI_wR_n (by omega)]
    rw [show x1 + 2 + 3 + (o + 5 + i - (o + 2 + 3)) = x1 + 5 + i by omega]
  · rw [mI_wA, if_neg (by omega), if_neg (by omega), mI_wR_n (by omega), mI_wR_n (by omega)]
def ReL (μ : qMM) (lg o k : Nat) : Prop := ReS μ lg o ∧ LkS μ k ∧ k + 1 < o ∧ mN μ = none
theorem ReL_wR {μ : qMM} {lg o k a : Nat} {f : Nat → Int32} : ReL (wR μ a f) lg o k ↔ ReL μ lg o k := Iff.rfl
theorem xX2_keepDecoded_t (o lg : Nat) (x1 : Int32) (x2 : Nat) (ν : qMM) (hl : ReL ν lg o x2) (hn : LkN ν x2) (h20 : ¬ mI ν o 2 = 0) (R : Option Value → qMM → Nat × Nat → Prop) (X : String → qMM → Nat × Nat → Prop) (hR : R none (if (mI ν (o + 1) 0 + mI ν (o + 1) 1) - (mI ν (o + 1) 0 + mI ν (o + 1) 1) / mI ν o 2 * mI ν o 2 = 0 then putK2 (wR ν o (upd (mI ν o) 5 0)) x2 x1 else wR ν o (upd (mI ν o) 5 0)) (0, 0)) : EX (SX2_keepDecoded R X) 50 [some (.ref o), some (.int x1), some (.ref x2)] [] [] ν (0, 0) := by
  obtain ⟨h0, ⟨k1, k2⟩, hd, hN⟩ := id hl
  obtain ⟨h1, h2, h3, h4⟩ := id h0
  have tk := tX0 k1
  have ht2 := tX2 lg h1
  have h0' : ReS (wR ν o (upd (mI ν o) 5 0)) lg o := h0
  have p1 : PX2_decodedPackets o (wR ν o (upd (mI ν o) 5 0)) := ⟨lg, h0'⟩
  have p2 : PX0_put x2 x1 (wR ν o (upd (mI ν o) 5 0)) := ⟨⟨k1, k2⟩, by
    obtain ⟨n, a, b⟩ := hn
    exact ⟨n, a, by rw [mI_wR_n (by omega)]; exact b⟩⟩
  have ht3 : ∃ t, mS (wR ν o (upd (mI ν o) 5 0)) o = some (Sum.inl (2, t)) := ht2
  have tk3 : ∃ t, mS (wR ν o (upd (mI ν o) 5 0)) x2 = some (Sum.inl (0, t)) := tk
  simp only [eX2_keepDecoded_0, eX2_keepDecoded_1, eX2_keepDecoded_2, eX2_keepDecoded_5, eX2_keepDecoded_8, eX2_keepDecoded_9, eX2_keepDecoded_10, eX2_keepDecoded_13, eX2_keepDecoded_14, eX2_keepDecoded_17, eX2_keepDecoded_18, eX2_keepDecoded_21, eX2_keepDecoded_23, eX2_keepDecoded_24, eX2_keepDecoded_27, eX2_keepDecoded_28, eX2_keepDecoded_29, eX2_keepDecoded_32, eX2_keepDecoded_34, eX2_keepDecoded_35, eX2_keepDecoded_38, eX2_keepDecoded_39, eX2_keepDecoded_42, eX2_keepDecoded_43, eX2_keepDecoded_44, eX2_keepDecoded_47, eX2_keepDecoded_50, eX2_keepDecoded_51, eX2_keepDecoded_52, eX2_keepDecoded_55, eX2_keepDecoded_56, eX2_keepDecoded_59, eX2_keepDecoded_60, eX2_keepDecoded_63, eX2_keepDecoded_64, eX2_keepDecoded_67, eX2_keepDecoded_68, eX2_keepDecoded_69, eX2_keepDecoded_72, gX2_2 lg, pX2_5 lg, h1, obX2_wR, wI_def, ht3, tk3, p1, p2, QX2_decodedPackets, QX0_put, qa2, forall_eq, mI_wR_s, mI_wR_n (show o + 1 ≠ o by omega), upd_n (show (2 : Nat) ≠ 5 by decide), h20, List.length_nil, List.length_cons, ll0, ll1, ll2, ll3, ll4, Nat.le_refl, and_true, one0, eq_self, or_true, true_or, not_true_eq_false, not_false_eq_true, true_imp_iff, false_imp_iff, true_and, and_true, Classical.not_not]
  refine ⟨fun h => ?_, fun h => ?_⟩
  · rw [if_neg h] at hR
    exact hR
  · rw [if_pos h] at hR
    exact hR
theorem xX2_keepDecoded_m (o lg : Nat) (x1 : Int32) (x2 : Nat) (ν : qMM) (hl : ReL ν lg o x2) (hn : LkN ν x2) (h20 : ¬ mI ν o 2 = 0) (R : Option Value → qMM → Nat × Nat → Prop) (X : String → qMM → Nat × Nat → Prop) (hR : ∀ ξ, ξ = (if mI ν o 4 - 64 < x1 then wR (wR ν (o + 3) (upd (mI ν (o + 3)) (slotOf x1) x1)) (o + 5 + slotOf x1) (va_cpy (mI ν (o + 69)) (mI ν (o + 5 + slotOf x1)) 0 0 6) else ν) → EX (SX2_keepDecoded R X) 50 [some (.ref o), some (.int x1), some (.ref x2)] [] [] ξ (0, 0)) : EX (SX2_keepDecoded R X) 27 [some (.ref o), some (.int x1), some (.ref x2)] [] [] ν (0, 0) := by
  obtain ⟨h0, ⟨k1, k2⟩, hd, hN⟩ := id hl
  obtain ⟨h1, h2, h3, h4⟩ := id h0
  have tw := tX7 h3.1
  have o3 : o + 2 + 1 = o + 3 := rfl
  have o5 : o + 2 + 3 = o + 5 := rfl
  simp only [eX2_keepDecoded_0, eX2_keepDecoded_1, eX2_keepDecoded_2, eX2_keepDecoded_5, eX2_keepDecoded_8, eX2_keepDecoded_9, eX2_keepDecoded_10, eX2_keepDecoded_13, eX2_keepDecoded_14, eX2_keepDecoded_17, eX2_keepDecoded_18, eX2_keepDecoded_21, eX2_keepDecoded_23, eX2_keepDecoded_24, eX2_keepDecoded_27, eX2_keepDecoded_28, eX2_keepDecoded_29, eX2_keepDecoded_32, eX2_keepDecoded_34, eX2_keepDecoded_35, eX2_keepDecoded_38, eX2_keepDecoded_39, eX2_keepDecoded_42, eX2_keepDecoded_43, eX2_keepDecoded_44, eX2_keepDecoded_47, eX2_keepDecoded_51, eX2_keepDecoded_52, eX2_keepDecoded_55, eX2_keepDecoded_56, eX2_keepDecoded_59, eX2_keepDecoded_60, eX2_keepDecoded_63, eX2_keepDecoded_64, eX2_keepDecoded_67, eX2_keepDecoded_68, eX2_keepDecoded_69, eX2_keepDecoded_72, gX2_4 lg, gX2_9 lg, gX2_10 lg, h1, tw, h3, h4, hN, PX7_keep, QX7_keep, o3, o5, forall_eq, List.length_nil, List.length_cons, ll0, ll1, ll2, ll3, ll4, Nat.le_refl, and_true, one0, eq_self, or_true, true_or, not_true_eq_false, not_false_eq_true, true_imp_iff, false_imp_iff, true_and, and_true, Classical.not_not]
  refine ⟨fun h => ?_, fun h => ⟨by omega, ?_⟩⟩
  · exact hR _ (by rw [if_neg (Int32.not_lt.mpr h)])
  · exact hR _ (by rw [if_pos (Int32.not_le.mp h)])
theorem xX2_keepDecoded (o : Nat) (x1 : Int32) (x2 : Nat) (μ : qMM) (ht : ∃ t, mS μ o = some (.inl (2, t))) (hp : PX2_keepDecoded o x1 x2 μ) : EX (SX2_keepDecoded (rtv 0 0 (QX2_keepDecoded o x1 x2 μ)) (fun _ _ _ => False)) 0 [some (.ref o), some (.int x1), some (.ref x2)] [] [] μ (0, 0) := by
  obtain ⟨⟨lg, h0⟩, hk, hn, hd, hN, h20⟩ := hp
  obtain ⟨h1, h2, h3, h4⟩ := id h0
  have hl : ReL μ lg o x2 := ⟨h0, hk, hd, hN⟩
  have tw := tX7 h3.1
  have hsl := slot_lt x1
  have o3 : o + 2 + 1 = o + 3 := rfl
  have key : ∀ ν, Sm μ ν → ReL ν lg o x2 → mI ν o = upd (mI μ o) 4 (topC μ o x1) → (∀ k, k < 64 → mI ν (o + 3) k = if mI μ o 4 < x1 ∧ mI μ (o + 3) k ≤ x1 - 64 then -1 else mI μ (o + 3) k) → (∀ b, b ≠ o → b ≠ o + 3 → mI ν b = mI μ b) → EX (SX2_keepDecoded (rtv 0 0 (QX2_keepDecoded o x1 x2 μ)) (fun _ _ _ => False)) 27 [some (.ref o), some (.int x1), some (.ref x2)] [] [] ν (0, 0) := by
    intro ν hSm hl' e1 e2 e3
    have hn' : LkN ν x2 := by
      obtain ⟨n, a, b⟩ := hn
      exact ⟨n, a, by rw [e3 _ (by omega) (by omega)]; exact b⟩
    have e4 : mI ν o 4 = topC μ o x1 := by rw [e1, upd_s]
    have e5 : mI ν o 2 = mI μ o 2 := by rw [e1, upd_n (by decide)]
    refine xX2_keepDecoded_m o lg x1 x2 ν hl' hn' (by rw [e5]; exact h20) _ _ (fun ξ hξ => ?_)
    have f1 : Sm μ ξ ∧ ReL ξ lg o x2 ∧ mI ξ o = mI ν o ∧ (∀ k, k < 64 → mI ξ (o + 3) k = if topC μ o x1 - 64 < x1 ∧ k = slotOf x1 then x1 else if mI μ o 4 < x1 ∧ mI μ (o + 3) k ≤ x1 - 64 then -1 else mI μ (o + 3) k) ∧ (∀ i, i < 64 → mI ξ (o + 5 + i) = if topC μ o x1 - 64 < x1 ∧ i = slotOf x1 then va_cpy (mI μ (o + 69)) (mI μ (o + 5 + i)) 0 0 6 else mI μ (o + 5 + i)) ∧ ∀ b, b ≠ o → b ≠ o + 3 → ¬ (o + 5 ≤ b ∧ b < o + 69) → mI ξ b = mI μ b := by
      rw [hξ, e4]
      by_cases g : topC μ o x1 - 64 < x1
      · rw [if_pos g]
        refine ⟨Sm_wR (Sm_wR hSm), hl', ?_, fun k hk => ?_, fun i hi => ?_, fun b b1 b2 b3 => ?_⟩
        · rw [mI_wR_n (by omega), mI_wR_n (by omega)]
        · rw [mI_wR_n (by omega), mI_wR_s]
          by_cases g2 : k = slotOf x1
          · rw [if_pos ⟨g, g2⟩, g2, upd_s]
          · rw [if_neg (fun z => g2 z.2), upd_n g2, e2 k hk]
        · by_cases g2 : i = slotOf x1
          · rw [if_pos ⟨g, g2⟩, g2, mI_wR_s, e3 _ (by omega) (by omega), e3 _ (by omega) (by omega)]
          · rw [if_neg (fun z => g2 z.2), mI_wR_n (by omega), mI_wR_n (by omega), e3 _ (by omega) (by omega)]
        · rw [mI_wR_n (by omega), mI_wR_n (by omega), e3 _ b1 b2]
      · rw [if_neg g]
        refine ⟨hSm, hl', rfl, fun k hk => ?_, fun i hi => ?_, fun b b1 b2 b3 => e3 b b1 b2⟩
        · rw [if_neg (fun z => g z.1), e2 k hk]
        · rw [if_neg (fun z => g z.1), e3 _ (by omega) (by omega)]
    obtain ⟨f1, f2, f3, f4, f5, f6⟩ := f1
    have f7 : mI ξ o 2 = mI μ o 2 := by rw [f3, e5]
    have f8 : mI ξ (o + 1) = mI μ (o + 1) := f6 _ (by omega) (by omega) (by omega)
    refine xX2_keepDecoded_t o lg x1 x2 ξ f2 ?_ (by rw [f7]; exact h20) _ _ ?_
    · obtain ⟨n, a, b⟩ := hn
      exact ⟨n, a, by rw [f6 _ (by omega) (by omega) (by omega)]; exact b⟩
    · rw [rtv_at]
      refine ⟨⟨wR ξ o (upd (mI ξ o) 5 0), Sm_wR f1, ?_, fun k hk => ?_, fun i hi => ?_, fun b b1 b2 b3 => ?_, ?_⟩, by decide, by decide⟩
      · rw [mI_wR_s, f3, e1]
      · rw [mI_wR_n (by omega)]
        exact f4 k hk
      · rw [mI_wR_n (by omega)]
        exact f5 i hi
      · rw [mI_wR_n b1]
        exact f6 b b1 b2 b3
      · rw [f7, f8]
  by_cases g1 : mI μ o 4 < x1
  · simp only [eX2_keepDecoded_0, eX2_keepDecoded_1, eX2_keepDecoded_2, eX2_keepDecoded_5, eX2_keepDecoded_8, eX2_keepDecoded_9, eX2_keepDecoded_10, eX2_keepDecoded_13, eX2_keepDecoded_14, eX2_keepDecoded_17, eX2_keepDecoded_18, eX2_keepDecoded_21, eX2_keepDecoded_23, eX2_keepDecoded_24, gX2_4 lg, gX2_9 lg, pX2_4 lg, h1, obX2_wI, wI_def, obX2_wR, tw, PX7_dropUpTo, QX7_dropUpTo, forall_eq, mI_wR_s, upd_s, Int32.not_le.mpr g1, o3, List.length_nil, List.length_cons, ll0, ll1, ll2, ll3, ll4, Nat.le_refl, and_true, one0, eq_self, or_true, true_or, not_true_eq_false, not_false_eq_true, true_imp_iff, false_imp_iff, true_and, and_true, Classical.not_not]
    refine ⟨tw, h3, key _ (Sm_wR (Sm_wR Sm_refl)) hl ?_ (fun k hk => ?_) (fun b b1 b2 => ?_)⟩
    · rw [mI_wR_n (by omega), mI_wR_s]
      unfold topC
      rw [if_pos g1]
    · rw [mI_wR_s, mI_wR_n (by omega)]
      unfold dropN
      by_cases g2 : mI μ (o + 3) k ≤ x1 - 64
      · rw [if_pos ⟨hk, g2⟩, if_pos ⟨g1, g2⟩]
      · rw [if_neg (fun z => g2 z.2), if_neg (fun z => g2 z.2)]
    · rw [mI_wR_n b2, mI_wR_n b1]
  · simp only [eX2_keepDecoded_0, eX2_keepDecoded_1, eX2_keepDecoded_2, eX2_keepDecoded_5, eX2_keepDecoded_8, eX2_keepDecoded_9, eX2_keepDecoded_10, eX2_keepDecoded_13, eX2_keepDecoded_14, eX2_keepDecoded_17, eX2_keepDecoded_18, eX2_keepDecoded_21, eX2_keepDecoded_23, eX2_keepDecoded_24, gX2_4 lg, h1, Int32.not_lt.mp g1, List.length_nil, List.length_cons, ll0, ll1, ll2, ll3, ll4, Nat.le_refl, and_true, one0, eq_self, or_true, true_or, not_true_eq_false, not_false_eq_true, true_imp_iff, false_imp_iff, true_and, and_true, Classical.not_not]
    refine key _ Sm_refl hl ?_ (fun k hk => ?_) (fun b b1 b2 => rfl)
    · funext k
      unfold topC
      rw [if_neg g1, updE]
      by_cases g : k = 4
      · rw [if_pos g, g]
      · rw [if_neg g]
    · rw [if_neg (fun z => g1 z.1)]
theorem decode_Q {μ : qMM} {lg o : Nat} (h0 : ReS μ lg o) {x1 x2 r : Int32} {μ' : qMM} : QX2_decode o x1 x2 μ r μ' = (r = (if mI μ (lg + 1003) x1.toNatClampNeg = 0 ∨ hasC μ o (x2 - dstC μ lg x1) then 1 else 0) ∧ μ' = (if mI μ (lg + 1003) x1.toNatClampNeg = 0 ∨ hasC μ o (x2 - dstC μ lg x1) then wR μ (o + 69) (decC μ lg o x1 x2) else μ)) := by
  apply propext
  refine ⟨fun h => h lg h0, fun h lg' h' => ?_⟩
  rw [ReS_lg h0 h']
  exact h
theorem isRight_Q {μ : qMM} {lg o : Nat} (h0 : ReS μ lg o) {x1 x2 r : Int32} {μ' : qMM} : QX2_isRight o x1 x2 μ r μ' = (r = rightC μ lg o x1 x2 ∧ μ' = μ) := by
  apply propext
  refine ⟨fun h => ⟨h.1 lg h0, h.2⟩, fun h => ⟨fun lg' h' => ?_, h.2⟩⟩
  rw [ReS_lg h0 h']
  exact h.1
/-- from the count on -/
theorem xX2_receive_t (o lg i : Nat) (x1 x3 : Int32) (x2 : Nat) (ν : qMM) (hl : ReL ν lg o x2) (hn : LkN ν x2) (h20 : ¬ mI ν o 2 = 0) (hi : i < 4) (R : Option Value → qMM → Nat × Nat → Prop) (X : String → qMM → Nat × Nat → Prop) (h3 : i = 3 → R (some (.int 3)) (M2 ν o 3) (0, 0)) (h2 : i = 2 → R (some (.int 2)) (missC (M2 ν o 2) o x2) (0, 0)) (h1 : i < 2 → ∀ μ', QX2_keepDecoded o x3 x2 (M2 ν o i) μ' → R (some (.int (nI i))) μ' (0, 0)) : EX (SX2_receive R X) 87 [some (.ref o), some (.int x1), some (.ref x2), some (.int x3), some (.int (nI i))] [] [] ν (0, 0) := by
  obtain ⟨h0, ⟨k1, k2⟩, hd, hN⟩ := id hl
  obtain ⟨z1, z2, z3, z4⟩ := id h0
  have ht2 := tX2 lg z1
  have hM : ReL (M2 ν o i) lg o x2 := hl
  have hn' : LkN (M2 ν o i) x2 := by
    obtain ⟨n, a, b⟩ := hn
    exact ⟨n, a, by rw [mI_wR_n (by omega)]; exact b⟩
  have h20' : ¬ mI (M2 ν o i) o 2 = 0 := by rw [mI_wR_n (by omega)]; exact h20
  have p1 : PX2_missReference o x2 (M2 ν o i) := ⟨⟨lg, h0⟩, ⟨k1, k2⟩, hn', hd⟩
  have p2 : PX2_keepDecoded o x3 x2 (M2 ν o i) := ⟨⟨lg, h0⟩, ⟨k1, k2⟩, hn', hd, hN, h20'⟩
  have ht3 : ∃ t, mS (M2 ν o i) o = some (Sum.inl (2, t)) := ht2
  have hvi : vp_in (nI i) 4 := vp_in_nI hi (by decide)
  unfold M2 at p1 p2 ht3 h3 h2 h1
  simp only [eX2_receive_0, eX2_receive_1, eX2_receive_2, eX2_receive_5, eX2_receive_6, eX2_receive_9, eX2_receive_10, eX2_receive_11, eX2_receive_14, eX2_receive_17, eX2_receive_18, eX2_receive_21, eX2_receive_24, eX2_receive_25, eX2_receive_26, eX2_receive_29, eX2_receive_30, eX2_receive_33, eX2_receive_34, eX2_receive_35, eX2_receive_37, eX2_receive_38, eX2_receive_41, eX2_receive_42, eX2_receive_43, eX2_receive_45, eX2_receive_46, eX2_receive_49, eX2_receive_50, eX2_receive_53, eX2_receive_56, eX2_receive_57, eX2_receive_59, eX2_receive_62, eX2_receive_63, eX2_receive_64, eX2_receive_65, eX2_receive_68, eX2_receive_71, eX2_receive_72, eX2_receive_73, eX2_receive_74, eX2_receive_77, eX2_receive_80, eX2_receive_81, eX2_receive_84, eX2_receive_85, eX2_receive_87, eX2_receive_88, eX2_receive_91, eX2_receive_93, eX2_receive_94, eX2_receive_95, eX2_receive_96, eX2_receive_97, eX2_receive_98, eX2_receive_100, eX2_receive_101, eX2_receive_104, eX2_receive_105, eX2_receive_106, eX2_receive_109, eX2_receive_112, eX2_receive_114, eX2_receive_115, eX2_receive_118, eX2_receive_119, eX2_receive_120, eX2_receive_121, eX2_receive_124, eX2_receive_126, gX2_8 lg, z1, z2, iA_wI, wI_def, qA4, hvi, nIc (show i < 500 by omega), ht3, p1, p2, QX2_missReference, forall_eq, qOk, List.length_nil, List.length_cons, ll0, ll1, ll2, ll3, ll4, Nat.le_refl, and_true, one0, eq_self, or_true, true_or, not_true_eq_false, not_false_eq_true, true_imp_iff, false_imp_iff, true_and, and_true, Classical.not_not]
  rcases (by omega : i = 0 ∨ i = 1 ∨ i = 2 ∨ i = 3) with rfl | rfl | rfl | rfl
  · refine ⟨fun _ => ⟨fun h => absurd h (by decide), fun _ μ' hq => h1 (by decide) μ' hq⟩, fun h => absurd h (by decide)⟩
  · refine ⟨fun _ => ⟨fun h => absurd h (by decide), fun _ μ' hq => h1 (by decide) μ' hq⟩, fun h => absurd h (by decide)⟩
  · refine ⟨fun h => absurd rfl h, fun _ => h2 rfl⟩
  · refine ⟨fun _ => ⟨fun _ => h3 rfl, fun h => absurd rfl h⟩, fun h => absurd h (by decide)⟩
theorem ReP_p {μ : qMM} {lg o k p : Nat} {s : Nat → Int32} (h : ReP μ lg o k s p) : p < 500 ∧ ¬ mI μ o 2 = 0 ∧ LkN μ k := by
  obtain ⟨h0, hl, hd, hk, hR, hL, hkS, hkR, hN, ⟨H, hH, iv⟩, hp⟩ := h
  obtain ⟨n, hn, hn9, -⟩ := iv.2.1
  have en : nOf s = n := by unfold nOf; rw [hn9, nI_clamp (by omega)]
  obtain ⟨b, hb, hb1, -⟩ := iv.2.2.1
  obtain ⟨v, hv1, hv2, hv⟩ := iv.2.2.2.2.2.1
  refine ⟨by omega, ?_, b, hb, by rw [hkR.1, hb1]⟩
  rw [hR.1.2.1, hv]
  exact nI_ne0 (by omega) (by omega)
theorem rec_fin {μ μ' : qMM} {lg o k p : Nat} {r : Int32} (h0 : ReS μ lg o) (hp : p < 500) (f : ∀ s g, ReP μ lg o k s p → RecC μ o k s g p r μ') : rti 0 0 (QX2_receive o (nI p) k μ) (some (.int r)) μ' (0, 0) := by
  rw [rti_at]
  refine ⟨fun lg' s p' g e h => ?_, by decide, by decide⟩
  have hlg := ReS_lg h0 h.1
  subst hlg
  have hp' := (ReP_p h).1
  have : p' = p := (nI_eq (by omega) (by omega)).mp e.symm
  subst this
  exact f s g h
theorem xX2_receive_n (o lg p : Nat) (s0 : Nat → Int32) (x2 : Nat) (μ : qMM) (h : ReP μ lg o x2 s0 p) (a4 : Option Value) : EX (SX2_receive (rti 0 0 (QX2_receive o (nI p) x2 μ)) (fun _ _ _ => False)) 45 [some (.ref o), some (.int (nI p)), some (.ref x2), some (.int (numC μ lg o p)), some (.int 2)] [] [] (M1 μ o p) (0, 0) := by
  obtain ⟨hp, h20, hn⟩ := ReP_p h
  obtain ⟨h0, hl, hd, hk, hR, hL, hkS, hkR, hN, -, -⟩ := id h
  obtain ⟨z1, z2, z3, z4⟩ := id h0
  have tw := tX7 z3.1
  have ht2 := tX2 lg z1
  have hn1 : LkN (M1 μ o p) x2 := by
    obtain ⟨n, a, b⟩ := hn
    exact ⟨n, a, by rw [mI_wR_n (by omega)]; exact b⟩
  have h201 : ¬ mI (M1 μ o p) o 2 = 0 := by
    rw [show mI (M1 μ o p) o = lateC μ o p from mI_wR_s, show lateC μ o p 2 = mI μ o 2 from upd_n (by decide)]
    exact h20
  have hL1 : ReL (M1 μ o p) lg o x2 := ⟨h0, hkS, hk, hN⟩
  have hS1 : ReS (M1 μ o p) lg o := h0
  have ho1 : obX2 lg (M1 μ o p) o := z1
  have tw1 : ∃ t, mS (M1 μ o p) (o + 2) = some (Sum.inl (6, t)) := tw
  have ht21 : ∃ t, mS (M1 μ o p) o = some (Sum.inl (2, t)) := ht2
  have pw : PX7_has (o + 2) (numC μ lg o p) (M1 μ o p) := z3
  have pd : PX2_decode o (nI p) (numC μ lg o p) (M1 μ o p) := ⟨⟨lg, h0, hl, by omega⟩, hN, p, hp, rfl⟩
  have e3 : mI (M1 μ o p) (o + 2 + 1) = mI μ (o + 3) := mI_wR_n (by omega)
  have hm : ∀ x, hasC (M1 μ o p) o x = hasC μ o x := fun x => by
    unfold hasC
    rw [mI_wR_n (by omega)]
  have e4 : mI (M1 μ o p) (lg + 1003) = mI μ (lg + 1003) := mI_wR_n (by omega)
  have e5 : dstC (M1 μ o p) lg (nI p) = nI p - mI μ (lg + 1004) p := by
    unfold dstC
    rw [nI_clamp (by omega), mI_wR_n (by omega)]
  have m1o : mI (M1 μ o p) o = lateC μ o p := mI_wR_s
  have m1n : ∀ b, b ≠ o → mI (M1 μ o p) b = mI μ b := fun b h => mI_wR_n h
  have m1S : Sm μ (M1 μ o p) := Sm_wR Sm_refl
  have ra := fun s g (h : ReP μ lg o x2 s p) => rec_a (g := g) h
  have rb := fun s g (h : ReP μ lg o x2 s p) => rec_b (g := g) h
  have rc := fun s g (h : ReP μ lg o x2 s p) ν μ' out => rec_c (g := g) (ν := ν) (μ' := μ') (out := out) h
  generalize M1 μ o p = ω at *
  by_cases hh : hasC μ o (numC μ lg o p)
  · have hh' : (0 ≤ numC μ lg o p ∧ mI μ (o + 3) (slotOf (numC μ lg o p)) = numC μ lg o p) := hh
    simp only [eX2_receive_0, eX2_receive_1, eX2_receive_2, eX2_receive_5, eX2_receive_6, eX2_receive_9, eX2_receive_10, eX2_receive_11, eX2_receive_14, eX2_receive_17, eX2_receive_18, eX2_receive_21, eX2_receive_24, eX2_receive_25, eX2_receive_26, eX2_receive_29, eX2_receive_30, eX2_receive_33, eX2_receive_34, eX2_receive_35, eX2_receive_37, eX2_receive_38, eX2_receive_41, eX2_receive_42, eX2_receive_43, eX2_receive_45, eX2_receive_46, eX2_receive_49, eX2_receive_50, eX2_receive_53, eX2_receive_56, eX2_receive_57, eX2_receive_59, eX2_receive_62, eX2_receive_63, eX2_receive_64, eX2_receive_65, eX2_receive_68, eX2_receive_71, eX2_receive_72, eX2_receive_73, eX2_receive_74, eX2_receive_77, eX2_receive_80, eX2_receive_81, eX2_receive_84, eX2_receive_85, eX2_receive_88, eX2_receive_91, eX2_receive_93, eX2_receive_94, eX2_receive_95, eX2_receive_96, eX2_receive_97, eX2_receive_98, eX2_receive_100, eX2_receive_101, eX2_receive_104, eX2_receive_105, eX2_receive_106, eX2_receive_109, eX2_receive_112, eX2_receive_114, eX2_receive_115, eX2_receive_118, eX2_receive_119, eX2_receive_120, eX2_receive_121, eX2_receive_124, eX2_receive_126, gX2_9 lg, ho1, tw1, pw, QX7_has, e3, if_pos hh', qa2, List.length_nil, List.length_cons, ll0, ll1, ll2, ll3, ll4, Nat.le_refl, and_true, one0, eq_self, or_true, true_or, not_true_eq_false, not_false_eq_true, true_imp_iff, false_imp_iff, true_and, and_true, Classical.not_not]
    refine xX2_receive_t o lg 3 (nI p) (numC μ lg o p) x2 ω hL1 hn1 h201 (by decide) _ _ (fun _ => ?_) (fun h => absurd h (by decide)) (fun h => absurd h (by decide))
    exact rec_fin h0 hp (fun s g h => ra s g h hh)
  · have hh' : ¬ (0 ≤ numC μ lg o p ∧ mI μ (o + 3) (slotOf (numC μ lg o p)) = numC μ lg o p) := hh
    by_cases h2 : mI μ (lg + 1003) p = 0 ∨ hasC μ o (numC μ lg o p - (nI p - mI μ (lg + 1004) p))
    · have h2' : mI ω (lg + 1003) (nI p).toNatClampNeg = 0 ∨ hasC ω o (numC μ lg o p - dstC ω lg (nI p)) := by
        rw [e4, nI_clamp (by omega), e5, hm]
        exact h2
      obtain ⟨ν, eν⟩ : ∃ ν, ν = wR ω (o + 69) (decC ω lg o (nI p) (numC μ lg o p)) := ⟨_, rfl⟩
      have v1 : Sm μ ν := by rw [eν]; exact Sm_wR m1S
      have v2 : mI ν o = lateC μ o p := by rw [eν, mI_wR_n (by omega), m1o]
      have v3 : mI ν (o + 69) = decC ω lg o (nI p) (numC μ lg o p) := by rw [eν, mI_wR_s]
      have v4 : ∀ b, b ≠ o → b ≠ o + 69 → mI ν b = mI μ b := fun b h1 h2 => by rw [eν, mI_wR_n h2, m1n b h1]
      have v5 : ReL ν lg o x2 := by rw [eν]; exact hL1
      have v6 : LkN ν x2 := by
        obtain ⟨n, a, b⟩ := hn
        exact ⟨n, a, by rw [v4 _ (by omega) (by omega)]; exact b⟩
      have v7 : ¬ mI ν o 2 = 0 := by rw [v2, show lateC μ o p 2 = mI μ o 2 from upd_n (by decide)]; exact h20
      have v8 : ∃ t, mS ν o = some (Sum.inl (2, t)) := tX2 lg v5.1.1
      have pr : PX2_isRight o (nI p) (numC μ lg o p) ν := ⟨⟨lg, v5.1, by rw [eν]; obtain ⟨F, hF⟩ := m1S; rw [hF]; exact hl⟩, p, hp, rfl⟩
      simp only [eX2_receive_0, eX2_receive_1, eX2_receive_2, eX2_receive_5, eX2_receive_6, eX2_receive_9, eX2_receive_10, eX2_receive_11, eX2_receive_14, eX2_receive_17, eX2_receive_18, eX2_receive_21, eX2_receive_24, eX2_receive_25, eX2_receive_26, eX2_receive_29, eX2_receive_30, eX2_receive_33, eX2_receive_34, eX2_receive_35, eX2_receive_37, eX2_receive_38, eX2_receive_41, eX2_receive_42, eX2_receive_43, eX2_receive_45, eX2_receive_46, eX2_receive_49, eX2_receive_50, eX2_receive_53, eX2_receive_56, eX2_receive_57, eX2_receive_59, eX2_receive_62, eX2_receive_63, eX2_receive_64, eX2_receive_65, eX2_receive_68, eX2_receive_71, eX2_receive_72, eX2_receive_73, eX2_receive_74, eX2_receive_77, eX2_receive_80, eX2_receive_81, eX2_receive_84, eX2_receive_85, eX2_receive_88, eX2_receive_91, eX2_receive_93, eX2_receive_94, eX2_receive_95, eX2_receive_96, eX2_receive_97, eX2_receive_98, eX2_receive_100, eX2_receive_101, eX2_receive_104, eX2_receive_105, eX2_receive_106, eX2_receive_109, eX2_receive_112, eX2_receive_114, eX2_receive_115, eX2_receive_118, eX2_receive_119, eX2_receive_120, eX2_receive_121, eX2_receive_124, eX2_receive_126, gX2_9 lg, ho1, tw1, ht21, pw, pd, QX7_has, decode_Q hS1, e3, if_neg hh', if_pos h2', ← eν, v8, pr, isRight_Q v5.1, qa2, List.length_nil, List.length_cons, ll0, ll1, ll2, ll3, ll4, Nat.le_refl, and_true, one0, eq_self, or_true, true_or, not_true_eq_false, not_false_eq_true, true_imp_iff, false_imp_iff, true_and, and_true, Classical.not_not]
      have er : rightC ν lg o (nI p) (numC μ lg o p) = if numC μ lg o p = nI p ∧ (mI ν (o + 69) 0 = mI μ (lg + 2 + p) 0 ∧ mI ν (o + 69) 1 = mI μ (lg + 2 + p) 1 ∧ mI ν (o + 69) 2 = mI μ (lg + 2 + p) 2 ∧ mI ν (o + 69) 3 = mI μ (lg + 2 + p) 3) then 1 else 0 := by
        unfold rightC
        rw [nI_clamp (show p < 2 ^ 31 by omega), v4 (lg + 2 + p) (by omega) (by omega)]
      rw [er]
      have rc' := fun s g h ν μ' out => rc s g h ν μ' out hh h2
      by_cases gr : numC μ lg o p = nI p ∧ (mI ν (o + 69) 0 = mI μ (lg + 2 + p) 0 ∧ mI ν (o + 69) 1 = mI μ (lg + 2 + p) 1 ∧ mI ν (o + 69) 2 = mI μ (lg + 2 + p) 2 ∧ mI ν (o + 69) 3 = mI μ (lg + 2 + p) 3)
      · rw [if_pos gr]
        refine ⟨fun h => absurd h (by decide), fun _ => ?_⟩
        refine xX2_receive_t o lg 0 (nI p) (numC μ lg o p) x2 ν v5 v6 v7 (by decide) _ _ (fun h => absurd h (by decide)) (fun h => absurd h (by decide)) (fun _ μ' hq => ?_)
        exact rec_fin h0 hp (fun s g h => rc' s g h ν μ' 0 v1 v2 v3 v4 (by rw [if_pos gr]) hq)
      · rw [if_neg gr]
        refine ⟨fun _ => ?_, fun h => absurd rfl h⟩
        refine xX2_receive_t o lg 1 (nI p) (numC μ lg o p) x2 ν v5 v6 v7 (by decide) _ _ (fun h => absurd h (by decide)) (fun h => absurd h (by decide)) (fun _ μ' hq => ?_)
        exact rec_fin h0 hp (fun s g h => rc' s g h ν μ' 1 v1 v2 v3 v4 (by rw [if_neg gr]) hq)
    · have h2' : ¬ (mI ω (lg + 1003) (nI p).toNatClampNeg = 0 ∨ hasC ω o (numC μ lg o p - dstC ω lg (nI p))) := by
        rw [e4, nI_clamp (by omega), e5, hm]
        exact h2
      simp only [eX2_receive_0, eX2_receive_1, eX2_receive_2, eX2_receive_5, eX2_receive_6, eX2_receive_9, eX2_receive_10, eX2_receive_11, eX2_receive_14, eX2_receive_17, eX2_receive_18, eX2_receive_21, eX2_receive_24, eX2_receive_25, eX2_receive_26, eX2_receive_29, eX2_receive_30, eX2_receive_33, eX2_receive_34, eX2_receive_35, eX2_receive_37, eX2_receive_38, eX2_receive_41, eX2_receive_42, eX2_receive_43, eX2_receive_45, eX2_receive_46, eX2_receive_49, eX2_receive_50, eX2_receive_53, eX2_receive_56, eX2_receive_57, eX2_receive_59, eX2_receive_62, eX2_receive_63, eX2_receive_64, eX2_receive_65, eX2_receive_68, eX2_receive_71, eX2_receive_72, eX2_receive_73, eX2_receive_74, eX2_receive_77, eX2_receive_80, eX2_receive_81, eX2_receive_84, eX2_receive_85, eX2_receive_88, eX2_receive_91, eX2_receive_93, eX2_receive_94, eX2_receive_95, eX2_receive_96, eX2_receive_97, eX2_receive_98, eX2_receive_100, eX2_receive_101, eX2_receive_104, eX2_receive_105, eX2_receive_106, eX2_receive_109, eX2_receive_112, eX2_receive_114, eX2_receive_115, eX2_receive_118, eX2_receive_119, eX2_receive_120, eX2_receive_121, eX2_receive_124, eX2_receive_126, gX2_9 lg, ho1, tw1, ht21, pw, pd, QX7_has, decode_Q hS1, e3, if_neg hh', if_neg h2', qa2, List.length_nil, List.length_cons, ll0, ll1, ll2, ll3, ll4, Nat.le_refl, and_true, one0, eq_self, or_true, true_or, not_true_eq_false, not_false_eq_true, true_imp_iff, false_imp_iff, true_and, and_true, Classical.not_not]
      refine xX2_receive_t o lg 2 (nI p) (numC μ lg o p) x2 ω hL1 hn1 h201 (by decide) _ _ (fun h => absurd h (by decide)) (fun _ => ?_) (fun h => absurd h (by decide))
      exact rec_fin h0 hp (fun s g h => rb s g h hh (fun z => h2 (Or.inl z)) (fun z => h2 (Or.inr z)))
theorem xX2_receive (o : Nat) (x1 : Int32) (x2 : Nat) (μ : qMM) (ht : ∃ t, mS μ o = some (.inl (2, t))) (hp : PX2_receive o x1 x2 μ) : EX (SX2_receive (rti 0 0 (QX2_receive o x1 x2 μ)) (fun _ _ _ => False)) 0 [some (.ref o), some (.int x1), some (.ref x2), none, none] [] [] μ (0, 0) := by
  obtain ⟨lg, s, p, rfl, h⟩ := hp
  obtain ⟨hp, h20, hn⟩ := ReP_p h
  have main := fun a4 => xX2_receive_n o lg p s x2 μ h a4
  obtain ⟨h0, hl, hd, hk, hR, hL, hkS, hkR, hN, -, -⟩ := id h
  obtain ⟨z1, z2, z3, z4⟩ := id h0
  obtain ⟨l1, l2, l3, l4, l5, l6, l7, l8⟩ := id hl
  have ht2 := tX2 lg z1
  have pn : PX2_numberOf o (nI p &&& 63) (M1 μ o p) := ⟨lg, h0⟩
  have ht21 : ∃ t, mS (M1 μ o p) o = some (Sum.inl (2, t)) := ht2
  have m1o : mI (M1 μ o p) o = lateC μ o p := mI_wR_s
  have e4 : mI (M1 μ o p) (lg + 1003) = mI μ (lg + 1003) := mI_wR_n (by omega)
  have ho1 : obX2 lg (M1 μ o p) o := z1
  have hl1 : obX1 (M1 μ o p) lg := l1
  have hl4 : iA (M1 μ o p) (lg + 1003) 500 := l4
  have eM : wR μ o (upd (mI μ o) 7 (if mI μ o 7 < mI μ o 4 - nI p then mI μ o 4 - nI p else mI μ o 7)) = M1 μ o p := rfl
  simp only [eX2_receive_0, eX2_receive_1, eX2_receive_2, eX2_receive_5, eX2_receive_6, eX2_receive_9, eX2_receive_10, eX2_receive_11, eX2_receive_14, gX2_4 lg, gX2_7 lg, pX2_7 lg, z1, wI_def, List.length_nil, List.length_cons, ll0, ll1, ll2, ll3, ll4, Nat.le_refl, and_true, one0, eq_self, or_true, true_or, not_true_eq_false, not_false_eq_true, true_imp_iff, false_imp_iff, true_and, and_true, Classical.not_not]
  rw [eM]
  generalize M1 μ o p = ω at *
  simp only [eX2_receive_17, eX2_receive_18, eX2_receive_21, eX2_receive_24, eX2_receive_25, eX2_receive_26, gX2_0 lg, ho1, gX1_2, hl1, hl4, qA500, vp500 hp, nIc hp, e4, List.length_nil, List.length_cons, ll0, ll1, ll2, ll3, ll4, Nat.le_refl, and_true, one0, eq_self, or_true, true_or, not_true_eq_false, not_false_eq_true, true_imp_iff, false_imp_iff, true_and, and_true, Classical.not_not]
  unfold numC at main
  by_cases hf : mI μ (lg + 1003) p = 0
  · simp only [if_pos hf] at main
    simp only [eX2_receive_29, eX2_receive_30, eX2_receive_33, eX2_receive_34, eX2_receive_35, eX2_receive_37, eX2_receive_38, eX2_receive_41, eX2_receive_42, eX2_receive_43, eX2_receive_46, eX2_receive_49, eX2_receive_50, eX2_receive_53, eX2_receive_56, eX2_receive_57, eX2_receive_59, eX2_receive_62, eX2_receive_63, eX2_receive_64, eX2_receive_65, eX2_receive_68, eX2_receive_71, eX2_receive_72, eX2_receive_73, eX2_receive_74, eX2_receive_77, eX2_receive_80, eX2_receive_81, eX2_receive_84, eX2_receive_85, eX2_receive_87, eX2_receive_88, eX2_receive_91, eX2_receive_93, eX2_receive_94, eX2_receive_95, eX2_receive_96, eX2_receive_97, eX2_receive_98, eX2_receive_100, eX2_receive_101, eX2_receive_104, eX2_receive_105, eX2_receive_106, eX2_receive_109, eX2_receive_112, eX2_receive_114, eX2_receive_115, eX2_receive_118, eX2_receive_119, eX2_receive_120, eX2_receive_121, eX2_receive_124, eX2_receive_126, hf, List.length_nil, List.length_cons, ll0, ll1, ll2, ll3, ll4, Nat.le_refl, and_true, one0, eq_self, or_true, true_or, not_true_eq_false, not_false_eq_true, true_imp_iff, false_imp_iff, true_and, and_true, Classical.not_not]
    exact main none
  · simp only [if_neg hf] at main
    simp only [eX2_receive_29, eX2_receive_30, eX2_receive_33, eX2_receive_34, eX2_receive_35, eX2_receive_37, eX2_receive_38, eX2_receive_41, eX2_receive_42, eX2_receive_43, eX2_receive_46, eX2_receive_49, eX2_receive_50, eX2_receive_53, eX2_receive_56, eX2_receive_57, eX2_receive_59, eX2_receive_62, eX2_receive_63, eX2_receive_64, eX2_receive_65, eX2_receive_68, eX2_receive_71, eX2_receive_72, eX2_receive_73, eX2_receive_74, eX2_receive_77, eX2_receive_80, eX2_receive_81, eX2_receive_84, eX2_receive_85, eX2_receive_87, eX2_receive_88, eX2_receive_91, eX2_receive_93, eX2_receive_94, eX2_receive_95, eX2_receive_96, eX2_receive_97, eX2_receive_98, eX2_receive_100, eX2_receive_101, eX2_receive_104, eX2_receive_105, eX2_receive_106, eX2_receive_109, eX2_receive_112, eX2_receive_114, eX2_receive_115, eX2_receive_118, eX2_receive_119, eX2_receive_120, eX2_receive_121, eX2_receive_124, eX2_receive_126, hf, ht21, rem_nn (nI_pos' (show p < 2 ^ 31 by omega)), pn, QX2_numberOf, m1o, upd_n (show (4 : Nat) ≠ 7 by decide), upd_n (show (1 : Nat) ≠ 7 by decide), qa2, show ¬ (64 : Int32) = 0 by decide, List.length_nil, List.length_cons, ll0, ll1, ll2, ll3, ll4, Nat.le_refl, and_true, one0, eq_self, or_true, true_or, not_true_eq_false, not_false_eq_true, true_imp_iff, false_imp_iff, true_and, and_true, Classical.not_not]
    exact main none
/-! the digest of a receiver -/
def dGx (v : Nat → Nat → Int32) (x : Nat) (h : Int64) : Nat → Int64
  | 0 => h
  | k + 1 => dGk (v (x + k)) (dGx v x h k) 6
theorem dGx_congr {v v' : Nat → Nat → Int32} {x : Nat} {h : Int64} : ∀ n, (∀ k, k < n → ∀ w, w < 6 → v (x + k) w = v' (x + k) w) → dGx v x h n = dGx v' x h n
  | 0, _ => rfl
  | n + 1, e => by
    unfold dGx
    rw [dGx_congr n (fun p hp => e p (by omega)), dGk_congr 6 (e n (by omega))]
theorem cnt_many {f s : Nat → Int32} : ∀ n, (∀ k, k < n → f k = s (66 + 7 * k)) → cntN f n = manyL s n
  | 0, _ => rfl
  | n + 1, h => by
    unfold cntN manyL
    rw [h n (by omega), cnt_many n (fun k hk => h k (by omega))]
    by_cases g : s (66 + 7 * n) = -1
    · rw [if_pos g, if_pos g, Int32.add_zero]
    · rw [if_neg g, if_neg g]
def valC (μ : qMM) (o : Nat) (x : Int32) (w : Nat) : Int32 := if 0 ≤ x ∧ mI μ (o + 3) (slotOf x) = x then mI μ (o + 5 + slotOf x) w else -1
theorem val_rec {μ : qMM} {o : Nat} {s : Nat → Int32} (r : RcR μ o s) (x : Int32) {w : Nat} (hw : w < 6) : valC μ o x w = recF s x w := by
  unfold valC recF
  have h := r.2.2 _ (slot_lt x)
  rw [h.1]
  by_cases g : 0 ≤ x ∧ s (66 + 7 * slotOf x) = x
  · rw [if_pos g, if_pos g]
    refine h.2 (fun z => ?_) w hw
    rw [g.2] at z
    rw [z] at g
    exact absurd g.1 (by decide)
  · rw [if_neg g, if_neg g]
def hrC (μ : qMM) (o : Nat) : Nat → Int32 := fun k => mI μ o (k + 1)
def loC (x : Int32) : Nat := if 63 < x then x.toNatClampNeg - 63 else 0
def ctC (x : Int32) : Nat := if x = -1 then 0 else x.toNatClampNeg + 1 - loC x