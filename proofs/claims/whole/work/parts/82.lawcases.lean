/-! ===== the law's cases (by program: wip/gen/lawcases.py) ===== -/
theorem qIld_s {n : Nat} {xs : Nat → Int32} {μ : qMM} {a : Nat} {i : Int32} {k : Int32 → Prop} : qIld (some (n, xs)) μ a i k = (vp_in i n ∧ k (xs i.toNatClampNeg)) := rfl
theorem lg_cmp_s (x : Int64) : lg_cmp x x = 0 := by
  unfold lg_cmp
  rw [if_neg (Int64.lt_irrefl), if_pos rfl]
theorem ix1 {i : Nat} : nI (4 * i) + 1 = nI (4 * i + 1) := nI_1 _
theorem ix2 {i : Nat} : nI (4 * i) + 2 = nI (4 * i + 2) := by
  rw [show (2 : Int32) = 1 + 1 by decide, ← Int32.add_assoc, nI_1, nI_1]
theorem ix3 {i : Nat} : nI (4 * i) + 3 = nI (4 * i + 3) := by
  rw [show (3 : Int32) = 1 + 1 + 1 by decide, ← Int32.add_assoc, ← Int32.add_assoc, nI_1, nI_1, nI_1]
theorem len4 : (4 ≤ 4) = True := by decide
def LcK (sc : Nat → Option (Nat × (Nat → Int32))) (R : Option Value → qMM → Nat × Nat → Prop) (X : String → qMM → Nat × Nat → Prop) (b x i H c s : Nat) : Prop := ∀ (a5 a6 a7 a8 b0 b1 b2 b3 b4 b5 b6 b7 b8 : Option Value) (μ' : qMM) (m' : Mod) (c' s' : Nat), InvL (H + 2000) μ' x m' → c' ≤ c + 1 → s' ≤ s + 6 → EX (SL_law sc R X) 1613 [some (.ref b), some (.ref x), some (.ref (x + 1492)), some (.ref (x + 1498)), some (.int (nI (4 * i))), a5, a6, a7, a8] [b0, b1, b2, b3, b4, b5, b6, b7, b8] [] μ' (c', s')
theorem bad_setField (m : Mod) (p0 p1 : Int32) : ¬ (setFieldA m p0 p1).2.f 6 = 0 → badM m (setFieldA m p0 p1).2 := by
  unfold setFieldA
  repeat' split
  all_goals first | exact fun _ => ⟨_, Or.inl rfl⟩ | exact fun _ => ⟨_, Or.inr rfl⟩ | exact fun h => absurd rfl h
theorem lc_0 {sc : Nat → Option (Nat × (Nat → Int32))} {R : Option Value → qMM → Nat × Nat → Prop} {X : String → qMM → Nat × Nat → Prop} {b L x i H c s : Nat} {xs : Nat → Int32} {m : Mod} {μ : qMM} {a5 a6 a7 a8 b0 b1 b2 b3 b4 b5 b6 b7 b8 : Option Value} (hsc : sc b = some (L, xs)) (hi : 4 * i + 4 ≤ L) (hL : L ≤ 2048) (hH : H + 4000 < 2 ^ 30) (hI : InvL H μ x m) (hc : c + 1 ≤ 601024) (hs : s + 6 ≤ 7293034) (hk : LcK sc R X b x i H c s) : EX (SL_law sc R X) 180 [some (.ref b), some (.ref x), some (.ref (x + 1492)), some (.ref (x + 1498)), some (.int (nI (4 * i))), a5, a6, a7, a8] [b0, b1, b2, b3, b4, b5, b6, b7, b8] [] μ (c, s) := by
  have v1 : vp_in (nI (4 * i + 1)) L := vp_in_nI (by omega) (by omega)
  have v2 : vp_in (nI (4 * i + 2)) L := vp_in_nI (by omega) (by omega)
  have v3 : vp_in (nI (4 * i + 3)) L := vp_in_nI (by omega) (by omega)
  have w1 : (nI (4 * i + 1)).toNatClampNeg = 4 * i + 1 := nI_clamp (by omega)
  have w2 : (nI (4 * i + 2)).toNatClampNeg = 4 * i + 2 := nI_clamp (by omega)
  have w3 : (nI (4 * i + 3)).toNatClampNeg = 4 * i + 3 := nI_clamp (by omega)
  have c1 : c ≤ 601024 := by omega
  have s1 : s ≤ 7293034 := by omega
  have t8 : ∃ t, mS μ x = some (.inl (7, t)) := tX8 hI.1.1.1
  simp only [eL_law_180, eL_law_181, eL_law_182, eL_law_184, eL_law_185, eL_law_186, eL_law_187, eL_law_188, eL_law_190, eL_law_191, eL_law_192, eL_law_193, eL_law_194, hsc, qIld_s, ix1, ix2, ix3, v1, v2, v3, w1, w2, w3, c1, s1, t8, hc, hs, Nat.add_zero, List.length_nil, List.length_cons, ll0, ll1, ll2, ll3, ll4, Nat.le_refl, Nat.zero_le, eq_self, not_true_eq_false, not_false_eq_true, true_imp_iff, false_imp_iff, true_and, and_true, Classical.not_not]
  refine ⟨⟨⟨H, m, hI.1⟩, hI.2.2.2⟩, fun r μ1 q => ?_⟩
  obtain ⟨n1, ⟨hM, hr, -⟩, n3, n4⟩ := hl_next (A := (fun m => setFieldA m (xs (4 * i + 1)) (xs (4 * i + 2)))) hH hI q (bad_setField m (xs (4 * i + 1)) (xs (4 * i + 2)))
  have t9 : ∃ t, mS μ1 (x + 1492) = some (.inl (8, t)) := tX9 hM.1
  simp only [eL_law_197, eL_law_199, eL_law_200, eL_law_201, eL_law_203, eL_law_204, eL_law_205, eL_law_206, eL_law_207, eL_law_209, eL_law_210, eL_law_211, eL_law_212, t9, hsc, qIld_s, ix1, ix2, ix3, v1, v2, v3, w1, w2, w3, c1, s1, t8, hc, hs, Nat.add_zero, List.length_nil, List.length_cons, ll0, ll1, ll2, ll3, ll4, Nat.le_refl, Nat.zero_le, eq_self, not_true_eq_false, not_false_eq_true, true_imp_iff, false_imp_iff, true_and, and_true, Classical.not_not]
  refine ⟨⟨hM, by rw [hr]; exact MOK_of hI.1⟩, fun r2 μ2 q2 => ?_⟩
  obtain ⟨e1, e2⟩ := q2
  rw [hr] at e1 e2
  have hM2 : MoS μ2 (x + 1492) := by rw [e2]; exact hM
  have hL2 : LaP μ2 (x + 1498) := by rw [e2]; exact n3.2.2.2
  have t92 : ∃ t, mS μ2 (x + 1492) = some (.inl (8, t)) := tX9 hM2.1
  simp only [eL_law_215, eL_law_217, eL_law_218, t92, hsc, qIld_s, ix1, ix2, ix3, v1, v2, v3, w1, w2, w3, c1, s1, t8, hc, hs, Nat.add_zero, List.length_nil, List.length_cons, ll0, ll1, ll2, ll3, ll4, Nat.le_refl, Nat.zero_le, eq_self, not_true_eq_false, not_false_eq_true, true_imp_iff, false_imp_iff, true_and, and_true, Classical.not_not]
  refine ⟨hM2, fun r3 μ3 q3 => ?_⟩
  obtain ⟨e3, e4⟩ := q3
  have e5 : r3 = r := by rw [e3, e2, mI_mm0, n1]
  subst e5
  subst e4
  rw [← e2] at n3 n4
  by_cases g : r3 = 0
  · have n5 := n4 (n1.symm.trans g)
    rw [← e1] at n5
    simp only [eL_law_221, eL_law_223, eL_law_226, eL_law_228, eL_law_230, eL_law_233, eL_law_234, eL_law_235, eL_law_236, eL_law_238, eL_law_239, eL_law_240, eL_law_243, eL_law_245, g, qArr_La hL2, vp01, cl_0, n5, lg_cmp_s, hsc, qIld_s, ix1, ix2, ix3, v1, v2, v3, w1, w2, w3, c1, s1, t8, hc, hs, Nat.add_zero, List.length_nil, List.length_cons, ll0, ll1, ll2, ll3, ll4, Nat.le_refl, Nat.zero_le, eq_self, not_true_eq_false, not_false_eq_true, true_imp_iff, false_imp_iff, true_and, and_true, Classical.not_not]
    exact hk _ _ _ _ _ _ _ _ _ _ _ _ _ _ _ _ _ n3 (Nat.le_refl _) (Nat.le_refl _)
  · simp only [eL_law_221, eL_law_223, eL_law_226, eL_law_228, eL_law_230, eL_law_233, eL_law_234, eL_law_235, eL_law_236, eL_law_238, eL_law_239, eL_law_240, eL_law_243, eL_law_245, g, hsc, qIld_s, ix1, ix2, ix3, v1, v2, v3, w1, w2, w3, c1, s1, t8, hc, hs, Nat.add_zero, List.length_nil, List.length_cons, ll0, ll1, ll2, ll3, ll4, Nat.le_refl, Nat.zero_le, eq_self, not_true_eq_false, not_false_eq_true, true_imp_iff, false_imp_iff, true_and, and_true, Classical.not_not]
    exact hk _ _ _ _ _ _ _ _ _ _ _ _ _ _ _ _ _ n3 (Nat.le_refl _) (Nat.le_refl _)
theorem bad_setStrides (m : Mod) (p0 p1 : Int32) : ¬ (setStridesA m p0 p1).2.f 6 = 0 → badM m (setStridesA m p0 p1).2 := by
  unfold setStridesA
  repeat' split
  all_goals first | exact fun _ => ⟨_, Or.inl rfl⟩ | exact fun _ => ⟨_, Or.inr rfl⟩ | exact fun h => absurd rfl h
theorem lc_1 {sc : Nat → Option (Nat × (Nat → Int32))} {R : Option Value → qMM → Nat × Nat → Prop} {X : String → qMM → Nat × Nat → Prop} {b L x i H c s : Nat} {xs : Nat → Int32} {m : Mod} {μ : qMM} {a5 a6 a7 a8 b0 b1 b2 b3 b4 b5 b6 b7 b8 : Option Value} (hsc : sc b = some (L, xs)) (hi : 4 * i + 4 ≤ L) (hL : L ≤ 2048) (hH : H + 4000 < 2 ^ 30) (hI : InvL H μ x m) (hc : c + 1 ≤ 601024) (hs : s + 6 ≤ 7293034) (hk : LcK sc R X b x i H c s) : EX (SL_law sc R X) 248 [some (.ref b), some (.ref x), some (.ref (x + 1492)), some (.ref (x + 1498)), some (.int (nI (4 * i))), a5, a6, a7, a8] [b0, b1, b2, b3, b4, b5, b6, b7, b8] [] μ (c, s) := by
  have v1 : vp_in (nI (4 * i + 1)) L := vp_in_nI (by omega) (by omega)
  have v2 : vp_in (nI (4 * i + 2)) L := vp_in_nI (by omega) (by omega)
  have v3 : vp_in (nI (4 * i + 3)) L := vp_in_nI (by omega) (by omega)
  have w1 : (nI (4 * i + 1)).toNatClampNeg = 4 * i + 1 := nI_clamp (by omega)
  have w2 : (nI (4 * i + 2)).toNatClampNeg = 4 * i + 2 := nI_clamp (by omega)
  have w3 : (nI (4 * i + 3)).toNatClampNeg = 4 * i + 3 := nI_clamp (by omega)
  have c1 : c ≤ 601024 := by omega
  have s1 : s ≤ 7293034 := by omega
  have t8 : ∃ t, mS μ x = some (.inl (7, t)) := tX8 hI.1.1.1
  simp only [eL_law_248, eL_law_249, eL_law_250, eL_law_252, eL_law_253, eL_law_254, eL_law_255, eL_law_256, eL_law_258, eL_law_259, eL_law_260, eL_law_261, eL_law_262, hsc, qIld_s, ix1, ix2, ix3, v1, v2, v3, w1, w2, w3, c1, s1, t8, hc, hs, Nat.add_zero, List.length_nil, List.length_cons, ll0, ll1, ll2, ll3, ll4, Nat.le_refl, Nat.zero_le, eq_self, not_true_eq_false, not_false_eq_true, true_imp_iff, false_imp_iff, true_and, and_true, Classical.not_not]
  refine ⟨⟨⟨H, m, hI.1⟩, hI.2.2.2⟩, fun r μ1 q => ?_⟩
  obtain ⟨n1, ⟨hM, hr, -⟩, n3, n4⟩ := hl_next (A := (fun m => setStridesA m (xs (4 * i + 1)) (xs (4 * i + 2)))) hH hI q (bad_setStrides m (xs (4 * i + 1)) (xs (4 * i + 2)))
  have t9 : ∃ t, mS μ1 (x + 1492) = some (.inl (8, t)) := tX9 hM.1
  simp only [eL_law_265, eL_law_267, eL_law_268, eL_law_269, eL_law_271, eL_law_272, eL_law_273, eL_law_274, eL_law_275, eL_law_277, eL_law_278, eL_law_279, eL_law_280, t9, hsc, qIld_s, ix1, ix2, ix3, v1, v2, v3, w1, w2, w3, c1, s1, t8, hc, hs, Nat.add_zero, List.length_nil, List.length_cons, ll0, ll1, ll2, ll3, ll4, Nat.le_refl, Nat.zero_le, eq_self, not_true_eq_false, not_false_eq_true, true_imp_iff, false_imp_iff, true_and, and_true, Classical.not_not]
  refine ⟨⟨hM, by rw [hr]; exact MOK_of hI.1⟩, fun r2 μ2 q2 => ?_⟩
  obtain ⟨e1, e2⟩ := q2
  rw [hr] at e1 e2
  have hM2 : MoS μ2 (x + 1492) := by rw [e2]; exact hM
  have hL2 : LaP μ2 (x + 1498) := by rw [e2]; exact n3.2.2.2
  have t92 : ∃ t, mS μ2 (x + 1492) = some (.inl (8, t)) := tX9 hM2.1
  simp only [eL_law_283, eL_law_285, eL_law_286, t92, hsc, qIld_s, ix1, ix2, ix3, v1, v2, v3, w1, w2, w3, c1, s1, t8, hc, hs, Nat.add_zero, List.length_nil, List.length_cons, ll0, ll1, ll2, ll3, ll4, Nat.le_refl, Nat.zero_le, eq_self, not_true_eq_false, not_false_eq_true, true_imp_iff, false_imp_iff, true_and, and_true, Classical.not_not]
  refine ⟨hM2, fun r3 μ3 q3 => ?_⟩
  obtain ⟨e3, e4⟩ := q3
  have e5 : r3 = r := by rw [e3, e2, mI_mm0, n1]
  subst e5
  subst e4
  rw [← e2] at n3 n4
  by_cases g : r3 = 0
  · have n5 := n4 (n1.symm.trans g)
    rw [← e1] at n5
    simp only [eL_law_289, eL_law_291, eL_law_294, eL_law_296, eL_law_298, eL_law_301, eL_law_302, eL_law_303, eL_law_304, eL_law_306, eL_law_307, eL_law_308, eL_law_311, eL_law_313, g, qArr_La hL2, vp01, cl_0, n5, lg_cmp_s, hsc, qIld_s, ix1, ix2, ix3, v1, v2, v3, w1, w2, w3, c1, s1, t8, hc, hs, Nat.add_zero, List.length_nil, List.length_cons, ll0, ll1, ll2, ll3, ll4, Nat.le_refl, Nat.zero_le, eq_self, not_true_eq_false, not_false_eq_true, true_imp_iff, false_imp_iff, true_and, and_true, Classical.not_not]
    exact hk _ _ _ _ _ _ _ _ _ _ _ _ _ _ _ _ _ n3 (Nat.le_refl _) (Nat.le_refl _)
  · simp only [eL_law_289, eL_law_291, eL_law_294, eL_law_296, eL_law_298, eL_law_301, eL_law_302, eL_law_303, eL_law_304, eL_law_306, eL_law_307, eL_law_308, eL_law_311, eL_law_313, g, hsc, qIld_s, ix1, ix2, ix3, v1, v2, v3, w1, w2, w3, c1, s1, t8, hc, hs, Nat.add_zero, List.length_nil, List.length_cons, ll0, ll1, ll2, ll3, ll4, Nat.le_refl, Nat.zero_le, eq_self, not_true_eq_false, not_false_eq_true, true_imp_iff, false_imp_iff, true_and, and_true, Classical.not_not]
    exact hk _ _ _ _ _ _ _ _ _ _ _ _ _ _ _ _ _ n3 (Nat.le_refl _) (Nat.le_refl _)
theorem bad_setPolicy (m : Mod) (p0 p1 : Int32) : ¬ (setPolicyA m p0 p1).2.f 6 = 0 → badM m (setPolicyA m p0 p1).2 := by
  unfold setPolicyA
  repeat' split
  all_goals first | exact fun _ => ⟨_, Or.inl rfl⟩ | exact fun _ => ⟨_, Or.inr rfl⟩ | exact fun h => absurd rfl h
theorem lc_2 {sc : Nat → Option (Nat × (Nat → Int32))} {R : Option Value → qMM → Nat × Nat → Prop} {X : String → qMM → Nat × Nat → Prop} {b L x i H c s : Nat} {xs : Nat → Int32} {m : Mod} {μ : qMM} {a5 a6 a7 a8 b0 b1 b2 b3 b4 b5 b6 b7 b8 : Option Value} (hsc : sc b = some (L, xs)) (hi : 4 * i + 4 ≤ L) (hL : L ≤ 2048) (hH : H + 4000 < 2 ^ 30) (hI : InvL H μ x m) (hc : c + 1 ≤ 601024) (hs : s + 6 ≤ 7293034) (hk : LcK sc R X b x i H c s) : EX (SL_law sc R X) 316 [some (.ref b), some (.ref x), some (.ref (x + 1492)), some (.ref (x + 1498)), some (.int (nI (4 * i))), a5, a6, a7, a8] [b0, b1, b2, b3, b4, b5, b6, b7, b8] [] μ (c, s) := by
  have v1 : vp_in (nI (4 * i + 1)) L := vp_in_nI (by omega) (by omega)
  have v2 : vp_in (nI (4 * i + 2)) L := vp_in_nI (by omega) (by omega)
  have v3 : vp_in (nI (4 * i + 3)) L := vp_in_nI (by omega) (by omega)
  have w1 : (nI (4 * i + 1)).toNatClampNeg = 4 * i + 1 := nI_clamp (by omega)
  have w2 : (nI (4 * i + 2)).toNatClampNeg = 4 * i + 2 := nI_clamp (by omega)
  have w3 : (nI (4 * i + 3)).toNatClampNeg = 4 * i + 3 := nI_clamp (by omega)
  have c1 : c ≤ 601024 := by omega
  have s1 : s ≤ 7293034 := by omega
  have t8 : ∃ t, mS μ x = some (.inl (7, t)) := tX8 hI.1.1.1
  simp only [eL_law_316, eL_law_317, eL_law_318, eL_law_320, eL_law_321, eL_law_322, eL_law_323, eL_law_324, eL_law_326, eL_law_327, eL_law_328, eL_law_329, eL_law_330, hsc, qIld_s, ix1, ix2, ix3, v1, v2, v3, w1, w2, w3, c1, s1, t8, hc, hs, Nat.add_zero, List.length_nil, List.length_cons, ll0, ll1, ll2, ll3, ll4, Nat.le_refl, Nat.zero_le, eq_self, not_true_eq_false, not_false_eq_true, true_imp_iff, false_imp_iff, true_and, and_true, Classical.not_not]
  refine ⟨⟨⟨H, m, hI.1⟩, hI.2.2.2⟩, fun r μ1 q => ?_⟩
  obtain ⟨n1, ⟨hM, hr, -⟩, n3, n4⟩ := hl_next (A := (fun m => setPolicyA m (xs (4 * i + 1)) (xs (4 * i + 2)))) hH hI q (bad_setPolicy m (xs (4 * i + 1)) (xs (4 * i + 2)))
  have t9 : ∃ t, mS μ1 (x + 1492) = some (.inl (8, t)) := tX9 hM.1
  simp only [eL_law_333, eL_law_335, eL_law_336, eL_law_337, eL_law_339, eL_law_340, eL_law_341, eL_law_342, eL_law_343, eL_law_345, eL_law_346, eL_law_347, eL_law_348, t9, hsc, qIld_s, ix1, ix2, ix3, v1, v2, v3, w1, w2, w3, c1, s1, t8, hc, hs, Nat.add_zero, List.length_nil, List.length_cons, ll0, ll1, ll2, ll3, ll4, Nat.le_refl, Nat.zero_le, eq_self, not_true_eq_false, not_false_eq_true, true_imp_iff, false_imp_iff, true_and, and_true, Classical.not_not]
  refine ⟨⟨hM, by rw [hr]; exact MOK_of hI.1⟩, fun r2 μ2 q2 => ?_⟩
  obtain ⟨e1, e2⟩ := q2
  rw [hr] at e1 e2
  have hM2 : MoS μ2 (x + 1492) := by rw [e2]; exact hM
  have hL2 : LaP μ2 (x + 1498) := by rw [e2]; exact n3.2.2.2
  have t92 : ∃ t, mS μ2 (x + 1492) = some (.inl (8, t)) := tX9 hM2.1
  simp only [eL_law_351, eL_law_353, eL_law_354, t92, hsc, qIld_s, ix1, ix2, ix3, v1, v2, v3, w1, w2, w3, c1, s1, t8, hc, hs, Nat.add_zero, List.length_nil, List.length_cons, ll0, ll1, ll2, ll3, ll4, Nat.le_refl, Nat.zero_le, eq_self, not_true_eq_false, not_false_eq_true, true_imp_iff, false_imp_iff, true_and, and_true, Classical.not_not]
  refine ⟨hM2, fun r3 μ3 q3 => ?_⟩
  obtain ⟨e3, e4⟩ := q3
  have e5 : r3 = r := by rw [e3, e2, mI_mm0, n1]
  subst e5
  subst e4
  rw [← e2] at n3 n4
  by_cases g : r3 = 0
  · have n5 := n4 (n1.symm.trans g)
    rw [← e1] at n5
    simp only [eL_law_357, eL_law_359, eL_law_362, eL_law_364, eL_law_366, eL_law_369, eL_law_370, eL_law_371, eL_law_372, eL_law_374, eL_law_375, eL_law_376, eL_law_379, eL_law_381, g, qArr_La hL2, vp01, cl_0, n5, lg_cmp_s, hsc, qIld_s, ix1, ix2, ix3, v1, v2, v3, w1, w2, w3, c1, s1, t8, hc, hs, Nat.add_zero, List.length_nil, List.length_cons, ll0, ll1, ll2, ll3, ll4, Nat.le_refl, Nat.zero_le, eq_self, not_true_eq_false, not_false_eq_true, true_imp_iff, false_imp_iff, true_and, and_true, Classical.not_not]
    exact hk _ _ _ _ _ _ _ _ _ _ _ _ _ _ _ _ _ n3 (Nat.le_refl _) (Nat.le_refl _)
  · simp only [eL_law_357, eL_law_359, eL_law_362, eL_law_364, eL_law_366, eL_law_369, eL_law_370, eL_law_371, eL_law_372, eL_law_374, eL_law_375, eL_law_376, eL_law_379, eL_law_381, g, hsc, qIld_s, ix1, ix2, ix3, v1, v2, v3, w1, w2, w3, c1, s1, t8, hc, hs, Nat.add_zero, List.length_nil, List.length_cons, ll0, ll1, ll2, ll3, ll4, Nat.le_refl, Nat.zero_le, eq_self, not_true_eq_false, not_false_eq_true, true_imp_iff, false_imp_iff, true_and, and_true, Classical.not_not]
    exact hk _ _ _ _ _ _ _ _ _ _ _ _ _ _ _ _ _ n3 (Nat.le_refl _) (Nat.le_refl _)
theorem lc_3 {sc : Nat → Option (Nat × (Nat → Int32))} {R : Option Value → qMM → Nat × Nat → Prop} {X : String → qMM → Nat × Nat → Prop} {b L x i H c s : Nat} {xs : Nat → Int32} {m : Mod} {μ : qMM} {a5 a6 a7 a8 b0 b1 b2 b3 b4 b5 b6 b7 b8 : Option Value} (hsc : sc b = some (L, xs)) (hi : 4 * i + 4 ≤ L) (hL : L ≤ 2048) (hH : H + 4000 < 2 ^ 30) (hI : InvL H μ x m) (hc : c + 1 ≤ 601024) (hs : s + 6 ≤ 7293034) (hk : LcK sc R X b x i H c s) : EX (SL_law sc R X) 384 [some (.ref b), some (.ref x), some (.ref (x + 1492)), some (.ref (x + 1498)), some (.int (nI (4 * i))), a5, a6, a7, a8] [b0, b1, b2, b3, b4, b5, b6, b7, b8] [] μ (c, s) := by
  have v1 : vp_in (nI (4 * i + 1)) L := vp_in_nI (by omega) (by omega)
  have v2 : vp_in (nI (4 * i + 2)) L := vp_in_nI (by omega) (by omega)
  have v3 : vp_in (nI (4 * i + 3)) L := vp_in_nI (by omega) (by omega)
  have w1 : (nI (4 * i + 1)).toNatClampNeg = 4 * i + 1 := nI_clamp (by omega)
  have w2 : (nI (4 * i + 2)).toNatClampNeg = 4 * i + 2 := nI_clamp (by omega)
  have w3 : (nI (4 * i + 3)).toNatClampNeg = 4 * i + 3 := nI_clamp (by omega)
  have c1 : c ≤ 601024 := by omega
  have s1 : s ≤ 7293034 := by omega
  have t8 : ∃ t, mS μ x = some (.inl (7, t)) := tX8 hI.1.1.1
  simp only [eL_law_384, eL_law_385, hsc, qIld_s, ix1, ix2, ix3, v1, v2, v3, w1, w2, w3, c1, s1, t8, hc, hs, Nat.add_zero, List.length_nil, List.length_cons, ll0, ll1, ll2, ll3, ll4, Nat.le_refl, Nat.zero_le, eq_self, not_true_eq_false, not_false_eq_true, true_imp_iff, false_imp_iff, true_and, and_true, Classical.not_not]
  refine ⟨⟨H, m, hI.1⟩, fun r μ1 q => ?_⟩
  obtain ⟨n1, qQ⟩ := q H m hI.1
  obtain ⟨hM, hr, -⟩ := Aft_of hI qQ
  have t9 : ∃ t, mS μ1 (x + 1492) = some (.inl (8, t)) := tX9 hM.1
  simp only [eL_law_388, eL_law_389, t9, hsc, qIld_s, ix1, ix2, ix3, v1, v2, v3, w1, w2, w3, c1, s1, t8, hc, hs, Nat.add_zero, List.length_nil, List.length_cons, ll0, ll1, ll2, ll3, ll4, Nat.le_refl, Nat.zero_le, eq_self, not_true_eq_false, not_false_eq_true, true_imp_iff, false_imp_iff, true_and, and_true, Classical.not_not]
  refine ⟨⟨hM, by rw [hr]; exact MOK_of hI.1⟩, fun r2 μ2 q2 => ?_⟩
  obtain ⟨e1, e2⟩ := q2
  rw [hr] at e1 e2
  rw [n1, e1]
  simp only [eL_law_392, eL_law_395, hsc, qIld_s, ix1, ix2, ix3, v1, v2, v3, w1, w2, w3, c1, s1, t8, hc, hs, Nat.add_zero, List.length_nil, List.length_cons, ll0, ll1, ll2, ll3, ll4, Nat.le_refl, Nat.zero_le, eq_self, not_true_eq_false, not_false_eq_true, true_imp_iff, false_imp_iff, true_and, and_true, Classical.not_not]
  rw [e2]
  exact hk _ _ _ _ _ _ _ _ _ _ _ _ _ _ _ _ _ (InvL_next hH hI qQ (Or.inl rfl)) (Nat.le_succ _) (Nat.le_add_right _ _)
theorem bad_send (m : Mod) : ¬ (sendA m).2.f 6 = 0 → badM m (sendA m).2 := by
  unfold sendA
  repeat' split
  all_goals first | exact fun _ => ⟨_, Or.inl rfl⟩ | exact fun _ => ⟨_, Or.inr rfl⟩ | exact fun h => absurd rfl h
theorem lc_4 {sc : Nat → Option (Nat × (Nat → Int32))} {R : Option Value → qMM → Nat × Nat → Prop} {X : String → qMM → Nat × Nat → Prop} {b L x i H c s : Nat} {xs : Nat → Int32} {m : Mod} {μ : qMM} {a5 a6 a7 a8 b0 b1 b2 b3 b4 b5 b6 b7 b8 : Option Value} (hsc : sc b = some (L, xs)) (hi : 4 * i + 4 ≤ L) (hL : L ≤ 2048) (hH : H + 4000 < 2 ^ 30) (hI : InvL H μ x m) (hc : c + 1 ≤ 601024) (hs : s + 6 ≤ 7293034) (hk : LcK sc R X b x i H c s) : EX (SL_law sc R X) 397 [some (.ref b), some (.ref x), some (.ref (x + 1492)), some (.ref (x + 1498)), some (.int (nI (4 * i))), a5, a6, a7, a8] [b0, b1, b2, b3, b4, b5, b6, b7, b8] [] μ (c, s) := by
  have v1 : vp_in (nI (4 * i + 1)) L := vp_in_nI (by omega) (by omega)
  have v2 : vp_in (nI (4 * i + 2)) L := vp_in_nI (by omega) (by omega)
  have v3 : vp_in (nI (4 * i + 3)) L := vp_in_nI (by omega) (by omega)
  have w1 : (nI (4 * i + 1)).toNatClampNeg = 4 * i + 1 := nI_clamp (by omega)
  have w2 : (nI (4 * i + 2)).toNatClampNeg = 4 * i + 2 := nI_clamp (by omega)
  have w3 : (nI (4 * i + 3)).toNatClampNeg = 4 * i + 3 := nI_clamp (by omega)
  have c1 : c ≤ 601024 := by omega
  have s1 : s ≤ 7293034 := by omega
  have t8 : ∃ t, mS μ x = some (.inl (7, t)) := tX8 hI.1.1.1
  simp only [eL_law_397, eL_law_398, eL_law_399, hsc, qIld_s, ix1, ix2, ix3, v1, v2, v3, w1, w2, w3, c1, s1, t8, hc, hs, Nat.add_zero, List.length_nil, List.length_cons, ll0, ll1, ll2, ll3, ll4, Nat.le_refl, Nat.zero_le, eq_self, not_true_eq_false, not_false_eq_true, true_imp_iff, false_imp_iff, true_and, and_true, Classical.not_not]
  refine ⟨⟨⟨H, m, hI.1⟩, hI.2.2.2⟩, fun r μ1 q => ?_⟩
  obtain ⟨n1, ⟨hM, hr, -⟩, n3, n4⟩ := hl_next (A := (fun m => sendA m)) hH hI q (bad_send m)
  have t9 : ∃ t, mS μ1 (x + 1492) = some (.inl (8, t)) := tX9 hM.1
  simp only [eL_law_402, eL_law_404, eL_law_405, t9, hsc, qIld_s, ix1, ix2, ix3, v1, v2, v3, w1, w2, w3, c1, s1, t8, hc, hs, Nat.add_zero, List.length_nil, List.length_cons, ll0, ll1, ll2, ll3, ll4, Nat.le_refl, Nat.zero_le, eq_self, not_true_eq_false, not_false_eq_true, true_imp_iff, false_imp_iff, true_and, and_true, Classical.not_not]
  refine ⟨⟨hM, by rw [hr]; exact MOK_of hI.1⟩, fun r2 μ2 q2 => ?_⟩
  obtain ⟨e1, e2⟩ := q2
  rw [hr] at e1 e2
  have hM2 : MoS μ2 (x + 1492) := by rw [e2]; exact hM
  have hL2 : LaP μ2 (x + 1498) := by rw [e2]; exact n3.2.2.2
  have t92 : ∃ t, mS μ2 (x + 1492) = some (.inl (8, t)) := tX9 hM2.1
  simp only [eL_law_408, eL_law_410, eL_law_411, t92, hsc, qIld_s, ix1, ix2, ix3, v1, v2, v3, w1, w2, w3, c1, s1, t8, hc, hs, Nat.add_zero, List.length_nil, List.length_cons, ll0, ll1, ll2, ll3, ll4, Nat.le_refl, Nat.zero_le, eq_self, not_true_eq_false, not_false_eq_true, true_imp_iff, false_imp_iff, true_and, and_true, Classical.not_not]
  refine ⟨hM2, fun r3 μ3 q3 => ?_⟩
  obtain ⟨e3, e4⟩ := q3
  have e5 : r3 = r := by rw [e3, e2, mI_mm0, n1]
  subst e5
  subst e4
  rw [← e2] at n3 n4
  by_cases g : r3 = 0
  · have n5 := n4 (n1.symm.trans g)
    rw [← e1] at n5
    simp only [eL_law_414, eL_law_416, eL_law_419, eL_law_421, eL_law_423, eL_law_426, eL_law_427, eL_law_428, eL_law_429, eL_law_431, eL_law_432, eL_law_433, eL_law_436, eL_law_438, g, qArr_La hL2, vp01, cl_0, n5, lg_cmp_s, hsc, qIld_s, ix1, ix2, ix3, v1, v2, v3, w1, w2, w3, c1, s1, t8, hc, hs, Nat.add_zero, List.length_nil, List.length_cons, ll0, ll1, ll2, ll3, ll4, Nat.le_refl, Nat.zero_le, eq_self, not_true_eq_false, not_false_eq_true, true_imp_iff, false_imp_iff, true_and, and_true, Classical.not_not]
    exact hk _ _ _ _ _ _ _ _ _ _ _ _ _ _ _ _ _ n3 (Nat.le_refl _) (Nat.le_refl _)
  · simp only [eL_law_414, eL_law_416, eL_law_419, eL_law_421, eL_law_423, eL_law_426, eL_law_427, eL_law_428, eL_law_429, eL_law_431, eL_law_432, eL_law_433, eL_law_436, eL_law_438, g, hsc, qIld_s, ix1, ix2, ix3, v1, v2, v3, w1, w2, w3, c1, s1, t8, hc, hs, Nat.add_zero, List.length_nil, List.length_cons, ll0, ll1, ll2, ll3, ll4, Nat.le_refl, Nat.zero_le, eq_self, not_true_eq_false, not_false_eq_true, true_imp_iff, false_imp_iff, true_and, and_true, Classical.not_not]
    exact hk _ _ _ _ _ _ _ _ _ _ _ _ _ _ _ _ _ n3 (Nat.le_refl _) (Nat.le_refl _)
theorem bad_stream (m : Mod) (p0 : Int32) : ¬ (streamA m p0).2.f 6 = 0 → badM m (streamA m p0).2 := by
  unfold streamA
  repeat' split
  all_goals first | exact fun _ => ⟨_, Or.inl rfl⟩ | exact fun _ => ⟨_, Or.inr rfl⟩ | exact fun h => absurd rfl h
theorem lc_5 {sc : Nat → Option (Nat × (Nat → Int32))} {R : Option Value → qMM → Nat × Nat → Prop} {X : String → qMM → Nat × Nat → Prop} {b L x i H c s : Nat} {xs : Nat → Int32} {m : Mod} {μ : qMM} {a5 a6 a7 a8 b0 b1 b2 b3 b4 b5 b6 b7 b8 : Option Value} (hsc : sc b = some (L, xs)) (hi : 4 * i + 4 ≤ L) (hL : L ≤ 2048) (hH : H + 4000 < 2 ^ 30) (hI : InvL H μ x m) (hc : c + 1 ≤ 601024) (hs : s + 6 ≤ 7293034) (hk : LcK sc R X b x i H c s) : EX (SL_law sc R X) 441 [some (.ref b), some (.ref x), some (.ref (x + 1492)), some (.ref (x + 1498)), some (.int (nI (4 * i))), a5, a6, a7, a8] [b0, b1, b2, b3, b4, b5, b6, b7, b8] [] μ (c, s) := by
  have v1 : vp_in (nI (4 * i + 1)) L := vp_in_nI (by omega) (by omega)
  have v2 : vp_in (nI (4 * i + 2)) L := vp_in_nI (by omega) (by omega)
  have v3 : vp_in (nI (4 * i + 3)) L := vp_in_nI (by omega) (by omega)
  have w1 : (nI (4 * i + 1)).toNatClampNeg = 4 * i + 1 := nI_clamp (by omega)
  have w2 : (nI (4 * i + 2)).toNatClampNeg = 4 * i + 2 := nI_clamp (by omega)
  have w3 : (nI (4 * i + 3)).toNatClampNeg = 4 * i + 3 := nI_clamp (by omega)
  have c1 : c ≤ 601024 := by omega
  have s1 : s ≤ 7293034 := by omega
  have t8 : ∃ t, mS μ x = some (.inl (7, t)) := tX8 hI.1.1.1
  simp only [eL_law_441, eL_law_442, eL_law_443, eL_law_445, eL_law_446, eL_law_447, eL_law_448, eL_law_449, hsc, qIld_s, ix1, ix2, ix3, v1, v2, v3, w1, w2, w3, c1, s1, t8, hc, hs, Nat.add_zero, List.length_nil, List.length_cons, ll0, ll1, ll2, ll3, ll4, Nat.le_refl, Nat.zero_le, eq_self, not_true_eq_false, not_false_eq_true, true_imp_iff, false_imp_iff, true_and, and_true, Classical.not_not]
  refine ⟨⟨⟨H, m, hI.1⟩, hI.2.2.2⟩, fun r μ1 q => ?_⟩
  obtain ⟨n1, ⟨hM, hr, -⟩, n3, n4⟩ := hl_next (A := (fun m => streamA m (xs (4 * i + 1)))) hH hI q (bad_stream m (xs (4 * i + 1)))
  have t9 : ∃ t, mS μ1 (x + 1492) = some (.inl (8, t)) := tX9 hM.1
  simp only [eL_law_452, eL_law_454, eL_law_455, eL_law_456, eL_law_458, eL_law_459, eL_law_460, eL_law_461, t9, hsc, qIld_s, ix1, ix2, ix3, v1, v2, v3, w1, w2, w3, c1, s1, t8, hc, hs, Nat.add_zero, List.length_nil, List.length_cons, ll0, ll1, ll2, ll3, ll4, Nat.le_refl, Nat.zero_le, eq_self, not_true_eq_false, not_false_eq_true, true_imp_iff, false_imp_iff, true_and, and_true, Classical.not_not]
  refine ⟨⟨hM, by rw [hr]; exact MOK_of hI.1⟩, fun r2 μ2 q2 => ?_⟩
  obtain ⟨e1, e2⟩ := q2
  rw [hr] at e1 e2
  have hM2 : MoS μ2 (x + 1492) := by rw [e2]; exact hM
  have hL2 : LaP μ2 (x + 1498) := by rw [e2]; exact n3.2.2.2
  have t92 : ∃ t, mS μ2 (x + 1492) = some (.inl (8, t)) := tX9 hM2.1
  simp only [eL_law_464, eL_law_466, eL_law_467, t92, hsc, qIld_s, ix1, ix2, ix3, v1, v2, v3, w1, w2, w3, c1, s1, t8, hc, hs, Nat.add_zero, List.length_nil, List.length_cons, ll0, ll1, ll2, ll3, ll4, Nat.le_refl, Nat.zero_le, eq_self, not_true_eq_false, not_false_eq_true, true_imp_iff, false_imp_iff, true_and, and_true, Classical.not_not]
  refine ⟨hM2, fun r3 μ3 q3 => ?_⟩
  obtain ⟨e3, e4⟩ := q3
  have e5 : r3 = r := by rw [e3, e2, mI_mm0, n1]
  subst e5
  subst e4
  rw [← e2] at n3 n4
  by_cases g : r3 = 0
  · have n5 := n4 (n1.symm.trans g)
    rw [← e1] at n5
    simp only [eL_law_470, eL_law_472, eL_law_475, eL_law_477, eL_law_479, eL_law_482, eL_law_483, eL_law_484, eL_law_485, eL_law_487, eL_law_488, eL_law_489, eL_law_492, eL_law_494, g, qArr_La hL2, vp01, cl_0, n5, lg_cmp_s, hsc, qIld_s, ix1, ix2, ix3, v1, v2, v3, w1, w2, w3, c1, s1, t8, hc, hs, Nat.add_zero, List.length_nil, List.length_cons, ll0, ll1, ll2, ll3, ll4, Nat.le_refl, Nat.zero_le, eq_self, not_true_eq_false, not_false_eq_true, true_imp_iff, false_imp_iff, true_and, and_true, Classical.not_not]
    exact hk _ _ _ _ _ _ _ _ _ _ _ _ _ _ _ _ _ n3 (Nat.le_refl _) (Nat.le_refl _)
  · simp only [eL_law_470, eL_law_472, eL_law_475, eL_law_477, eL_law_479, eL_law_482, eL_law_483, eL_law_484, eL_law_485, eL_law_487, eL_law_488, eL_law_489, eL_law_492, eL_law_494, g, hsc, qIld_s, ix1, ix2, ix3, v1, v2, v3, w1, w2, w3, c1, s1, t8, hc, hs, Nat.add_zero, List.length_nil, List.length_cons, ll0, ll1, ll2, ll3, ll4, Nat.le_refl, Nat.zero_le, eq_self, not_true_eq_false, not_false_eq_true, true_imp_iff, false_imp_iff, true_and, and_true, Classical.not_not]
    exact hk _ _ _ _ _ _ _ _ _ _ _ _ _ _ _ _ _ n3 (Nat.le_refl _) (Nat.le_refl _)
theorem bad_field (m : Mod) (p0 : Int32) : ¬ (fieldA m p0).2.f 6 = 0 → badM m (fieldA m p0).2 := by
  unfold fieldA
  repeat' split
  all_goals first | exact fun _ => ⟨_, Or.inl rfl⟩ | exact fun _ => ⟨_, Or.inr rfl⟩ | exact fun h => absurd rfl h
theorem lc_6 {sc : Nat → Option (Nat × (Nat → Int32))} {R : Option Value → qMM → Nat × Nat → Prop} {X : String → qMM → Nat × Nat → Prop} {b L x i H c s : Nat} {xs : Nat → Int32} {m : Mod} {μ : qMM} {a5 a6 a7 a8 b0 b1 b2 b3 b4 b5 b6 b7 b8 : Option Value} (hsc : sc b = some (L, xs)) (hi : 4 * i + 4 ≤ L) (hL : L ≤ 2048) (hH : H + 4000 < 2 ^ 30) (hI : InvL H μ x m) (hc : c + 1 ≤ 601024) (hs : s + 6 ≤ 7293034) (hk : LcK sc R X b x i H c s) : EX (SL_law sc R X) 497 [some (.ref b), some (.ref x), some (.ref (x + 1492)), some (.ref (x + 1498)), some (.int (nI (4 * i))), a5, a6, a7, a8] [b0, b1, b2, b3, b4, b5, b6, b7, b8] [] μ (c, s) := by
  have v1 : vp_in (nI (4 * i + 1)) L := vp_in_nI (by omega) (by omega)
  have v2 : vp_in (nI (4 * i + 2)) L := vp_in_nI (by omega) (by omega)
  have v3 : vp_in (nI (4 * i + 3)) L := vp_in_nI (by omega) (by omega)
  have w1 : (nI (4 * i + 1)).toNatClampNeg = 4 * i + 1 := nI_clamp (by omega)
  have w2 : (nI (4 * i + 2)).toNatClampNeg = 4 * i + 2 := nI_clamp (by omega)
  have w3 : (nI (4 * i + 3)).toNatClampNeg = 4 * i + 3 := nI_clamp (by omega)
  have c1 : c ≤ 601024 := by omega
  have s1 : s ≤ 7293034 := by omega
  have t8 : ∃ t, mS μ x = some (.inl (7, t)) := tX8 hI.1.1.1
  simp only [eL_law_497, eL_law_498, eL_law_499, eL_law_501, eL_law_502, eL_law_503, eL_law_504, eL_law_505, hsc, qIld_s, ix1, ix2, ix3, v1, v2, v3, w1, w2, w3, c1, s1, t8, hc, hs, Nat.add_zero, List.length_nil, List.length_cons, ll0, ll1, ll2, ll3, ll4, Nat.le_refl, Nat.zero_le, eq_self, not_true_eq_false, not_false_eq_true, true_imp_iff, false_imp_iff, true_and, and_true, Classical.not_not]
  refine ⟨⟨⟨H, m, hI.1⟩, hI.2.2.2⟩, fun r μ1 q => ?_⟩
  obtain ⟨n1, ⟨hM, hr, -⟩, n3, n4⟩ := hl_next (A := (fun m => fieldA m (xs (4 * i + 1)))) hH hI q (bad_field m (xs (4 * i + 1)))
  have t9 : ∃ t, mS μ1 (x + 1492) = some (.inl (8, t)) := tX9 hM.1
  simp only [eL_law_508, eL_law_510, eL_law_511, eL_law_512, eL_law_514, eL_law_515, eL_law_516, eL_law_517, t9, hsc, qIld_s, ix1, ix2, ix3, v1, v2, v3, w1, w2, w3, c1, s1, t8, hc, hs, Nat.add_zero, List.length_nil, List.length_cons, ll0, ll1, ll2, ll3, ll4, Nat.le_refl, Nat.zero_le, eq_self, not_true_eq_false, not_false_eq_true, true_imp_iff, false_imp_iff, true_and, and_true, Classical.not_not]
  refine ⟨⟨hM, by rw [hr]; exact MOK_of hI.1⟩, fun r2 μ2 q2 => ?_⟩
  obtain ⟨e1, e2⟩ := q2
  rw [hr] at e1 e2
  have hM2 : MoS μ2 (x + 1492) := by rw [e2]; exact hM
  have hL2 : LaP μ2 (x + 1498) := by rw [e2]; exact n3.2.2.2
  have t92 : ∃ t, mS μ2 (x + 1492) = some (.inl (8, t)) := tX9 hM2.1
  simp only [eL_law_520, eL_law_522, eL_law_523, t92, hsc, qIld_s, ix1, ix2, ix3, v1, v2, v3, w1, w2, w3, c1, s1, t8, hc, hs, Nat.add_zero, List.length_nil, List.length_cons, ll0, ll1, ll2, ll3, ll4, Nat.le_refl, Nat.zero_le, eq_self, not_true_eq_false, not_false_eq_true, true_imp_iff, false_imp_iff, true_and, and_true, Classical.not_not]
  refine ⟨hM2, fun r3 μ3 q3 => ?_⟩
  obtain ⟨e3, e4⟩ := q3
  have e5 : r3 = r := by rw [e3, e2, mI_mm0, n1]
  subst e5
  subst e4
  rw [← e2] at n3 n4
  by_cases g : r3 = 0
  · have n5 := n4 (n1.symm.trans g)
    rw [← e1] at n5
    simp only [eL_law_526, eL_law_528, eL_law_531, eL_law_533, eL_law_535, eL_law_538, eL_law_539, eL_law_540, eL_law_541, eL_law_543, eL_law_544, eL_law_545, eL_law_548, eL_law_550, g, qArr_La hL2, vp01, cl_0, n5, lg_cmp_s, hsc, qIld_s, ix1, ix2, ix3, v1, v2, v3, w1, w2, w3, c1, s1, t8, hc, hs, Nat.add_zero, List.length_nil, List.length_cons, ll0, ll1, ll2, ll3, ll4, Nat.le_refl, Nat.zero_le, eq_self, not_true_eq_false, not_false_eq_true, true_imp_iff, false_imp_iff, true_and, and_true, Classical.not_not]
    exact hk _ _ _ _ _ _ _ _ _ _ _ _ _ _ _ _ _ n3 (Nat.le_refl _) (Nat.le_refl _)
  · simp only [eL_law_526, eL_law_528, eL_law_531, eL_law_533, eL_law_535, eL_law_538, eL_law_539, eL_law_540, eL_law_541, eL_law_543, eL_law_544, eL_law_545, eL_law_548, eL_law_550, g, hsc, qIld_s, ix1, ix2, ix3, v1, v2, v3, w1, w2, w3, c1, s1, t8, hc, hs, Nat.add_zero, List.length_nil, List.length_cons, ll0, ll1, ll2, ll3, ll4, Nat.le_refl, Nat.zero_le, eq_self, not_true_eq_false, not_false_eq_true, true_imp_iff, false_imp_iff, true_and, and_true, Classical.not_not]
    exact hk _ _ _ _ _ _ _ _ _ _ _ _ _ _ _ _ _ n3 (Nat.le_refl _) (Nat.le_refl _)
theorem bad_sizeWith (m : Mod) (p0 p1 : Int32) : ¬ (sizeWithA m p0 p1).2.f 6 = 0 → badM m (sizeWithA m p0 p1).2 := by
  unfold sizeWithA
  repeat' split
  all_goals first | exact fun _ => ⟨_, Or.inl rfl⟩ | exact fun _ => ⟨_, Or.inr rfl⟩ | exact fun h => absurd rfl h
theorem lc_7 {sc : Nat → Option (Nat × (Nat → Int32))} {R : Option Value → qMM → Nat × Nat → Prop} {X : String → qMM → Nat × Nat → Prop} {b L x i H c s : Nat} {xs : Nat → Int32} {m : Mod} {μ : qMM} {a5 a6 a7 a8 b0 b1 b2 b3 b4 b5 b6 b7 b8 : Option Value} (hsc : sc b = some (L, xs)) (hi : 4 * i + 4 ≤ L) (hL : L ≤ 2048) (hH : H + 4000 < 2 ^ 30) (hI : InvL H μ x m) (hc : c + 1 ≤ 601024) (hs : s + 6 ≤ 7293034) (hk : LcK sc R X b x i H c s) : EX (SL_law sc R X) 553 [some (.ref b), some (.ref x), some (.ref (x + 1492)), some (.ref (x + 1498)), some (.int (nI (4 * i))), a5, a6, a7, a8] [b0, b1, b2, b3, b4, b5, b6, b7, b8] [] μ (c, s) := by
  have v1 : vp_in (nI (4 * i + 1)) L := vp_in_nI (by omega) (by omega)
  have v2 : vp_in (nI (4 * i + 2)) L := vp_in_nI (by omega) (by omega)
  have v3 : vp_in (nI (4 * i + 3)) L := vp_in_nI (by omega) (by omega)
  have w1 : (nI (4 * i + 1)).toNatClampNeg = 4 * i + 1 := nI_clamp (by omega)
  have w2 : (nI (4 * i + 2)).toNatClampNeg = 4 * i + 2 := nI_clamp (by omega)
  have w3 : (nI (4 * i + 3)).toNatClampNeg = 4 * i + 3 := nI_clamp (by omega)
  have c1 : c ≤ 601024 := by omega
  have s1 : s ≤ 7293034 := by omega
  have t8 : ∃ t, mS μ x = some (.inl (7, t)) := tX8 hI.1.1.1
  simp only [eL_law_553, eL_law_554, eL_law_555, eL_law_557, eL_law_558, eL_law_559, eL_law_560, eL_law_561, eL_law_563, eL_law_564, eL_law_565, eL_law_566, eL_law_567, hsc, qIld_s, ix1, ix2, ix3, v1, v2, v3, w1, w2, w3, c1, s1, t8, hc, hs, Nat.add_zero, List.length_nil, List.length_cons, ll0, ll1, ll2, ll3, ll4, Nat.le_refl, Nat.zero_le, eq_self, not_true_eq_false, not_false_eq_true, true_imp_iff, false_imp_iff, true_and, and_true, Classical.not_not]
  refine ⟨⟨⟨H, m, hI.1⟩, hI.2.2.2⟩, fun r μ1 q => ?_⟩
  obtain ⟨n1, ⟨hM, hr, -⟩, n3, n4⟩ := hl_next (A := (fun m => sizeWithA m (xs (4 * i + 1)) (xs (4 * i + 2)))) hH hI q (bad_sizeWith m (xs (4 * i + 1)) (xs (4 * i + 2)))
  have t9 : ∃ t, mS μ1 (x + 1492) = some (.inl (8, t)) := tX9 hM.1
  simp only [eL_law_570, eL_law_572, eL_law_573, eL_law_574, eL_law_576, eL_law_577, eL_law_578, eL_law_579, eL_law_580, eL_law_582, eL_law_583, eL_law_584, eL_law_585, t9, hsc, qIld_s, ix1, ix2, ix3, v1, v2, v3, w1, w2, w3, c1, s1, t8, hc, hs, Nat.add_zero, List.length_nil, List.length_cons, ll0, ll1, ll2, ll3, ll4, Nat.le_refl, Nat.zero_le, eq_self, not_true_eq_false, not_false_eq_true, true_imp_iff, false_imp_iff, true_and, and_true, Classical.not_not]
  refine ⟨⟨hM, by rw [hr]; exact MOK_of hI.1⟩, fun r2 μ2 q2 => ?_⟩
  obtain ⟨e1, e2⟩ := q2
  rw [hr] at e1 e2
  have hM2 : MoS μ2 (x + 1492) := by rw [e2]; exact hM
  have hL2 : LaP μ2 (x + 1498) := by rw [e2]; exact n3.2.2.2
  have t92 : ∃ t, mS μ2 (x + 1492) = some (.inl (8, t)) := tX9 hM2.1
  simp only [eL_law_588, eL_law_590, eL_law_591, t92, hsc, qIld_s, ix1, ix2, ix3, v1, v2, v3, w1, w2, w3, c1, s1, t8, hc, hs, Nat.add_zero, List.length_nil, List.length_cons, ll0, ll1, ll2, ll3, ll4, Nat.le_refl, Nat.zero_le, eq_self, not_true_eq_false, not_false_eq_true, true_imp_iff, false_imp_iff, true_and, and_true, Classical.not_not]
  refine ⟨hM2, fun r3 μ3 q3 => ?_⟩
  obtain ⟨e3, e4⟩ := q3
  have e5 : r3 = r := by rw [e3, e2, mI_mm0, n1]
  subst e5
  subst e4
  rw [← e2] at n3 n4
  by_cases g : r3 = 0
  · have n5 := n4 (n1.symm.trans g)
    rw [← e1] at n5
    simp only [eL_law_594, eL_law_596, eL_law_599, eL_law_601, eL_law_603, eL_law_606, eL_law_607, eL_law_608, eL_law_609, eL_law_611, eL_law_612, eL_law_613, eL_law_616, eL_law_618, g, qArr_La hL2, vp01, cl_0, n5, lg_cmp_s, hsc, qIld_s, ix1, ix2, ix3, v1, v2, v3, w1, w2, w3, c1, s1, t8, hc, hs, Nat.add_zero, List.length_nil, List.length_cons, ll0, ll1, ll2, ll3, ll4, Nat.le_refl, Nat.zero_le, eq_self, not_true_eq_false, not_false_eq_true, true_imp_iff, false_imp_iff, true_and, and_true, Classical.not_not]
    exact hk _ _ _ _ _ _ _ _ _ _ _ _ _ _ _ _ _ n3 (Nat.le_refl _) (Nat.le_refl _)
  · simp only [eL_law_594, eL_law_596, eL_law_599, eL_law_601, eL_law_603, eL_law_606, eL_law_607, eL_law_608, eL_law_609, eL_law_611, eL_law_612, eL_law_613, eL_law_616, eL_law_618, g, hsc, qIld_s, ix1, ix2, ix3, v1, v2, v3, w1, w2, w3, c1, s1, t8, hc, hs, Nat.add_zero, List.length_nil, List.length_cons, ll0, ll1, ll2, ll3, ll4, Nat.le_refl, Nat.zero_le, eq_self, not_true_eq_false, not_false_eq_true, true_imp_iff, false_imp_iff, true_and, and_true, Classical.not_not]
    exact hk _ _ _ _ _ _ _ _ _ _ _ _ _ _ _ _ _ n3 (Nat.le_refl _) (Nat.le_refl _)
theorem lc_8 {sc : Nat → Option (Nat × (Nat → Int32))} {R : Option Value → qMM → Nat × Nat → Prop} {X : String → qMM → Nat × Nat → Prop} {b L x i H c s : Nat} {xs : Nat → Int32} {m : Mod} {μ : qMM} {a5 a6 a7 a8 b0 b1 b2 b3 b4 b5 b6 b7 b8 : Option Value} (hsc : sc b = some (L, xs)) (hi : 4 * i + 4 ≤ L) (hL : L ≤ 2048) (hH : H + 4000 < 2 ^ 30) (hI : InvL H μ x m) (hc : c + 1 ≤ 601024) (hs : s + 6 ≤ 7293034) (hk : LcK sc R X b x i H c s) : EX (SL_law sc R X) 621 [some (.ref b), some (.ref x), some (.ref (x + 1492)), some (.ref (x + 1498)), some (.int (nI (4 * i))), a5, a6, a7, a8] [b0, b1, b2, b3, b4, b5, b6, b7, b8] [] μ (c, s) := by
  have v1 : vp_in (nI (4 * i + 1)) L := vp_in_nI (by omega) (by omega)
  have v2 : vp_in (nI (4 * i + 2)) L := vp_in_nI (by omega) (by omega)
  have v3 : vp_in (nI (4 * i + 3)) L := vp_in_nI (by omega) (by omega)
  have w1 : (nI (4 * i + 1)).toNatClampNeg = 4 * i + 1 := nI_clamp (by omega)
  have w2 : (nI (4 * i + 2)).toNatClampNeg = 4 * i + 2 := nI_clamp (by omega)
  have w3 : (nI (4 * i + 3)).toNatClampNeg = 4 * i + 3 := nI_clamp (by omega)
  have c1 : c ≤ 601024 := by omega
  have s1 : s ≤ 7293034 := by omega
  have t8 : ∃ t, mS μ x = some (.inl (7, t)) := tX8 hI.1.1.1
  simp only [eL_law_621, eL_law_622, hsc, qIld_s, ix1, ix2, ix3, v1, v2, v3, w1, w2, w3, c1, s1, t8, hc, hs, Nat.add_zero, List.length_nil, List.length_cons, ll0, ll1, ll2, ll3, ll4, Nat.le_refl, Nat.zero_le, eq_self, not_true_eq_false, not_false_eq_true, true_imp_iff, false_imp_iff, true_and, and_true, Classical.not_not]
  refine ⟨⟨H, m, hI.1⟩, fun r μ1 q => ?_⟩
  obtain ⟨n1, qQ⟩ := q H m hI.1
  obtain ⟨hM, hr, -⟩ := Aft_of hI qQ
  have t9 : ∃ t, mS μ1 (x + 1492) = some (.inl (8, t)) := tX9 hM.1
  simp only [eL_law_625, eL_law_626, t9, hsc, qIld_s, ix1, ix2, ix3, v1, v2, v3, w1, w2, w3, c1, s1, t8, hc, hs, Nat.add_zero, List.length_nil, List.length_cons, ll0, ll1, ll2, ll3, ll4, Nat.le_refl, Nat.zero_le, eq_self, not_true_eq_false, not_false_eq_true, true_imp_iff, false_imp_iff, true_and, and_true, Classical.not_not]
  refine ⟨⟨hM, by rw [hr]; exact MOK_of hI.1⟩, fun r2 μ2 q2 => ?_⟩
  obtain ⟨e1, e2⟩ := q2
  rw [hr] at e1 e2
  rw [n1, e1]
  simp only [eL_law_629, eL_law_632, hsc, qIld_s, ix1, ix2, ix3, v1, v2, v3, w1, w2, w3, c1, s1, t8, hc, hs, Nat.add_zero, List.length_nil, List.length_cons, ll0, ll1, ll2, ll3, ll4, Nat.le_refl, Nat.zero_le, eq_self, not_true_eq_false, not_false_eq_true, true_imp_iff, false_imp_iff, true_and, and_true, Classical.not_not]
  rw [e2]
  exact hk _ _ _ _ _ _ _ _ _ _ _ _ _ _ _ _ _ (InvL_next hH hI qQ (Or.inl rfl)) (Nat.le_succ _) (Nat.le_add_right _ _)
theorem bad_sent (m : Mod) (p0 p1 : Int32) : ¬ (sentA m p0 p1).2.f 6 = 0 → badM m (sentA m p0 p1).2 := by
  unfold sentA
  repeat' split
  all_goals first | exact fun _ => ⟨_, Or.inl rfl⟩ | exact fun _ => ⟨_, Or.inr rfl⟩ | exact fun h => absurd rfl h
theorem lc_9 {sc : Nat → Option (Nat × (Nat → Int32))} {R : Option Value → qMM → Nat × Nat → Prop} {X : String → qMM → Nat × Nat → Prop} {b L x i H c s : Nat} {xs : Nat → Int32} {m : Mod} {μ : qMM} {a5 a6 a7 a8 b0 b1 b2 b3 b4 b5 b6 b7 b8 : Option Value} (hsc : sc b = some (L, xs)) (hi : 4 * i + 4 ≤ L) (hL : L ≤ 2048) (hH : H + 4000 < 2 ^ 30) (hI : InvL H μ x m) (hc : c + 1 ≤ 601024) (hs : s + 6 ≤ 7293034) (hk : LcK sc R X b x i H c s) : EX (SL_law sc R X) 634 [some (.ref b), some (.ref x), some (.ref (x + 1492)), some (.ref (x + 1498)), some (.int (nI (4 * i))), a5, a6, a7, a8] [b0, b1, b2, b3, b4, b5, b6, b7, b8] [] μ (c, s) := by
  have v1 : vp_in (nI (4 * i + 1)) L := vp_in_nI (by omega) (by omega)
  have v2 : vp_in (nI (4 * i + 2)) L := vp_in_nI (by omega) (by omega)
  have v3 : vp_in (nI (4 * i + 3)) L := vp_in_nI (by omega) (by omega)
  have w1 : (nI (4 * i + 1)).toNatClampNeg = 4 * i + 1 := nI_clamp (by omega)
  have w2 : (nI (4 * i + 2)).toNatClampNeg = 4 * i + 2 := nI_clamp (by omega)
  have w3 : (nI (4 * i + 3)).toNatClampNeg = 4 * i + 3 := nI_clamp (by omega)
  have c1 : c ≤ 601024 := by omega
  have s1 : s ≤ 7293034 := by omega
  have t8 : ∃ t, mS μ x = some (.inl (7, t)) := tX8 hI.1.1.1
  simp only [eL_law_634, eL_law_635, eL_law_636, eL_law_638, eL_law_639, eL_law_640, eL_law_641, eL_law_642, eL_law_644, eL_law_645, eL_law_646, eL_law_647, eL_law_648, hsc, qIld_s, ix1, ix2, ix3, v1, v2, v3, w1, w2, w3, c1, s1, t8, hc, hs, Nat.add_zero, List.length_nil, List.length_cons, ll0, ll1, ll2, ll3, ll4, Nat.le_refl, Nat.zero_le, eq_self, not_true_eq_false, not_false_eq_true, true_imp_iff, false_imp_iff, true_and, and_true, Classical.not_not]
  refine ⟨⟨⟨H, m, hI.1⟩, hI.2.2.2⟩, fun r μ1 q => ?_⟩
  obtain ⟨n1, ⟨hM, hr, -⟩, n3, n4⟩ := hl_next (A := (fun m => sentA m (xs (4 * i + 1)) (xs (4 * i + 2)))) hH hI q (bad_sent m (xs (4 * i + 1)) (xs (4 * i + 2)))
  have t9 : ∃ t, mS μ1 (x + 1492) = some (.inl (8, t)) := tX9 hM.1
  simp only [eL_law_651, eL_law_653, eL_law_654, eL_law_655, eL_law_657, eL_law_658, eL_law_659, eL_law_660, eL_law_661, eL_law_663, eL_law_664, eL_law_665, eL_law_666, t9, hsc, qIld_s, ix1, ix2, ix3, v1, v2, v3, w1, w2, w3, c1, s1, t8, hc, hs, Nat.add_zero, List.length_nil, List.length_cons, ll0, ll1, ll2, ll3, ll4, Nat.le_refl, Nat.zero_le, eq_self, not_true_eq_false, not_false_eq_true, true_imp_iff, false_imp_iff, true_and, and_true, Classical.not_not]
  refine ⟨⟨hM, by rw [hr]; exact MOK_of hI.1⟩, fun r2 μ2 q2 => ?_⟩
  obtain ⟨e1, e2⟩ := q2
  rw [hr] at e1 e2
  have hM2 : MoS μ2 (x + 1492) := by rw [e2]; exact hM
  have hL2 : LaP μ2 (x + 1498) := by rw [e2]; exact n3.2.2.2
  have t92 : ∃ t, mS μ2 (x + 1492) = some (.inl (8, t)) := tX9 hM2.1
  simp only [eL_law_669, eL_law_671, eL_law_672, t92, hsc, qIld_s, ix1, ix2, ix3, v1, v2, v3, w1, w2, w3, c1, s1, t8, hc, hs, Nat.add_zero, List.length_nil, List.length_cons, ll0, ll1, ll2, ll3, ll4, Nat.le_refl, Nat.zero_le, eq_self, not_true_eq_false, not_false_eq_true, true_imp_iff, false_imp_iff, true_and, and_true, Classical.not_not]
  refine ⟨hM2, fun r3 μ3 q3 => ?_⟩
  obtain ⟨e3, e4⟩ := q3
  have e5 : r3 = r := by rw [e3, e2, mI_mm0, n1]
  subst e5
  subst e4
  rw [← e2] at n3 n4
  by_cases g : r3 = 0
  · have n5 := n4 (n1.symm.trans g)
    rw [← e1] at n5
    simp only [eL_law_675, eL_law_677, eL_law_680, eL_law_682, eL_law_684, eL_law_687, eL_law_688, eL_law_689, eL_law_690, eL_law_692, eL_law_693, eL_law_694, eL_law_697, eL_law_699, g, qArr_La hL2, vp01, cl_0, n5, lg_cmp_s, hsc, qIld_s, ix1, ix2, ix3, v1, v2, v3, w1, w2, w3, c1, s1, t8, hc, hs, Nat.add_zero, List.length_nil, List.length_cons, ll0, ll1, ll2, ll3, ll4, Nat.le_refl, Nat.zero_le, eq_self, not_true_eq_false, not_false_eq_true, true_imp_iff, false_imp_iff, true_and, and_true, Classical.not_not]
    exact hk _ _ _ _ _ _ _ _ _ _ _ _ _ _ _ _ _ n3 (Nat.le_refl _) (Nat.le_refl _)
  · simp only [eL_law_675, eL_law_677, eL_law_680, eL_law_682, eL_law_684, eL_law_687, eL_law_688, eL_law_689, eL_law_690, eL_law_692, eL_law_693, eL_law_694, eL_law_697, eL_law_699, g, hsc, qIld_s, ix1, ix2, ix3, v1, v2, v3, w1, w2, w3, c1, s1, t8, hc, hs, Nat.add_zero, List.length_nil, List.length_cons, ll0, ll1, ll2, ll3, ll4, Nat.le_refl, Nat.zero_le, eq_self, not_true_eq_false, not_false_eq_true, true_imp_iff, false_imp_iff, true_and, and_true, Classical.not_not]
    exact hk _ _ _ _ _ _ _ _ _ _ _ _ _ _ _ _ _ n3 (Nat.le_refl _) (Nat.le_refl _)
theorem bad_deliver (m : Mod) (p0 : Int32) : ¬ (deliverA m p0).2.f 6 = 0 → badM m (deliverA m p0).2 := by
  unfold deliverA
  repeat' split
  all_goals first | exact fun _ => ⟨_, Or.inl rfl⟩ | exact fun _ => ⟨_, Or.inr rfl⟩ | exact fun h => absurd rfl h
theorem lc_10 {sc : Nat → Option (Nat × (Nat → Int32))} {R : Option Value → qMM → Nat × Nat → Prop} {X : String → qMM → Nat × Nat → Prop} {b L x i H c s : Nat} {xs : Nat → Int32} {m : Mod} {μ : qMM} {a5 a6 a7 a8 b0 b1 b2 b3 b4 b5 b6 b7 b8 : Option Value} (hsc : sc b = some (L, xs)) (hi : 4 * i + 4 ≤ L) (hL : L ≤ 2048) (hH : H + 4000 < 2 ^ 30) (hI : InvL H μ x m) (hc : c + 1 ≤ 601024) (hs : s + 6 ≤ 7293034) (hk : LcK sc R X b x i H c s) : EX (SL_law sc R X) 702 [some (.ref b), some (.ref x), some (.ref (x + 1492)), some (.ref (x + 1498)), some (.int (nI (4 * i))), a5, a6, a7, a8] [b0, b1, b2, b3, b4, b5, b6, b7, b8] [] μ (c, s) := by
  have v1 : vp_in (nI (4 * i + 1)) L := vp_in_nI (by omega) (by omega)
  have v2 : vp_in (nI (4 * i + 2)) L := vp_in_nI (by omega) (by omega)
  have v3 : vp_in (nI (4 * i + 3)) L := vp_in_nI (by omega) (by omega)
  have w1 : (nI (4 * i + 1)).toNatClampNeg = 4 * i + 1 := nI_clamp (by omega)
  have w2 : (nI (4 * i + 2)).toNatClampNeg = 4 * i + 2 := nI_clamp (by omega)
  have w3 : (nI (4 * i + 3)).toNatClampNeg = 4 * i + 3 := nI_clamp (by omega)
  have c1 : c ≤ 601024 := by omega
  have s1 : s ≤ 7293034 := by omega
  have t8 : ∃ t, mS μ x = some (.inl (7, t)) := tX8 hI.1.1.1
  simp only [eL_law_702, eL_law_703, eL_law_704, eL_law_706, eL_law_707, eL_law_708, eL_law_709, eL_law_710, hsc, qIld_s, ix1, ix2, ix3, v1, v2, v3, w1, w2, w3, c1, s1, t8, hc, hs, Nat.add_zero, List.length_nil, List.length_cons, ll0, ll1, ll2, ll3, ll4, Nat.le_refl, Nat.zero_le, eq_self, not_true_eq_false, not_false_eq_true, true_imp_iff, false_imp_iff, true_and, and_true, Classical.not_not]
  refine ⟨⟨⟨H, m, hI.1⟩, hI.2.2.2⟩, fun r μ1 q => ?_⟩
  obtain ⟨n1, ⟨hM, hr, -⟩, n3, n4⟩ := hl_next (A := (fun m => deliverA m (xs (4 * i + 1)))) hH hI q (bad_deliver m (xs (4 * i + 1)))
  have t9 : ∃ t, mS μ1 (x + 1492) = some (.inl (8, t)) := tX9 hM.1
  simp only [eL_law_713, eL_law_715, eL_law_716, eL_law_717, eL_law_719, eL_law_720, eL_law_721, eL_law_722, t9, hsc, qIld_s, ix1, ix2, ix3, v1, v2, v3, w1, w2, w3, c1, s1, t8, hc, hs, Nat.add_zero, List.length_nil, List.length_cons, ll0, ll1, ll2, ll3, ll4, Nat.le_refl, Nat.zero_le, eq_self, not_true_eq_false, not_false_eq_true, true_imp_iff, false_imp_iff, true_and, and_true, Classical.not_not]
  refine ⟨⟨hM, by rw [hr]; exact MOK_of hI.1⟩, fun r2 μ2 q2 => ?_⟩
  obtain ⟨e1, e2⟩ := q2
  rw [hr] at e1 e2
  have hM2 : MoS μ2 (x + 1492) := by rw [e2]; exact hM
  have hL2 : LaP μ2 (x + 1498) := by rw [e2]; exact n3.2.2.2
  have t92 : ∃ t, mS μ2 (x + 1492) = some (.inl (8, t)) := tX9 hM2.1
  simp only [eL_law_725, eL_law_727, eL_law_728, t92, hsc, qIld_s, ix1, ix2, ix3, v1, v2, v3, w1, w2, w3, c1, s1, t8, hc, hs, Nat.add_zero, List.length_nil, List.length_cons, ll0, ll1, ll2, ll3, ll4, Nat.le_refl, Nat.zero_le, eq_self, not_true_eq_false, not_false_eq_true, true_imp_iff, false_imp_iff, true_and, and_true, Classical.not_not]
  refine ⟨hM2, fun r3 μ3 q3 => ?_⟩
  obtain ⟨e3, e4⟩ := q3
  have e5 : r3 = r := by rw [e3, e2, mI_mm0, n1]
  subst e5
  subst e4
  rw [← e2] at n3 n4
  by_cases g : r3 = 0
  · have n5 := n4 (n1.symm.trans g)
    rw [← e1] at n5
    simp only [eL_law_731, eL_law_733, eL_law_736, eL_law_738, eL_law_740, eL_law_743, eL_law_744, eL_law_745, eL_law_746, eL_law_748, eL_law_749, eL_law_750, eL_law_753, eL_law_755, g, qArr_La hL2, vp01, cl_0, n5, lg_cmp_s, hsc, qIld_s, ix1, ix2, ix3, v1, v2, v3, w1, w2, w3, c1, s1, t8, hc, hs, Nat.add_zero, List.length_nil, List.length_cons, ll0, ll1, ll2, ll3, ll4, Nat.le_refl, Nat.zero_le, eq_self, not_true_eq_false, not_false_eq_true, true_imp_iff, false_imp_iff, true_and, and_true, Classical.not_not]
    exact hk _ _ _ _ _ _ _ _ _ _ _ _ _ _ _ _ _ n3 (Nat.le_refl _) (Nat.le_refl _)
  · simp only [eL_law_731, eL_law_733, eL_law_736, eL_law_738, eL_law_740, eL_law_743, eL_law_744, eL_law_745, eL_law_746, eL_law_748, eL_law_749, eL_law_750, eL_law_753, eL_law_755, g, hsc, qIld_s, ix1, ix2, ix3, v1, v2, v3, w1, w2, w3, c1, s1, t8, hc, hs, Nat.add_zero, List.length_nil, List.length_cons, ll0, ll1, ll2, ll3, ll4, Nat.le_refl, Nat.zero_le, eq_self, not_true_eq_false, not_false_eq_true, true_imp_iff, false_imp_iff, true_and, and_true, Classical.not_not]
    exact hk _ _ _ _ _ _ _ _ _ _ _ _ _ _ _ _ _ n3 (Nat.le_refl _) (Nat.le_refl _)
theorem lc_11 {sc : Nat → Option (Nat × (Nat → Int32))} {R : Option Value → qMM → Nat × Nat → Prop} {X : String → qMM → Nat × Nat → Prop} {b L x i H c s : Nat} {xs : Nat → Int32} {m : Mod} {μ : qMM} {a5 a6 a7 a8 b0 b1 b2 b3 b4 b5 b6 b7 b8 : Option Value} (hsc : sc b = some (L, xs)) (hi : 4 * i + 4 ≤ L) (hL : L ≤ 2048) (hH : H + 4000 < 2 ^ 30) (hI : InvL H μ x m) (hc : c + 1 ≤ 601024) (hs : s + 6 ≤ 7293034) (hk : LcK sc R X b x i H c s) : EX (SL_law sc R X) 758 [some (.ref b), some (.ref x), some (.ref (x + 1492)), some (.ref (x + 1498)), some (.int (nI (4 * i))), a5, a6, a7, a8] [b0, b1, b2, b3, b4, b5, b6, b7, b8] [] μ (c, s) := by
  have v1 : vp_in (nI (4 * i + 1)) L := vp_in_nI (by omega) (by omega)
  have v2 : vp_in (nI (4 * i + 2)) L := vp_in_nI (by omega) (by omega)
  have v3 : vp_in (nI (4 * i + 3)) L := vp_in_nI (by omega) (by omega)
  have w1 : (nI (4 * i + 1)).toNatClampNeg = 4 * i + 1 := nI_clamp (by omega)
  have w2 : (nI (4 * i + 2)).toNatClampNeg = 4 * i + 2 := nI_clamp (by omega)
  have w3 : (nI (4 * i + 3)).toNatClampNeg = 4 * i + 3 := nI_clamp (by omega)
  have c1 : c ≤ 601024 := by omega
  have s1 : s ≤ 7293034 := by omega
  have t8 : ∃ t, mS μ x = some (.inl (7, t)) := tX8 hI.1.1.1
  simp only [eL_law_758, eL_law_759, hsc, qIld_s, ix1, ix2, ix3, v1, v2, v3, w1, w2, w3, c1, s1, t8, hc, hs, Nat.add_zero, List.length_nil, List.length_cons, ll0, ll1, ll2, ll3, ll4, Nat.le_refl, Nat.zero_le, eq_self, not_true_eq_false, not_false_eq_true, true_imp_iff, false_imp_iff, true_and, and_true, Classical.not_not]
  refine ⟨⟨H, m, hI.1⟩, fun r μ1 q => ?_⟩
  obtain ⟨n1, qQ⟩ := q H m hI.1
  obtain ⟨hM, hr, -⟩ := Aft_of hI qQ
  have t9 : ∃ t, mS μ1 (x + 1492) = some (.inl (8, t)) := tX9 hM.1
  simp only [eL_law_762, eL_law_763, t9, hsc, qIld_s, ix1, ix2, ix3, v1, v2, v3, w1, w2, w3, c1, s1, t8, hc, hs, Nat.add_zero, List.length_nil, List.length_cons, ll0, ll1, ll2, ll3, ll4, Nat.le_refl, Nat.zero_le, eq_self, not_true_eq_false, not_false_eq_true, true_imp_iff, false_imp_iff, true_and, and_true, Classical.not_not]
  refine ⟨⟨hM, by rw [hr]; exact MOK_of hI.1⟩, fun r2 μ2 q2 => ?_⟩
  obtain ⟨e1, e2⟩ := q2
  rw [hr] at e1 e2
  rw [n1, e1]
  simp only [eL_law_766, eL_law_769, hsc, qIld_s, ix1, ix2, ix3, v1, v2, v3, w1, w2, w3, c1, s1, t8, hc, hs, Nat.add_zero, List.length_nil, List.length_cons, ll0, ll1, ll2, ll3, ll4, Nat.le_refl, Nat.zero_le, eq_self, not_true_eq_false, not_false_eq_true, true_imp_iff, false_imp_iff, true_and, and_true, Classical.not_not]
  rw [e2]
  exact hk _ _ _ _ _ _ _ _ _ _ _ _ _ _ _ _ _ (InvL_next hH hI qQ (Or.inl rfl)) (Nat.le_succ _) (Nat.le_add_right _ _)
theorem bad_lose (m : Mod) (kk : Nat) (p0 : Int32) : ¬ (loseA m kk p0).2.f 6 = 0 → badM m (loseA m kk p0).2 := by
  unfold loseA
  repeat' split
  all_goals first | exact fun _ => ⟨_, Or.inl rfl⟩ | exact fun _ => ⟨_, Or.inr rfl⟩ | exact fun h => absurd rfl h
theorem lc_12 {sc : Nat → Option (Nat × (Nat → Int32))} {R : Option Value → qMM → Nat × Nat → Prop} {X : String → qMM → Nat × Nat → Prop} {b L x i H c s : Nat} {xs : Nat → Int32} {m : Mod} {μ : qMM} {a5 a6 a7 a8 b0 b1 b2 b3 b4 b5 b6 b7 b8 : Option Value} (hsc : sc b = some (L, xs)) (hi : 4 * i + 4 ≤ L) (hL : L ≤ 2048) (hH : H + 4000 < 2 ^ 30) (hI : InvL H μ x m) (hc : c + 1 ≤ 601024) (hs : s + 6 ≤ 7293034) (hk : LcK sc R X b x i H c s) : EX (SL_law sc R X) 771 [some (.ref b), some (.ref x), some (.ref (x + 1492)), some (.ref (x + 1498)), some (.int (nI (4 * i))), a5, a6, a7, a8] [b0, b1, b2, b3, b4, b5, b6, b7, b8] [] μ (c, s) := by
  have v1 : vp_in (nI (4 * i + 1)) L := vp_in_nI (by omega) (by omega)
  have v2 : vp_in (nI (4 * i + 2)) L := vp_in_nI (by omega) (by omega)
  have v3 : vp_in (nI (4 * i + 3)) L := vp_in_nI (by omega) (by omega)
  have w1 : (nI (4 * i + 1)).toNatClampNeg = 4 * i + 1 := nI_clamp (by omega)
  have w2 : (nI (4 * i + 2)).toNatClampNeg = 4 * i + 2 := nI_clamp (by omega)
  have w3 : (nI (4 * i + 3)).toNatClampNeg = 4 * i + 3 := nI_clamp (by omega)
  have c1 : c ≤ 601024 := by omega
  have s1 : s ≤ 7293034 := by omega
  have t8 : ∃ t, mS μ x = some (.inl (7, t)) := tX8 hI.1.1.1
  simp only [eL_law_771, eL_law_772, eL_law_773, eL_law_775, eL_law_776, eL_law_777, eL_law_778, eL_law_779, hsc, qIld_s, ix1, ix2, ix3, v1, v2, v3, w1, w2, w3, c1, s1, t8, hc, hs, Nat.add_zero, List.length_nil, List.length_cons, ll0, ll1, ll2, ll3, ll4, Nat.le_refl, Nat.zero_le, eq_self, not_true_eq_false, not_false_eq_true, true_imp_iff, false_imp_iff, true_and, and_true, Classical.not_not]
  refine ⟨⟨⟨H, m, hI.1⟩, hI.2.2.2⟩, fun r μ1 q => ?_⟩
  obtain ⟨n1, ⟨hM, hr, -⟩, n3, n4⟩ := hl_next (A := (fun m => loseA m 10 (xs (4 * i + 1)))) hH hI q (bad_lose m 10 (xs (4 * i + 1)))
  have t9 : ∃ t, mS μ1 (x + 1492) = some (.inl (8, t)) := tX9 hM.1
  simp only [eL_law_782, eL_law_784, eL_law_785, eL_law_786, eL_law_788, eL_law_789, eL_law_790, eL_law_791, t9, hsc, qIld_s, ix1, ix2, ix3, v1, v2, v3, w1, w2, w3, c1, s1, t8, hc, hs, Nat.add_zero, List.length_nil, List.length_cons, ll0, ll1, ll2, ll3, ll4, Nat.le_refl, Nat.zero_le, eq_self, not_true_eq_false, not_false_eq_true, true_imp_iff, false_imp_iff, true_and, and_true, Classical.not_not]
  refine ⟨⟨hM, by rw [hr]; exact MOK_of hI.1⟩, fun r2 μ2 q2 => ?_⟩
  obtain ⟨e1, e2⟩ := q2
  rw [hr] at e1 e2
  have hM2 : MoS μ2 (x + 1492) := by rw [e2]; exact hM
  have hL2 : LaP μ2 (x + 1498) := by rw [e2]; exact n3.2.2.2
  have t92 : ∃ t, mS μ2 (x + 1492) = some (.inl (8, t)) := tX9 hM2.1
  simp only [eL_law_794, eL_law_796, eL_law_797, t92, hsc, qIld_s, ix1, ix2, ix3, v1, v2, v3, w1, w2, w3, c1, s1, t8, hc, hs, Nat.add_zero, List.length_nil, List.length_cons, ll0, ll1, ll2, ll3, ll4, Nat.le_refl, Nat.zero_le, eq_self, not_true_eq_false, not_false_eq_true, true_imp_iff, false_imp_iff, true_and, and_true, Classical.not_not]
  refine ⟨hM2, fun r3 μ3 q3 => ?_⟩
  obtain ⟨e3, e4⟩ := q3
  have e5 : r3 = r := by rw [e3, e2, mI_mm0, n1]
  subst e5
  subst e4
  rw [← e2] at n3 n4
  by_cases g : r3 = 0
  · have n5 := n4 (n1.symm.trans g)
    rw [← e1] at n5
    simp only [eL_law_800, eL_law_802, eL_law_805, eL_law_807, eL_law_809, eL_law_812, eL_law_813, eL_law_814, eL_law_815, eL_law_817, eL_law_818, eL_law_819, eL_law_822, eL_law_824, g, qArr_La hL2, vp01, cl_0, n5, lg_cmp_s, hsc, qIld_s, ix1, ix2, ix3, v1, v2, v3, w1, w2, w3, c1, s1, t8, hc, hs, Nat.add_zero, List.length_nil, List.length_cons, ll0, ll1, ll2, ll3, ll4, Nat.le_refl, Nat.zero_le, eq_self, not_true_eq_false, not_false_eq_true, true_imp_iff, false_imp_iff, true_and, and_true, Classical.not_not]
    exact hk _ _ _ _ _ _ _ _ _ _ _ _ _ _ _ _ _ n3 (Nat.le_refl _) (Nat.le_refl _)
  · simp only [eL_law_800, eL_law_802, eL_law_805, eL_law_807, eL_law_809, eL_law_812, eL_law_813, eL_law_814, eL_law_815, eL_law_817, eL_law_818, eL_law_819, eL_law_822, eL_law_824, g, hsc, qIld_s, ix1, ix2, ix3, v1, v2, v3, w1, w2, w3, c1, s1, t8, hc, hs, Nat.add_zero, List.length_nil, List.length_cons, ll0, ll1, ll2, ll3, ll4, Nat.le_refl, Nat.zero_le, eq_self, not_true_eq_false, not_false_eq_true, true_imp_iff, false_imp_iff, true_and, and_true, Classical.not_not]
    exact hk _ _ _ _ _ _ _ _ _ _ _ _ _ _ _ _ _ n3 (Nat.le_refl _) (Nat.le_refl _)
theorem bad_copy (m : Mod) (p0 : Int32) : ¬ (copyA m p0).2.f 6 = 0 → badM m (copyA m p0).2 := by
  unfold copyA
  repeat' split
  all_goals first | exact fun _ => ⟨_, Or.inl rfl⟩ | exact fun _ => ⟨_, Or.inr rfl⟩ | exact fun h => absurd rfl h
theorem lc_13 {sc : Nat → Option (Nat × (Nat → Int32))} {R : Option Value → qMM → Nat × Nat → Prop} {X : String → qMM → Nat × Nat → Prop} {b L x i H c s : Nat} {xs : Nat → Int32} {m : Mod} {μ : qMM} {a5 a6 a7 a8 b0 b1 b2 b3 b4 b5 b6 b7 b8 : Option Value} (hsc : sc b = some (L, xs)) (hi : 4 * i + 4 ≤ L) (hL : L ≤ 2048) (hH : H + 4000 < 2 ^ 30) (hI : InvL H μ x m) (hc : c + 1 ≤ 601024) (hs : s + 6 ≤ 7293034) (hk : LcK sc R X b x i H c s) : EX (SL_law sc R X) 827 [some (.ref b), some (.ref x), some (.ref (x + 1492)), some (.ref (x + 1498)), some (.int (nI (4 * i))), a5, a6, a7, a8] [b0, b1, b2, b3, b4, b5, b6, b7, b8] [] μ (c, s) := by
  have v1 : vp_in (nI (4 * i + 1)) L := vp_in_nI (by omega) (by omega)
  have v2 : vp_in (nI (4 * i + 2)) L := vp_in_nI (by omega) (by omega)
  have v3 : vp_in (nI (4 * i + 3)) L := vp_in_nI (by omega) (by omega)
  have w1 : (nI (4 * i + 1)).toNatClampNeg = 4 * i + 1 := nI_clamp (by omega)
  have w2 : (nI (4 * i + 2)).toNatClampNeg = 4 * i + 2 := nI_clamp (by omega)
  have w3 : (nI (4 * i + 3)).toNatClampNeg = 4 * i + 3 := nI_clamp (by omega)
  have c1 : c ≤ 601024 := by omega
  have s1 : s ≤ 7293034 := by omega
  have t8 : ∃ t, mS μ x = some (.inl (7, t)) := tX8 hI.1.1.1
  simp only [eL_law_827, eL_law_828, eL_law_829, eL_law_831, eL_law_832, eL_law_833, eL_law_834, eL_law_835, hsc, qIld_s, ix1, ix2, ix3, v1, v2, v3, w1, w2, w3, c1, s1, t8, hc, hs, Nat.add_zero, List.length_nil, List.length_cons, ll0, ll1, ll2, ll3, ll4, Nat.le_refl, Nat.zero_le, eq_self, not_true_eq_false, not_false_eq_true, true_imp_iff, false_imp_iff, true_and, and_true, Classical.not_not]
  refine ⟨⟨⟨H, m, hI.1⟩, hI.2.2.2⟩, fun r μ1 q => ?_⟩
  obtain ⟨n1, ⟨hM, hr, -⟩, n3, n4⟩ := hl_next (A := (fun m => copyA m (xs (4 * i + 1)))) hH hI q (bad_copy m (xs (4 * i + 1)))
  have t9 : ∃ t, mS μ1 (x + 1492) = some (.inl (8, t)) := tX9 hM.1
  simp only [eL_law_838, eL_law_840, eL_law_841, eL_law_842, eL_law_844, eL_law_845, eL_law_846, eL_law_847, t9, hsc, qIld_s, ix1, ix2, ix3, v1, v2, v3, w1, w2, w3, c1, s1, t8, hc, hs, Nat.add_zero, List.length_nil, List.length_cons, ll0, ll1, ll2, ll3, ll4, Nat.le_refl, Nat.zero_le, eq_self, not_true_eq_false, not_false_eq_true, true_imp_iff, false_imp_iff, true_and, and_true, Classical.not_not]
  refine ⟨⟨hM, by rw [hr]; exact MOK_of hI.1⟩, fun r2 μ2 q2 => ?_⟩
  obtain ⟨e1, e2⟩ := q2
  rw [hr] at e1 e2
  have hM2 : MoS μ2 (x + 1492) := by rw [e2]; exact hM
  have hL2 : LaP μ2 (x + 1498) := by rw [e2]; exact n3.2.2.2
  have t92 : ∃ t, mS μ2 (x + 1492) = some (.inl (8, t)) := tX9 hM2.1
  simp only [eL_law_850, eL_law_852, eL_law_853, t92, hsc, qIld_s, ix1, ix2, ix3, v1, v2, v3, w1, w2, w3, c1, s1, t8, hc, hs, Nat.add_zero, List.length_nil, List.length_cons, ll0, ll1, ll2, ll3, ll4, Nat.le_refl, Nat.zero_le, eq_self, not_true_eq_false, not_false_eq_true, true_imp_iff, false_imp_iff, true_and, and_true, Classical.not_not]
  refine ⟨hM2, fun r3 μ3 q3 => ?_⟩
  obtain ⟨e3, e4⟩ := q3
  have e5 : r3 = r := by rw [e3, e2, mI_mm0, n1]
  subst e5
  subst e4
  rw [← e2] at n3 n4
  by_cases g : r3 = 0
  · have n5 := n4 (n1.symm.trans g)
    rw [← e1] at n5
    simp only [eL_law_856, eL_law_858, eL_law_861, eL_law_863, eL_law_865, eL_law_868, eL_law_869, eL_law_870, eL_law_871, eL_law_873, eL_law_874, eL_law_875, eL_law_878, eL_law_880, g, qArr_La hL2, vp01, cl_0, n5, lg_cmp_s, hsc, qIld_s, ix1, ix2, ix3, v1, v2, v3, w1, w2, w3, c1, s1, t8, hc, hs, Nat.add_zero, List.length_nil, List.length_cons, ll0, ll1, ll2, ll3, ll4, Nat.le_refl, Nat.zero_le, eq_self, not_true_eq_false, not_false_eq_true, true_imp_iff, false_imp_iff, true_and, and_true, Classical.not_not]
    exact hk _ _ _ _ _ _ _ _ _ _ _ _ _ _ _ _ _ n3 (Nat.le_refl _) (Nat.le_refl _)
  · simp only [eL_law_856, eL_law_858, eL_law_861, eL_law_863, eL_law_865, eL_law_868, eL_law_869, eL_law_870, eL_law_871, eL_law_873, eL_law_874, eL_law_875, eL_law_878, eL_law_880, g, hsc, qIld_s, ix1, ix2, ix3, v1, v2, v3, w1, w2, w3, c1, s1, t8, hc, hs, Nat.add_zero, List.length_nil, List.length_cons, ll0, ll1, ll2, ll3, ll4, Nat.le_refl, Nat.zero_le, eq_self, not_true_eq_false, not_false_eq_true, true_imp_iff, false_imp_iff, true_and, and_true, Classical.not_not]
    exact hk _ _ _ _ _ _ _ _ _ _ _ _ _ _ _ _ _ n3 (Nat.le_refl _) (Nat.le_refl _)
theorem bad_deliverBack (m : Mod) (p0 : Int32) : ¬ (deliverBackA m p0).2.f 6 = 0 → badM m (deliverBackA m p0).2 := by
  unfold deliverBackA
  repeat' split
  all_goals first | exact fun _ => ⟨_, Or.inl rfl⟩ | exact fun _ => ⟨_, Or.inr rfl⟩ | exact fun h => absurd rfl h
theorem lc_14 {sc : Nat → Option (Nat × (Nat → Int32))} {R : Option Value → qMM → Nat × Nat → Prop} {X : String → qMM → Nat × Nat → Prop} {b L x i H c s : Nat} {xs : Nat → Int32} {m : Mod} {μ : qMM} {a5 a6 a7 a8 b0 b1 b2 b3 b4 b5 b6 b7 b8 : Option Value} (hsc : sc b = some (L, xs)) (hi : 4 * i + 4 ≤ L) (hL : L ≤ 2048) (hH : H + 4000 < 2 ^ 30) (hI : InvL H μ x m) (hc : c + 1 ≤ 601024) (hs : s + 6 ≤ 7293034) (hk : LcK sc R X b x i H c s) : EX (SL_law sc R X) 883 [some (.ref b), some (.ref x), some (.ref (x + 1492)), some (.ref (x + 1498)), some (.int (nI (4 * i))), a5, a6, a7, a8] [b0, b1, b2, b3, b4, b5, b6, b7, b8] [] μ (c, s) := by
  have v1 : vp_in (nI (4 * i + 1)) L := vp_in_nI (by omega) (by omega)
  have v2 : vp_in (nI (4 * i + 2)) L := vp_in_nI (by omega) (by omega)
  have v3 : vp_in (nI (4 * i + 3)) L := vp_in_nI (by omega) (by omega)
  have w1 : (nI (4 * i + 1)).toNatClampNeg = 4 * i + 1 := nI_clamp (by omega)
  have w2 : (nI (4 * i + 2)).toNatClampNeg = 4 * i + 2 := nI_clamp (by omega)
  have w3 : (nI (4 * i + 3)).toNatClampNeg = 4 * i + 3 := nI_clamp (by omega)
  have c1 : c ≤ 601024 := by omega
  have s1 : s ≤ 7293034 := by omega
  have t8 : ∃ t, mS μ x = some (.inl (7, t)) := tX8 hI.1.1.1
  simp only [eL_law_883, eL_law_884, eL_law_885, eL_law_887, eL_law_888, eL_law_889, eL_law_890, eL_law_891, hsc, qIld_s, ix1, ix2, ix3, v1, v2, v3, w1, w2, w3, c1, s1, t8, hc, hs, Nat.add_zero, List.length_nil, List.length_cons, ll0, ll1, ll2, ll3, ll4, Nat.le_refl, Nat.zero_le, eq_self, not_true_eq_false, not_false_eq_true, true_imp_iff, false_imp_iff, true_and, and_true, Classical.not_not]
  refine ⟨⟨⟨H, m, hI.1⟩, hI.2.2.2⟩, fun r μ1 q => ?_⟩
  obtain ⟨n1, ⟨hM, hr, -⟩, n3, n4⟩ := hl_next (A := (fun m => deliverBackA m (xs (4 * i + 1)))) hH hI q (bad_deliverBack m (xs (4 * i + 1)))
  have t9 : ∃ t, mS μ1 (x + 1492) = some (.inl (8, t)) := tX9 hM.1
  simp only [eL_law_894, eL_law_896, eL_law_897, eL_law_898, eL_law_900, eL_law_901, eL_law_902, eL_law_903, t9, hsc, qIld_s, ix1, ix2, ix3, v1, v2, v3, w1, w2, w3, c1, s1, t8, hc, hs, Nat.add_zero, List.length_nil, List.length_cons, ll0, ll1, ll2, ll3, ll4, Nat.le_refl, Nat.zero_le, eq_self, not_true_eq_false, not_false_eq_true, true_imp_iff, false_imp_iff, true_and, and_true, Classical.not_not]
  refine ⟨⟨hM, by rw [hr]; exact MOK_of hI.1⟩, fun r2 μ2 q2 => ?_⟩
  obtain ⟨e1, e2⟩ := q2
  rw [hr] at e1 e2
  have hM2 : MoS μ2 (x + 1492) := by rw [e2]; exact hM
  have hL2 : LaP μ2 (x + 1498) := by rw [e2]; exact n3.2.2.2
  have t92 : ∃ t, mS μ2 (x + 1492) = some (.inl (8, t)) := tX9 hM2.1
  simp only [eL_law_906, eL_law_908, eL_law_909, t92, hsc, qIld_s, ix1, ix2, ix3, v1, v2, v3, w1, w2, w3, c1, s1, t8, hc, hs, Nat.add_zero, List.length_nil, List.length_cons, ll0, ll1, ll2, ll3, ll4, Nat.le_refl, Nat.zero_le, eq_self, not_true_eq_false, not_false_eq_true, true_imp_iff, false_imp_iff, true_and, and_true, Classical.not_not]
  refine ⟨hM2, fun r3 μ3 q3 => ?_⟩
  obtain ⟨e3, e4⟩ := q3
  have e5 : r3 = r := by rw [e3, e2, mI_mm0, n1]
  subst e5
  subst e4
  rw [← e2] at n3 n4
  by_cases g : r3 = 0
  · have n5 := n4 (n1.symm.trans g)
    rw [← e1] at n5
    simp only [eL_law_912, eL_law_914, eL_law_917, eL_law_919, eL_law_921, eL_law_924, eL_law_925, eL_law_926, eL_law_927, eL_law_929, eL_law_930, eL_law_931, eL_law_934, eL_law_936, g, qArr_La hL2, vp01, cl_0, n5, lg_cmp_s, hsc, qIld_s, ix1, ix2, ix3, v1, v2, v3, w1, w2, w3, c1, s1, t8, hc, hs, Nat.add_zero, List.length_nil, List.length_cons, ll0, ll1, ll2, ll3, ll4, Nat.le_refl, Nat.zero_le, eq_self, not_true_eq_false, not_false_eq_true, true_imp_iff, false_imp_iff, true_and, and_true, Classical.not_not]
    exact hk _ _ _ _ _ _ _ _ _ _ _ _ _ _ _ _ _ n3 (Nat.le_refl _) (Nat.le_refl _)
  · simp only [eL_law_912, eL_law_914, eL_law_917, eL_law_919, eL_law_921, eL_law_924, eL_law_925, eL_law_926, eL_law_927, eL_law_929, eL_law_930, eL_law_931, eL_law_934, eL_law_936, g, hsc, qIld_s, ix1, ix2, ix3, v1, v2, v3, w1, w2, w3, c1, s1, t8, hc, hs, Nat.add_zero, List.length_nil, List.length_cons, ll0, ll1, ll2, ll3, ll4, Nat.le_refl, Nat.zero_le, eq_self, not_true_eq_false, not_false_eq_true, true_imp_iff, false_imp_iff, true_and, and_true, Classical.not_not]
    exact hk _ _ _ _ _ _ _ _ _ _ _ _ _ _ _ _ _ n3 (Nat.le_refl _) (Nat.le_refl _)
theorem lc_15 {sc : Nat → Option (Nat × (Nat → Int32))} {R : Option Value → qMM → Nat × Nat → Prop} {X : String → qMM → Nat × Nat → Prop} {b L x i H c s : Nat} {xs : Nat → Int32} {m : Mod} {μ : qMM} {a5 a6 a7 a8 b0 b1 b2 b3 b4 b5 b6 b7 b8 : Option Value} (hsc : sc b = some (L, xs)) (hi : 4 * i + 4 ≤ L) (hL : L ≤ 2048) (hH : H + 4000 < 2 ^ 30) (hI : InvL H μ x m) (hc : c + 1 ≤ 601024) (hs : s + 6 ≤ 7293034) (hk : LcK sc R X b x i H c s) : EX (SL_law sc R X) 939 [some (.ref b), some (.ref x), some (.ref (x + 1492)), some (.ref (x + 1498)), some (.int (nI (4 * i))), a5, a6, a7, a8] [b0, b1, b2, b3, b4, b5, b6, b7, b8] [] μ (c, s) := by
  have v1 : vp_in (nI (4 * i + 1)) L := vp_in_nI (by omega) (by omega)
  have v2 : vp_in (nI (4 * i + 2)) L := vp_in_nI (by omega) (by omega)
  have v3 : vp_in (nI (4 * i + 3)) L := vp_in_nI (by omega) (by omega)
  have w1 : (nI (4 * i + 1)).toNatClampNeg = 4 * i + 1 := nI_clamp (by omega)
  have w2 : (nI (4 * i + 2)).toNatClampNeg = 4 * i + 2 := nI_clamp (by omega)
  have w3 : (nI (4 * i + 3)).toNatClampNeg = 4 * i + 3 := nI_clamp (by omega)
  have c1 : c ≤ 601024 := by omega
  have s1 : s ≤ 7293034 := by omega
  have t8 : ∃ t, mS μ x = some (.inl (7, t)) := tX8 hI.1.1.1
  simp only [eL_law_939, eL_law_940, eL_law_941, eL_law_943, eL_law_944, eL_law_945, eL_law_946, eL_law_947, hsc, qIld_s, ix1, ix2, ix3, v1, v2, v3, w1, w2, w3, c1, s1, t8, hc, hs, Nat.add_zero, List.length_nil, List.length_cons, ll0, ll1, ll2, ll3, ll4, Nat.le_refl, Nat.zero_le, eq_self, not_true_eq_false, not_false_eq_true, true_imp_iff, false_imp_iff, true_and, and_true, Classical.not_not]
  refine ⟨⟨⟨H, m, hI.1⟩, hI.2.2.2⟩, fun r μ1 q => ?_⟩
  obtain ⟨n1, ⟨hM, hr, -⟩, n3, n4⟩ := hl_next (A := (fun m => loseA m 31 (xs (4 * i + 1)))) hH hI q (bad_lose m 31 (xs (4 * i + 1)))
  have t9 : ∃ t, mS μ1 (x + 1492) = some (.inl (8, t)) := tX9 hM.1
  simp only [eL_law_950, eL_law_952, eL_law_953, eL_law_954, eL_law_956, eL_law_957, eL_law_958, eL_law_959, t9, hsc, qIld_s, ix1, ix2, ix3, v1, v2, v3, w1, w2, w3, c1, s1, t8, hc, hs, Nat.add_zero, List.length_nil, List.length_cons, ll0, ll1, ll2, ll3, ll4, Nat.le_refl, Nat.zero_le, eq_self, not_true_eq_false, not_false_eq_true, true_imp_iff, false_imp_iff, true_and, and_true, Classical.not_not]
  refine ⟨⟨hM, by rw [hr]; exact MOK_of hI.1⟩, fun r2 μ2 q2 => ?_⟩
  obtain ⟨e1, e2⟩ := q2
  rw [hr] at e1 e2
  have hM2 : MoS μ2 (x + 1492) := by rw [e2]; exact hM
  have hL2 : LaP μ2 (x + 1498) := by rw [e2]; exact n3.2.2.2
  have t92 : ∃ t, mS μ2 (x + 1492) = some (.inl (8, t)) := tX9 hM2.1
  simp only [eL_law_962, eL_law_964, eL_law_965, t92, hsc, qIld_s, ix1, ix2, ix3, v1, v2, v3, w1, w2, w3, c1, s1, t8, hc, hs, Nat.add_zero, List.length_nil, List.length_cons, ll0, ll1, ll2, ll3, ll4, Nat.le_refl, Nat.zero_le, eq_self, not_true_eq_false, not_false_eq_true, true_imp_iff, false_imp_iff, true_and, and_true, Classical.not_not]
  refine ⟨hM2, fun r3 μ3 q3 => ?_⟩
  obtain ⟨e3, e4⟩ := q3
  have e5 : r3 = r := by rw [e3, e2, mI_mm0, n1]
  subst e5
  subst e4
  rw [← e2] at n3 n4
  by_cases g : r3 = 0
  · have n5 := n4 (n1.symm.trans g)
    rw [← e1] at n5
    simp only [eL_law_968, eL_law_970, eL_law_973, eL_law_975, eL_law_977, eL_law_980, eL_law_981, eL_law_982, eL_law_983, eL_law_985, eL_law_986, eL_law_987, eL_law_990, eL_law_992, g, qArr_La hL2, vp01, cl_0, n5, lg_cmp_s, hsc, qIld_s, ix1, ix2, ix3, v1, v2, v3, w1, w2, w3, c1, s1, t8, hc, hs, Nat.add_zero, List.length_nil, List.length_cons, ll0, ll1, ll2, ll3, ll4, Nat.le_refl, Nat.zero_le, eq_self, not_true_eq_false, not_false_eq_true, true_imp_iff, false_imp_iff, true_and, and_true, Classical.not_not]
    exact hk _ _ _ _ _ _ _ _ _ _ _ _ _ _ _ _ _ n3 (Nat.le_refl _) (Nat.le_refl _)
  · simp only [eL_law_968, eL_law_970, eL_law_973, eL_law_975, eL_law_977, eL_law_980, eL_law_981, eL_law_982, eL_law_983, eL_law_985, eL_law_986, eL_law_987, eL_law_990, eL_law_992, g, hsc, qIld_s, ix1, ix2, ix3, v1, v2, v3, w1, w2, w3, c1, s1, t8, hc, hs, Nat.add_zero, List.length_nil, List.length_cons, ll0, ll1, ll2, ll3, ll4, Nat.le_refl, Nat.zero_le, eq_self, not_true_eq_false, not_false_eq_true, true_imp_iff, false_imp_iff, true_and, and_true, Classical.not_not]
    exact hk _ _ _ _ _ _ _ _ _ _ _ _ _ _ _ _ _ n3 (Nat.le_refl _) (Nat.le_refl _)
theorem bad_setReceiver (m : Mod) (p0 p1 p2 : Int32) : ¬ (setReceiverA m p0 p1 p2).2.f 6 = 0 → badM m (setReceiverA m p0 p1 p2).2 := by
  unfold setReceiverA
  repeat' split
  all_goals first | exact fun _ => ⟨_, Or.inl rfl⟩ | exact fun _ => ⟨_, Or.inr rfl⟩ | exact fun h => absurd rfl h
theorem lc_18 {sc : Nat → Option (Nat × (Nat → Int32))} {R : Option Value → qMM → Nat × Nat → Prop} {X : String → qMM → Nat × Nat → Prop} {b L x i H c s : Nat} {xs : Nat → Int32} {m : Mod} {μ : qMM} {a5 a6 a7 a8 b0 b1 b2 b3 b4 b5 b6 b7 b8 : Option Value} (hsc : sc b = some (L, xs)) (hi : 4 * i + 4 ≤ L) (hL : L ≤ 2048) (hH : H + 4000 < 2 ^ 30) (hI : InvL H μ x m) (hc : c + 1 ≤ 601024) (hs : s + 6 ≤ 7293034) (hk : LcK sc R X b x i H c s) : EX (SL_law sc R X) 1120 [some (.ref b), some (.ref x), some (.ref (x + 1492)), some (.ref (x + 1498)), some (.int (nI (4 * i))), a5, a6, a7, a8] [b0, b1, b2, b3, b4, b5, b6, b7, b8] [] μ (c, s) := by
  have v1 : vp_in (nI (4 * i + 1)) L := vp_in_nI (by omega) (by omega)
  have v2 : vp_in (nI (4 * i + 2)) L := vp_in_nI (by omega) (by omega)
  have v3 : vp_in (nI (4 * i + 3)) L := vp_in_nI (by omega) (by omega)
  have w1 : (nI (4 * i + 1)).toNatClampNeg = 4 * i + 1 := nI_clamp (by omega)
  have w2 : (nI (4 * i + 2)).toNatClampNeg = 4 * i + 2 := nI_clamp (by omega)
  have w3 : (nI (4 * i + 3)).toNatClampNeg = 4 * i + 3 := nI_clamp (by omega)
  have c1 : c ≤ 601024 := by omega
  have s1 : s ≤ 7293034 := by omega
  have t8 : ∃ t, mS μ x = some (.inl (7, t)) := tX8 hI.1.1.1
  simp only [eL_law_1120, eL_law_1121, eL_law_1122, eL_law_1124, eL_law_1125, eL_law_1126, eL_law_1127, eL_law_1128, eL_law_1130, eL_law_1131, eL_law_1132, eL_law_1133, eL_law_1134, eL_law_1136, eL_law_1137, eL_law_1138, eL_law_1139, eL_law_1140, hsc, qIld_s, ix1, ix2, ix3, v1, v2, v3, w1, w2, w3, c1, s1, t8, hc, hs, Nat.add_zero, List.length_nil, List.length_cons, ll0, ll1, ll2, ll3, ll4, Nat.le_refl, Nat.zero_le, eq_self, not_true_eq_false, not_false_eq_true, true_imp_iff, false_imp_iff, true_and, and_true, Classical.not_not]
  refine ⟨⟨⟨H, m, hI.1⟩, hI.2.2.2⟩, fun r μ1 q => ?_⟩
  obtain ⟨n1, ⟨hM, hr, -⟩, n3, n4⟩ := hl_next (A := (fun m => setReceiverA m (xs (4 * i + 1)) (xs (4 * i + 2)) (xs (4 * i + 3)))) hH hI q (bad_setReceiver m (xs (4 * i + 1)) (xs (4 * i + 2)) (xs (4 * i + 3)))
  have t9 : ∃ t, mS μ1 (x + 1492) = some (.inl (8, t)) := tX9 hM.1
  simp only [eL_law_1143, eL_law_1145, eL_law_1146, eL_law_1147, eL_law_1149, eL_law_1150, eL_law_1151, eL_law_1152, eL_law_1153, eL_law_1155, eL_law_1156, eL_law_1157, eL_law_1158, eL_law_1159, eL_law_1161, eL_law_1162, eL_law_1163, eL_law_1164, t9, hsc, qIld_s, ix1, ix2, ix3, v1, v2, v3, w1, w2, w3, c1, s1, t8, hc, hs, Nat.add_zero, List.length_nil, List.length_cons, ll0, ll1, ll2, ll3, ll4, Nat.le_refl, Nat.zero_le, eq_self, not_true_eq_false, not_false_eq_true, true_imp_iff, false_imp_iff, true_and, and_true, Classical.not_not]
  refine ⟨⟨hM, by rw [hr]; exact MOK_of hI.1⟩, fun r2 μ2 q2 => ?_⟩
  obtain ⟨e1, e2⟩ := q2
  rw [hr] at e1 e2
  have hM2 : MoS μ2 (x + 1492) := by rw [e2]; exact hM
  have hL2 : LaP μ2 (x + 1498) := by rw [e2]; exact n3.2.2.2
  have t92 : ∃ t, mS μ2 (x + 1492) = some (.inl (8, t)) := tX9 hM2.1
  simp only [eL_law_1167, eL_law_1169, eL_law_1170, t92, hsc, qIld_s, ix1, ix2, ix3, v1, v2, v3, w1, w2, w3, c1, s1, t8, hc, hs, Nat.add_zero, List.length_nil, List.length_cons, ll0, ll1, ll2, ll3, ll4, Nat.le_refl, Nat.zero_le, eq_self, not_true_eq_false, not_false_eq_true, true_imp_iff, false_imp_iff, true_and, and_true, Classical.not_not]
  refine ⟨hM2, fun r3 μ3 q3 => ?_⟩
  obtain ⟨e3, e4⟩ := q3
  have e5 : r3 = r := by rw [e3, e2, mI_mm0, n1]
  subst e5
  subst e4
  rw [← e2] at n3 n4
  by_cases g : r3 = 0
  · have n5 := n4 (n1.symm.trans g)
    rw [← e1] at n5
    simp only [eL_law_1173, eL_law_1175, eL_law_1178, eL_law_1180, eL_law_1182, eL_law_1185, eL_law_1186, eL_law_1187, eL_law_1188, eL_law_1190, eL_law_1191, eL_law_1192, eL_law_1195, eL_law_1197, g, qArr_La hL2, vp01, cl_0, n5, lg_cmp_s, hsc, qIld_s, ix1, ix2, ix3, v1, v2, v3, w1, w2, w3, c1, s1, t8, hc, hs, Nat.add_zero, List.length_nil, List.length_cons, ll0, ll1, ll2, ll3, ll4, Nat.le_refl, Nat.zero_le, eq_self, not_true_eq_false, not_false_eq_true, true_imp_iff, false_imp_iff, true_and, and_true, Classical.not_not]
    exact hk _ _ _ _ _ _ _ _ _ _ _ _ _ _ _ _ _ n3 (Nat.le_refl _) (Nat.le_refl _)
  · simp only [eL_law_1173, eL_law_1175, eL_law_1178, eL_law_1180, eL_law_1182, eL_law_1185, eL_law_1186, eL_law_1187, eL_law_1188, eL_law_1190, eL_law_1191, eL_law_1192, eL_law_1195, eL_law_1197, g, hsc, qIld_s, ix1, ix2, ix3, v1, v2, v3, w1, w2, w3, c1, s1, t8, hc, hs, Nat.add_zero, List.length_nil, List.length_cons, ll0, ll1, ll2, ll3, ll4, Nat.le_refl, Nat.zero_le, eq_self, not_true_eq_false, not_false_eq_true, true_imp_iff, false_imp_iff, true_and, and_true, Classical.not_not]
    exact hk _ _ _ _ _ _ _ _ _ _ _ _ _ _ _ _ _ n3 (Nat.le_refl _) (Nat.le_refl _)
theorem lc_19 {sc : Nat → Option (Nat × (Nat → Int32))} {R : Option Value → qMM → Nat × Nat → Prop} {X : String → qMM → Nat × Nat → Prop} {b L x i H c s : Nat} {xs : Nat → Int32} {m : Mod} {μ : qMM} {a5 a6 a7 a8 b0 b1 b2 b3 b4 b5 b6 b7 b8 : Option Value} (hsc : sc b = some (L, xs)) (hi : 4 * i + 4 ≤ L) (hL : L ≤ 2048) (hH : H + 4000 < 2 ^ 30) (hI : InvL H μ x m) (hc : c + 1 ≤ 601024) (hs : s + 6 ≤ 7293034) (hk : LcK sc R X b x i H c s) : EX (SL_law sc R X) 1200 [some (.ref b), some (.ref x), some (.ref (x + 1492)), some (.ref (x + 1498)), some (.int (nI (4 * i))), a5, a6, a7, a8] [b0, b1, b2, b3, b4, b5, b6, b7, b8] [] μ (c, s) := by
  have v1 : vp_in (nI (4 * i + 1)) L := vp_in_nI (by omega) (by omega)
  have v2 : vp_in (nI (4 * i + 2)) L := vp_in_nI (by omega) (by omega)
  have v3 : vp_in (nI (4 * i + 3)) L := vp_in_nI (by omega) (by omega)
  have w1 : (nI (4 * i + 1)).toNatClampNeg = 4 * i + 1 := nI_clamp (by omega)
  have w2 : (nI (4 * i + 2)).toNatClampNeg = 4 * i + 2 := nI_clamp (by omega)
  have w3 : (nI (4 * i + 3)).toNatClampNeg = 4 * i + 3 := nI_clamp (by omega)
  have c1 : c ≤ 601024 := by omega
  have s1 : s ≤ 7293034 := by omega
  have t8 : ∃ t, mS μ x = some (.inl (7, t)) := tX8 hI.1.1.1
  simp only [eL_law_1200, eL_law_1201, hsc, qIld_s, ix1, ix2, ix3, v1, v2, v3, w1, w2, w3, c1, s1, t8, hc, hs, Nat.add_zero, List.length_nil, List.length_cons, ll0, ll1, ll2, ll3, ll4, Nat.le_refl, Nat.zero_le, eq_self, not_true_eq_false, not_false_eq_true, true_imp_iff, false_imp_iff, true_and, and_true, Classical.not_not]
  refine ⟨⟨H, m, hI.1⟩, fun r μ1 q => ?_⟩
  obtain ⟨n1, qQ⟩ := q H m hI.1
  obtain ⟨hM, hr, -⟩ := Aft_of hI qQ
  have t9 : ∃ t, mS μ1 (x + 1492) = some (.inl (8, t)) := tX9 hM.1
  simp only [eL_law_1204, eL_law_1205, t9, hsc, qIld_s, ix1, ix2, ix3, v1, v2, v3, w1, w2, w3, c1, s1, t8, hc, hs, Nat.add_zero, List.length_nil, List.length_cons, ll0, ll1, ll2, ll3, ll4, Nat.le_refl, Nat.zero_le, eq_self, not_true_eq_false, not_false_eq_true, true_imp_iff, false_imp_iff, true_and, and_true, Classical.not_not]
  refine ⟨⟨hM, by rw [hr]; exact MOK_of hI.1⟩, fun r2 μ2 q2 => ?_⟩
  obtain ⟨e1, e2⟩ := q2
  rw [hr] at e1 e2
  rw [n1, e1]
  simp only [eL_law_1208, eL_law_1211, hsc, qIld_s, ix1, ix2, ix3, v1, v2, v3, w1, w2, w3, c1, s1, t8, hc, hs, Nat.add_zero, List.length_nil, List.length_cons, ll0, ll1, ll2, ll3, ll4, Nat.le_refl, Nat.zero_le, eq_self, not_true_eq_false, not_false_eq_true, true_imp_iff, false_imp_iff, true_and, and_true, Classical.not_not]
  rw [e2]
  exact hk _ _ _ _ _ _ _ _ _ _ _ _ _ _ _ _ _ (InvL_next hH hI qQ (Or.inl rfl)) (Nat.le_succ _) (Nat.le_add_right _ _)
theorem bad_record (m : Mod) (p0 p1 : Int32) : ¬ (recordA m p0 p1).2.f 6 = 0 → badM m (recordA m p0 p1).2 := by
  unfold recordA
  repeat' split
  all_goals first | exact fun _ => ⟨_, Or.inl rfl⟩ | exact fun _ => ⟨_, Or.inr rfl⟩ | exact fun h => absurd rfl h
theorem lc_20 {sc : Nat → Option (Nat × (Nat → Int32))} {R : Option Value → qMM → Nat × Nat → Prop} {X : String → qMM → Nat × Nat → Prop} {b L x i H c s : Nat} {xs : Nat → Int32} {m : Mod} {μ : qMM} {a5 a6 a7 a8 b0 b1 b2 b3 b4 b5 b6 b7 b8 : Option Value} (hsc : sc b = some (L, xs)) (hi : 4 * i + 4 ≤ L) (hL : L ≤ 2048) (hH : H + 4000 < 2 ^ 30) (hI : InvL H μ x m) (hc : c + 1 ≤ 601024) (hs : s + 6 ≤ 7293034) (hk : LcK sc R X b x i H c s) : EX (SL_law sc R X) 1213 [some (.ref b), some (.ref x), some (.ref (x + 1492)), some (.ref (x + 1498)), some (.int (nI (4 * i))), a5, a6, a7, a8] [b0, b1, b2, b3, b4, b5, b6, b7, b8] [] μ (c, s) := by
  have v1 : vp_in (nI (4 * i + 1)) L := vp_in_nI (by omega) (by omega)
  have v2 : vp_in (nI (4 * i + 2)) L := vp_in_nI (by omega) (by omega)
  have v3 : vp_in (nI (4 * i + 3)) L := vp_in_nI (by omega) (by omega)
  have w1 : (nI (4 * i + 1)).toNatClampNeg = 4 * i + 1 := nI_clamp (by omega)
  have w2 : (nI (4 * i + 2)).toNatClampNeg = 4 * i + 2 := nI_clamp (by omega)
  have w3 : (nI (4 * i + 3)).toNatClampNeg = 4 * i + 3 := nI_clamp (by omega)
  have c1 : c ≤ 601024 := by omega
  have s1 : s ≤ 7293034 := by omega
  have t8 : ∃ t, mS μ x = some (.inl (7, t)) := tX8 hI.1.1.1
  simp only [eL_law_1213, eL_law_1214, eL_law_1215, eL_law_1217, eL_law_1218, eL_law_1219, eL_law_1220, eL_law_1221, eL_law_1223, eL_law_1224, eL_law_1225, eL_law_1226, eL_law_1227, hsc, qIld_s, ix1, ix2, ix3, v1, v2, v3, w1, w2, w3, c1, s1, t8, hc, hs, Nat.add_zero, List.length_nil, List.length_cons, ll0, ll1, ll2, ll3, ll4, Nat.le_refl, Nat.zero_le, eq_self, not_true_eq_false, not_false_eq_true, true_imp_iff, false_imp_iff, true_and, and_true, Classical.not_not]
  refine ⟨⟨⟨H, m, hI.1⟩, hI.2.2.2⟩, fun r μ1 q => ?_⟩
  obtain ⟨n1, ⟨hM, hr, -⟩, n3, n4⟩ := hl_next (A := (fun m => recordA m (xs (4 * i + 1)) (xs (4 * i + 2)))) hH hI q (bad_record m (xs (4 * i + 1)) (xs (4 * i + 2)))
  have t9 : ∃ t, mS μ1 (x + 1492) = some (.inl (8, t)) := tX9 hM.1
  simp only [eL_law_1230, eL_law_1232, eL_law_1233, eL_law_1234, eL_law_1236, eL_law_1237, eL_law_1238, eL_law_1239, eL_law_1240, eL_law_1242, eL_law_1243, eL_law_1244, eL_law_1245, t9, hsc, qIld_s, ix1, ix2, ix3, v1, v2, v3, w1, w2, w3, c1, s1, t8, hc, hs, Nat.add_zero, List.length_nil, List.length_cons, ll0, ll1, ll2, ll3, ll4, Nat.le_refl, Nat.zero_le, eq_self, not_true_eq_false, not_false_eq_true, true_imp_iff, false_imp_iff, true_and, and_true, Classical.not_not]
  refine ⟨⟨hM, by rw [hr]; exact MOK_of hI.1⟩, fun r2 μ2 q2 => ?_⟩
  obtain ⟨e1, e2⟩ := q2
  rw [hr] at e1 e2
  have hM2 : MoS μ2 (x + 1492) := by rw [e2]; exact hM
  have hL2 : LaP μ2 (x + 1498) := by rw [e2]; exact n3.2.2.2
  have t92 : ∃ t, mS μ2 (x + 1492) = some (.inl (8, t)) := tX9 hM2.1
  simp only [eL_law_1248, eL_law_1250, eL_law_1251, t92, hsc, qIld_s, ix1, ix2, ix3, v1, v2, v3, w1, w2, w3, c1, s1, t8, hc, hs, Nat.add_zero, List.length_nil, List.length_cons, ll0, ll1, ll2, ll3, ll4, Nat.le_refl, Nat.zero_le, eq_self, not_true_eq_false, not_false_eq_true, true_imp_iff, false_imp_iff, true_and, and_true, Classical.not_not]
  refine ⟨hM2, fun r3 μ3 q3 => ?_⟩
  obtain ⟨e3, e4⟩ := q3
  have e5 : r3 = r := by rw [e3, e2, mI_mm0, n1]
  subst e5
  subst e4
  rw [← e2] at n3 n4
  by_cases g : r3 = 0
  · have n5 := n4 (n1.symm.trans g)
    rw [← e1] at n5
    simp only [eL_law_1254, eL_law_1256, eL_law_1259, eL_law_1261, eL_law_1263, eL_law_1266, eL_law_1267, eL_law_1268, eL_law_1269, eL_law_1271, eL_law_1272, eL_law_1273, eL_law_1276, eL_law_1278, g, qArr_La hL2, vp01, cl_0, n5, lg_cmp_s, hsc, qIld_s, ix1, ix2, ix3, v1, v2, v3, w1, w2, w3, c1, s1, t8, hc, hs, Nat.add_zero, List.length_nil, List.length_cons, ll0, ll1, ll2, ll3, ll4, Nat.le_refl, Nat.zero_le, eq_self, not_true_eq_false, not_false_eq_true, true_imp_iff, false_imp_iff, true_and, and_true, Classical.not_not]
    exact hk _ _ _ _ _ _ _ _ _ _ _ _ _ _ _ _ _ n3 (Nat.le_refl _) (Nat.le_refl _)
  · simp only [eL_law_1254, eL_law_1256, eL_law_1259, eL_law_1261, eL_law_1263, eL_law_1266, eL_law_1267, eL_law_1268, eL_law_1269, eL_law_1271, eL_law_1272, eL_law_1273, eL_law_1276, eL_law_1278, g, hsc, qIld_s, ix1, ix2, ix3, v1, v2, v3, w1, w2, w3, c1, s1, t8, hc, hs, Nat.add_zero, List.length_nil, List.length_cons, ll0, ll1, ll2, ll3, ll4, Nat.le_refl, Nat.zero_le, eq_self, not_true_eq_false, not_false_eq_true, true_imp_iff, false_imp_iff, true_and, and_true, Classical.not_not]
    exact hk _ _ _ _ _ _ _ _ _ _ _ _ _ _ _ _ _ n3 (Nat.le_refl _) (Nat.le_refl _)
theorem lc_21 {sc : Nat → Option (Nat × (Nat → Int32))} {R : Option Value → qMM → Nat × Nat → Prop} {X : String → qMM → Nat × Nat → Prop} {b L x i H c s : Nat} {xs : Nat → Int32} {m : Mod} {μ : qMM} {a5 a6 a7 a8 b0 b1 b2 b3 b4 b5 b6 b7 b8 : Option Value} (hsc : sc b = some (L, xs)) (hi : 4 * i + 4 ≤ L) (hL : L ≤ 2048) (hH : H + 4000 < 2 ^ 30) (hI : InvL H μ x m) (hc : c + 1 ≤ 601024) (hs : s + 6 ≤ 7293034) (hk : LcK sc R X b x i H c s) : EX (SL_law sc R X) 1281 [some (.ref b), some (.ref x), some (.ref (x + 1492)), some (.ref (x + 1498)), some (.int (nI (4 * i))), a5, a6, a7, a8] [b0, b1, b2, b3, b4, b5, b6, b7, b8] [] μ (c, s) := by
  have v1 : vp_in (nI (4 * i + 1)) L := vp_in_nI (by omega) (by omega)
  have v2 : vp_in (nI (4 * i + 2)) L := vp_in_nI (by omega) (by omega)
  have v3 : vp_in (nI (4 * i + 3)) L := vp_in_nI (by omega) (by omega)
  have w1 : (nI (4 * i + 1)).toNatClampNeg = 4 * i + 1 := nI_clamp (by omega)
  have w2 : (nI (4 * i + 2)).toNatClampNeg = 4 * i + 2 := nI_clamp (by omega)
  have w3 : (nI (4 * i + 3)).toNatClampNeg = 4 * i + 3 := nI_clamp (by omega)
  have c1 : c ≤ 601024 := by omega
  have s1 : s ≤ 7293034 := by omega
  have t8 : ∃ t, mS μ x = some (.inl (7, t)) := tX8 hI.1.1.1
  simp only [eL_law_1281, eL_law_1282, hsc, qIld_s, ix1, ix2, ix3, v1, v2, v3, w1, w2, w3, c1, s1, t8, hc, hs, Nat.add_zero, List.length_nil, List.length_cons, ll0, ll1, ll2, ll3, ll4, Nat.le_refl, Nat.zero_le, eq_self, not_true_eq_false, not_false_eq_true, true_imp_iff, false_imp_iff, true_and, and_true, Classical.not_not]
  refine ⟨⟨H, m, hI.1⟩, fun r μ1 q => ?_⟩
  obtain ⟨n1, qQ⟩ := q H m hI.1
  obtain ⟨hM, hr, -⟩ := Aft_of hI qQ
  have t9 : ∃ t, mS μ1 (x + 1492) = some (.inl (8, t)) := tX9 hM.1
  simp only [eL_law_1285, eL_law_1286, t9, hsc, qIld_s, ix1, ix2, ix3, v1, v2, v3, w1, w2, w3, c1, s1, t8, hc, hs, Nat.add_zero, List.length_nil, List.length_cons, ll0, ll1, ll2, ll3, ll4, Nat.le_refl, Nat.zero_le, eq_self, not_true_eq_false, not_false_eq_true, true_imp_iff, false_imp_iff, true_and, and_true, Classical.not_not]
  refine ⟨⟨hM, by rw [hr]; exact MOK_of hI.1⟩, fun r2 μ2 q2 => ?_⟩
  obtain ⟨e1, e2⟩ := q2
  rw [hr] at e1 e2
  rw [n1, e1]
  simp only [eL_law_1289, eL_law_1292, hsc, qIld_s, ix1, ix2, ix3, v1, v2, v3, w1, w2, w3, c1, s1, t8, hc, hs, Nat.add_zero, List.length_nil, List.length_cons, ll0, ll1, ll2, ll3, ll4, Nat.le_refl, Nat.zero_le, eq_self, not_true_eq_false, not_false_eq_true, true_imp_iff, false_imp_iff, true_and, and_true, Classical.not_not]
  rw [e2]
  exact hk _ _ _ _ _ _ _ _ _ _ _ _ _ _ _ _ _ (InvL_next hH hI qQ (Or.inl rfl)) (Nat.le_succ _) (Nat.le_add_right _ _)
theorem bad_numberFor (m : Mod) (p0 : Int32) : ¬ (numberForA m p0).2.f 6 = 0 → badM m (numberForA m p0).2 := by
  unfold numberForA
  repeat' split
  all_goals first | exact fun _ => ⟨_, Or.inl rfl⟩ | exact fun _ => ⟨_, Or.inr rfl⟩ | exact fun h => absurd rfl h
theorem lc_22 {sc : Nat → Option (Nat × (Nat → Int32))} {R : Option Value → qMM → Nat × Nat → Prop} {X : String → qMM → Nat × Nat → Prop} {b L x i H c s : Nat} {xs : Nat → Int32} {m : Mod} {μ : qMM} {a5 a6 a7 a8 b0 b1 b2 b3 b4 b5 b6 b7 b8 : Option Value} (hsc : sc b = some (L, xs)) (hi : 4 * i + 4 ≤ L) (hL : L ≤ 2048) (hH : H + 4000 < 2 ^ 30) (hI : InvL H μ x m) (hc : c + 1 ≤ 601024) (hs : s + 6 ≤ 7293034) (hk : LcK sc R X b x i H c s) : EX (SL_law sc R X) 1294 [some (.ref b), some (.ref x), some (.ref (x + 1492)), some (.ref (x + 1498)), some (.int (nI (4 * i))), a5, a6, a7, a8] [b0, b1, b2, b3, b4, b5, b6, b7, b8] [] μ (c, s) := by
  have v1 : vp_in (nI (4 * i + 1)) L := vp_in_nI (by omega) (by omega)
  have v2 : vp_in (nI (4 * i + 2)) L := vp_in_nI (by omega) (by omega)
  have v3 : vp_in (nI (4 * i + 3)) L := vp_in_nI (by omega) (by omega)
  have w1 : (nI (4 * i + 1)).toNatClampNeg = 4 * i + 1 := nI_clamp (by omega)
  have w2 : (nI (4 * i + 2)).toNatClampNeg = 4 * i + 2 := nI_clamp (by omega)
  have w3 : (nI (4 * i + 3)).toNatClampNeg = 4 * i + 3 := nI_clamp (by omega)
  have c1 : c ≤ 601024 := by omega
  have s1 : s ≤ 7293034 := by omega
  have t8 : ∃ t, mS μ x = some (.inl (7, t)) := tX8 hI.1.1.1
  simp only [eL_law_1294, eL_law_1295, eL_law_1296, eL_law_1298, eL_law_1299, eL_law_1300, eL_law_1301, eL_law_1302, hsc, qIld_s, ix1, ix2, ix3, v1, v2, v3, w1, w2, w3, c1, s1, t8, hc, hs, Nat.add_zero, List.length_nil, List.length_cons, ll0, ll1, ll2, ll3, ll4, Nat.le_refl, Nat.zero_le, eq_self, not_true_eq_false, not_false_eq_true, true_imp_iff, false_imp_iff, true_and, and_true, Classical.not_not]
  refine ⟨⟨⟨H, m, hI.1⟩, hI.2.2.2⟩, fun r μ1 q => ?_⟩
  obtain ⟨n1, ⟨hM, hr, -⟩, n3, n4⟩ := hl_next (A := (fun m => numberForA m (xs (4 * i + 1)))) hH hI q (bad_numberFor m (xs (4 * i + 1)))
  have t9 : ∃ t, mS μ1 (x + 1492) = some (.inl (8, t)) := tX9 hM.1
  simp only [eL_law_1305, eL_law_1307, eL_law_1308, eL_law_1309, eL_law_1311, eL_law_1312, eL_law_1313, eL_law_1314, t9, hsc, qIld_s, ix1, ix2, ix3, v1, v2, v3, w1, w2, w3, c1, s1, t8, hc, hs, Nat.add_zero, List.length_nil, List.length_cons, ll0, ll1, ll2, ll3, ll4, Nat.le_refl, Nat.zero_le, eq_self, not_true_eq_false, not_false_eq_true, true_imp_iff, false_imp_iff, true_and, and_true, Classical.not_not]
  refine ⟨⟨hM, by rw [hr]; exact MOK_of hI.1⟩, fun r2 μ2 q2 => ?_⟩
  obtain ⟨e1, e2⟩ := q2
  rw [hr] at e1 e2
  have hM2 : MoS μ2 (x + 1492) := by rw [e2]; exact hM
  have hL2 : LaP μ2 (x + 1498) := by rw [e2]; exact n3.2.2.2
  have t92 : ∃ t, mS μ2 (x + 1492) = some (.inl (8, t)) := tX9 hM2.1
  simp only [eL_law_1317, eL_law_1319, eL_law_1320, t92, hsc, qIld_s, ix1, ix2, ix3, v1, v2, v3, w1, w2, w3, c1, s1, t8, hc, hs, Nat.add_zero, List.length_nil, List.length_cons, ll0, ll1, ll2, ll3, ll4, Nat.le_refl, Nat.zero_le, eq_self, not_true_eq_false, not_false_eq_true, true_imp_iff, false_imp_iff, true_and, and_true, Classical.not_not]
  refine ⟨hM2, fun r3 μ3 q3 => ?_⟩
  obtain ⟨e3, e4⟩ := q3
  have e5 : r3 = r := by rw [e3, e2, mI_mm0, n1]
  subst e5
  subst e4
  rw [← e2] at n3 n4
  by_cases g : r3 = 0
  · have n5 := n4 (n1.symm.trans g)
    rw [← e1] at n5
    simp only [eL_law_1323, eL_law_1325, eL_law_1328, eL_law_1330, eL_law_1332, eL_law_1335, eL_law_1336, eL_law_1337, eL_law_1338, eL_law_1340, eL_law_1341, eL_law_1342, eL_law_1345, eL_law_1347, g, qArr_La hL2, vp01, cl_0, n5, lg_cmp_s, hsc, qIld_s, ix1, ix2, ix3, v1, v2, v3, w1, w2, w3, c1, s1, t8, hc, hs, Nat.add_zero, List.length_nil, List.length_cons, ll0, ll1, ll2, ll3, ll4, Nat.le_refl, Nat.zero_le, eq_self, not_true_eq_false, not_false_eq_true, true_imp_iff, false_imp_iff, true_and, and_true, Classical.not_not]
    exact hk _ _ _ _ _ _ _ _ _ _ _ _ _ _ _ _ _ n3 (Nat.le_refl _) (Nat.le_refl _)
  · simp only [eL_law_1323, eL_law_1325, eL_law_1328, eL_law_1330, eL_law_1332, eL_law_1335, eL_law_1336, eL_law_1337, eL_law_1338, eL_law_1340, eL_law_1341, eL_law_1342, eL_law_1345, eL_law_1347, g, hsc, qIld_s, ix1, ix2, ix3, v1, v2, v3, w1, w2, w3, c1, s1, t8, hc, hs, Nat.add_zero, List.length_nil, List.length_cons, ll0, ll1, ll2, ll3, ll4, Nat.le_refl, Nat.zero_le, eq_self, not_true_eq_false, not_false_eq_true, true_imp_iff, false_imp_iff, true_and, and_true, Classical.not_not]
    exact hk _ _ _ _ _ _ _ _ _ _ _ _ _ _ _ _ _ n3 (Nat.le_refl _) (Nat.le_refl _)
theorem bad_count (m : Mod) (p0 : Int32) : ¬ (countA m p0).2.f 6 = 0 → badM m (countA m p0).2 := by
  unfold countA
  repeat' split
  all_goals first | exact fun _ => ⟨_, Or.inl rfl⟩ | exact fun _ => ⟨_, Or.inr rfl⟩ | exact fun h => absurd rfl h
theorem lc_23 {sc : Nat → Option (Nat × (Nat → Int32))} {R : Option Value → qMM → Nat × Nat → Prop} {X : String → qMM → Nat × Nat → Prop} {b L x i H c s : Nat} {xs : Nat → Int32} {m : Mod} {μ : qMM} {a5 a6 a7 a8 b0 b1 b2 b3 b4 b5 b6 b7 b8 : Option Value} (hsc : sc b = some (L, xs)) (hi : 4 * i + 4 ≤ L) (hL : L ≤ 2048) (hH : H + 4000 < 2 ^ 30) (hI : InvL H μ x m) (hc : c + 1 ≤ 601024) (hs : s + 6 ≤ 7293034) (hk : LcK sc R X b x i H c s) : EX (SL_law sc R X) 1350 [some (.ref b), some (.ref x), some (.ref (x + 1492)), some (.ref (x + 1498)), some (.int (nI (4 * i))), a5, a6, a7, a8] [b0, b1, b2, b3, b4, b5, b6, b7, b8] [] μ (c, s) := by
  have v1 : vp_in (nI (4 * i + 1)) L := vp_in_nI (by omega) (by omega)
  have v2 : vp_in (nI (4 * i + 2)) L := vp_in_nI (by omega) (by omega)
  have v3 : vp_in (nI (4 * i + 3)) L := vp_in_nI (by omega) (by omega)
  have w1 : (nI (4 * i + 1)).toNatClampNeg = 4 * i + 1 := nI_clamp (by omega)
  have w2 : (nI (4 * i + 2)).toNatClampNeg = 4 * i + 2 := nI_clamp (by omega)
  have w3 : (nI (4 * i + 3)).toNatClampNeg = 4 * i + 3 := nI_clamp (by omega)
  have c1 : c ≤ 601024 := by omega
  have s1 : s ≤ 7293034 := by omega
  have t8 : ∃ t, mS μ x = some (.inl (7, t)) := tX8 hI.1.1.1
  simp only [eL_law_1350, eL_law_1351, eL_law_1352, eL_law_1354, eL_law_1355, eL_law_1356, eL_law_1357, eL_law_1358, hsc, qIld_s, ix1, ix2, ix3, v1, v2, v3, w1, w2, w3, c1, s1, t8, hc, hs, Nat.add_zero, List.length_nil, List.length_cons, ll0, ll1, ll2, ll3, ll4, Nat.le_refl, Nat.zero_le, eq_self, not_true_eq_false, not_false_eq_true, true_imp_iff, false_imp_iff, true_and, and_true, Classical.not_not]
  refine ⟨⟨⟨H, m, hI.1⟩, hI.2.2.2⟩, fun r μ1 q => ?_⟩
  obtain ⟨n1, ⟨hM, hr, -⟩, n3, n4⟩ := hl_next (A := (fun m => countA m (xs (4 * i + 1)))) hH hI q (bad_count m (xs (4 * i + 1)))
  have t9 : ∃ t, mS μ1 (x + 1492) = some (.inl (8, t)) := tX9 hM.1
  simp only [eL_law_1361, eL_law_1363, eL_law_1364, eL_law_1365, eL_law_1367, eL_law_1368, eL_law_1369, eL_law_1370, t9, hsc, qIld_s, ix1, ix2, ix3, v1, v2, v3, w1, w2, w3, c1, s1, t8, hc, hs, Nat.add_zero, List.length_nil, List.length_cons, ll0, ll1, ll2, ll3, ll4, Nat.le_refl, Nat.zero_le, eq_self, not_true_eq_false, not_false_eq_true, true_imp_iff, false_imp_iff, true_and, and_true, Classical.not_not]
  refine ⟨⟨hM, by rw [hr]; exact MOK_of hI.1⟩, fun r2 μ2 q2 => ?_⟩
  obtain ⟨e1, e2⟩ := q2
  rw [hr] at e1 e2
  have hM2 : MoS μ2 (x + 1492) := by rw [e2]; exact hM
  have hL2 : LaP μ2 (x + 1498) := by rw [e2]; exact n3.2.2.2
  have t92 : ∃ t, mS μ2 (x + 1492) = some (.inl (8, t)) := tX9 hM2.1
  simp only [eL_law_1373, eL_law_1375, eL_law_1376, t92, hsc, qIld_s, ix1, ix2, ix3, v1, v2, v3, w1, w2, w3, c1, s1, t8, hc, hs, Nat.add_zero, List.length_nil, List.length_cons, ll0, ll1, ll2, ll3, ll4, Nat.le_refl, Nat.zero_le, eq_self, not_true_eq_false, not_false_eq_true, true_imp_iff, false_imp_iff, true_and, and_true, Classical.not_not]
  refine ⟨hM2, fun r3 μ3 q3 => ?_⟩
  obtain ⟨e3, e4⟩ := q3
  have e5 : r3 = r := by rw [e3, e2, mI_mm0, n1]
  subst e5
  subst e4
  rw [← e2] at n3 n4
  by_cases g : r3 = 0
  · have n5 := n4 (n1.symm.trans g)
    rw [← e1] at n5
    simp only [eL_law_1379, eL_law_1381, eL_law_1384, eL_law_1386, eL_law_1388, eL_law_1391, eL_law_1392, eL_law_1393, eL_law_1394, eL_law_1396, eL_law_1397, eL_law_1398, eL_law_1401, eL_law_1403, g, qArr_La hL2, vp01, cl_0, n5, lg_cmp_s, hsc, qIld_s, ix1, ix2, ix3, v1, v2, v3, w1, w2, w3, c1, s1, t8, hc, hs, Nat.add_zero, List.length_nil, List.length_cons, ll0, ll1, ll2, ll3, ll4, Nat.le_refl, Nat.zero_le, eq_self, not_true_eq_false, not_false_eq_true, true_imp_iff, false_imp_iff, true_and, and_true, Classical.not_not]
    exact hk _ _ _ _ _ _ _ _ _ _ _ _ _ _ _ _ _ n3 (Nat.le_refl _) (Nat.le_refl _)
  · simp only [eL_law_1379, eL_law_1381, eL_law_1384, eL_law_1386, eL_law_1388, eL_law_1391, eL_law_1392, eL_law_1393, eL_law_1394, eL_law_1396, eL_law_1397, eL_law_1398, eL_law_1401, eL_law_1403, g, hsc, qIld_s, ix1, ix2, ix3, v1, v2, v3, w1, w2, w3, c1, s1, t8, hc, hs, Nat.add_zero, List.length_nil, List.length_cons, ll0, ll1, ll2, ll3, ll4, Nat.le_refl, Nat.zero_le, eq_self, not_true_eq_false, not_false_eq_true, true_imp_iff, false_imp_iff, true_and, and_true, Classical.not_not]
    exact hk _ _ _ _ _ _ _ _ _ _ _ _ _ _ _ _ _ n3 (Nat.le_refl _) (Nat.le_refl _)
theorem lc_24 {sc : Nat → Option (Nat × (Nat → Int32))} {R : Option Value → qMM → Nat × Nat → Prop} {X : String → qMM → Nat × Nat → Prop} {b L x i H c s : Nat} {xs : Nat → Int32} {m : Mod} {μ : qMM} {a5 a6 a7 a8 b0 b1 b2 b3 b4 b5 b6 b7 b8 : Option Value} (hsc : sc b = some (L, xs)) (hi : 4 * i + 4 ≤ L) (hL : L ≤ 2048) (hH : H + 4000 < 2 ^ 30) (hI : InvL H μ x m) (hc : c + 1 ≤ 601024) (hs : s + 6 ≤ 7293034) (hk : LcK sc R X b x i H c s) : EX (SL_law sc R X) 1406 [some (.ref b), some (.ref x), some (.ref (x + 1492)), some (.ref (x + 1498)), some (.int (nI (4 * i))), a5, a6, a7, a8] [b0, b1, b2, b3, b4, b5, b6, b7, b8] [] μ (c, s) := by
  have v1 : vp_in (nI (4 * i + 1)) L := vp_in_nI (by omega) (by omega)
  have v2 : vp_in (nI (4 * i + 2)) L := vp_in_nI (by omega) (by omega)
  have v3 : vp_in (nI (4 * i + 3)) L := vp_in_nI (by omega) (by omega)
  have w1 : (nI (4 * i + 1)).toNatClampNeg = 4 * i + 1 := nI_clamp (by omega)
  have w2 : (nI (4 * i + 2)).toNatClampNeg = 4 * i + 2 := nI_clamp (by omega)
  have w3 : (nI (4 * i + 3)).toNatClampNeg = 4 * i + 3 := nI_clamp (by omega)
  have c1 : c ≤ 601024 := by omega
  have s1 : s ≤ 7293034 := by omega
  have t8 : ∃ t, mS μ x = some (.inl (7, t)) := tX8 hI.1.1.1
  simp only [eL_law_1406, eL_law_1407, hsc, qIld_s, ix1, ix2, ix3, v1, v2, v3, w1, w2, w3, c1, s1, t8, hc, hs, Nat.add_zero, List.length_nil, List.length_cons, ll0, ll1, ll2, ll3, ll4, Nat.le_refl, Nat.zero_le, eq_self, not_true_eq_false, not_false_eq_true, true_imp_iff, false_imp_iff, true_and, and_true, Classical.not_not]
  refine ⟨⟨H, m, hI.1⟩, fun r μ1 q => ?_⟩
  obtain ⟨n1, qQ⟩ := q H m hI.1
  obtain ⟨hM, hr, -⟩ := Aft_of hI qQ
  have t9 : ∃ t, mS μ1 (x + 1492) = some (.inl (8, t)) := tX9 hM.1
  simp only [eL_law_1410, eL_law_1411, t9, hsc, qIld_s, ix1, ix2, ix3, v1, v2, v3, w1, w2, w3, c1, s1, t8, hc, hs, Nat.add_zero, List.length_nil, List.length_cons, ll0, ll1, ll2, ll3, ll4, Nat.le_refl, Nat.zero_le, eq_self, not_true_eq_false, not_false_eq_true, true_imp_iff, false_imp_iff, true_and, and_true, Classical.not_not]
  refine ⟨⟨hM, by rw [hr]; exact MOK_of hI.1⟩, fun r2 μ2 q2 => ?_⟩
  obtain ⟨e1, e2⟩ := q2
  rw [hr] at e1 e2
  rw [n1, e1]
  simp only [eL_law_1414, eL_law_1417, hsc, qIld_s, ix1, ix2, ix3, v1, v2, v3, w1, w2, w3, c1, s1, t8, hc, hs, Nat.add_zero, List.length_nil, List.length_cons, ll0, ll1, ll2, ll3, ll4, Nat.le_refl, Nat.zero_le, eq_self, not_true_eq_false, not_false_eq_true, true_imp_iff, false_imp_iff, true_and, and_true, Classical.not_not]
  rw [e2]
  exact hk _ _ _ _ _ _ _ _ _ _ _ _ _ _ _ _ _ (InvL_next hH hI qQ (Or.inl rfl)) (Nat.le_succ _) (Nat.le_add_right _ _)
theorem lc_25 {sc : Nat → Option (Nat × (Nat → Int32))} {R : Option Value → qMM → Nat × Nat → Prop} {X : String → qMM → Nat × Nat → Prop} {b L x i H c s : Nat} {xs : Nat → Int32} {m : Mod} {μ : qMM} {a5 a6 a7 a8 b0 b1 b2 b3 b4 b5 b6 b7 b8 : Option Value} (hsc : sc b = some (L, xs)) (hi : 4 * i + 4 ≤ L) (hL : L ≤ 2048) (hH : H + 4000 < 2 ^ 30) (hI : InvL H μ x m) (hc : c + 1 ≤ 601024) (hs : s + 6 ≤ 7293034) (hk : LcK sc R X b x i H c s) : EX (SL_law sc R X) 1419 [some (.ref b), some (.ref x), some (.ref (x + 1492)), some (.ref (x + 1498)), some (.int (nI (4 * i))), a5, a6, a7, a8] [b0, b1, b2, b3, b4, b5, b6, b7, b8] [] μ (c, s) := by
  have v1 : vp_in (nI (4 * i + 1)) L := vp_in_nI (by omega) (by omega)
  have v2 : vp_in (nI (4 * i + 2)) L := vp_in_nI (by omega) (by omega)
  have v3 : vp_in (nI (4 * i + 3)) L := vp_in_nI (by omega) (by omega)
  have w1 : (nI (4 * i + 1)).toNatClampNeg = 4 * i + 1 := nI_clamp (by omega)
  have w2 : (nI (4 * i + 2)).toNatClampNeg = 4 * i + 2 := nI_clamp (by omega)
  have w3 : (nI (4 * i + 3)).toNatClampNeg = 4 * i + 3 := nI_clamp (by omega)
  have c1 : c ≤ 601024 := by omega
  have s1 : s ≤ 7293034 := by omega
  have t8 : ∃ t, mS μ x = some (.inl (7, t)) := tX8 hI.1.1.1
  simp only [eL_law_1419, eL_law_1420, hsc, qIld_s, ix1, ix2, ix3, v1, v2, v3, w1, w2, w3, c1, s1, t8, hc, hs, Nat.add_zero, List.length_nil, List.length_cons, ll0, ll1, ll2, ll3, ll4, Nat.le_refl, Nat.zero_le, eq_self, not_true_eq_false, not_false_eq_true, true_imp_iff, false_imp_iff, true_and, and_true, Classical.not_not]
  refine ⟨⟨H, m, hI.1⟩, fun r μ1 q => ?_⟩
  obtain ⟨n1, qQ⟩ := q H m hI.1
  obtain ⟨hM, hr, -⟩ := Aft_of hI qQ
  have t9 : ∃ t, mS μ1 (x + 1492) = some (.inl (8, t)) := tX9 hM.1
  simp only [eL_law_1423, eL_law_1424, t9, hsc, qIld_s, ix1, ix2, ix3, v1, v2, v3, w1, w2, w3, c1, s1, t8, hc, hs, Nat.add_zero, List.length_nil, List.length_cons, ll0, ll1, ll2, ll3, ll4, Nat.le_refl, Nat.zero_le, eq_self, not_true_eq_false, not_false_eq_true, true_imp_iff, false_imp_iff, true_and, and_true, Classical.not_not]
  refine ⟨⟨hM, by rw [hr]; exact MOK_of hI.1⟩, fun r2 μ2 q2 => ?_⟩
  obtain ⟨e1, e2⟩ := q2
  rw [hr] at e1 e2
  rw [n1, e1]
  simp only [eL_law_1427, eL_law_1430, hsc, qIld_s, ix1, ix2, ix3, v1, v2, v3, w1, w2, w3, c1, s1, t8, hc, hs, Nat.add_zero, List.length_nil, List.length_cons, ll0, ll1, ll2, ll3, ll4, Nat.le_refl, Nat.zero_le, eq_self, not_true_eq_false, not_false_eq_true, true_imp_iff, false_imp_iff, true_and, and_true, Classical.not_not]
  rw [e2]
  exact hk _ _ _ _ _ _ _ _ _ _ _ _ _ _ _ _ _ (InvL_next hH hI qQ (Or.inl rfl)) (Nat.le_succ _) (Nat.le_add_right _ _)
theorem bad_append (m : Mod) (p0 : Int32) : ¬ (appendA m p0).2.f 6 = 0 → badM m (appendA m p0).2 := by
  unfold appendA
  repeat' split
  all_goals first | exact fun _ => ⟨_, Or.inl rfl⟩ | exact fun _ => ⟨_, Or.inr rfl⟩ | exact fun h => absurd rfl h
theorem lc_27 {sc : Nat → Option (Nat × (Nat → Int32))} {R : Option Value → qMM → Nat × Nat → Prop} {X : String → qMM → Nat × Nat → Prop} {b L x i H c s : Nat} {xs : Nat → Int32} {m : Mod} {μ : qMM} {a5 a6 a7 a8 b0 b1 b2 b3 b4 b5 b6 b7 b8 : Option Value} (hsc : sc b = some (L, xs)) (hi : 4 * i + 4 ≤ L) (hL : L ≤ 2048) (hH : H + 4000 < 2 ^ 30) (hI : InvL H μ x m) (hc : c + 1 ≤ 601024) (hs : s + 6 ≤ 7293034) (hk : LcK sc R X b x i H c s) : EX (SL_law sc R X) 1473 [some (.ref b), some (.ref x), some (.ref (x + 1492)), some (.ref (x + 1498)), some (.int (nI (4 * i))), a5, a6, a7, a8] [b0, b1, b2, b3, b4, b5, b6, b7, b8] [] μ (c, s) := by
  have v1 : vp_in (nI (4 * i + 1)) L := vp_in_nI (by omega) (by omega)
  have v2 : vp_in (nI (4 * i + 2)) L := vp_in_nI (by omega) (by omega)
  have v3 : vp_in (nI (4 * i + 3)) L := vp_in_nI (by omega) (by omega)
  have w1 : (nI (4 * i + 1)).toNatClampNeg = 4 * i + 1 := nI_clamp (by omega)
  have w2 : (nI (4 * i + 2)).toNatClampNeg = 4 * i + 2 := nI_clamp (by omega)
  have w3 : (nI (4 * i + 3)).toNatClampNeg = 4 * i + 3 := nI_clamp (by omega)
  have c1 : c ≤ 601024 := by omega
  have s1 : s ≤ 7293034 := by omega
  have t8 : ∃ t, mS μ x = some (.inl (7, t)) := tX8 hI.1.1.1
  simp only [eL_law_1473, eL_law_1474, eL_law_1475, eL_law_1477, eL_law_1478, eL_law_1479, eL_law_1480, eL_law_1481, hsc, qIld_s, ix1, ix2, ix3, v1, v2, v3, w1, w2, w3, c1, s1, t8, hc, hs, Nat.add_zero, List.length_nil, List.length_cons, ll0, ll1, ll2, ll3, ll4, Nat.le_refl, Nat.zero_le, eq_self, not_true_eq_false, not_false_eq_true, true_imp_iff, false_imp_iff, true_and, and_true, Classical.not_not]
  refine ⟨⟨⟨H, m, hI.1⟩, hI.2.2.2⟩, fun r μ1 q => ?_⟩
  obtain ⟨n1, ⟨hM, hr, -⟩, n3, n4⟩ := hl_next (A := (fun m => appendA m (xs (4 * i + 1)))) hH hI q (bad_append m (xs (4 * i + 1)))
  have t9 : ∃ t, mS μ1 (x + 1492) = some (.inl (8, t)) := tX9 hM.1
  simp only [eL_law_1484, eL_law_1486, eL_law_1487, eL_law_1488, eL_law_1490, eL_law_1491, eL_law_1492, eL_law_1493, t9, hsc, qIld_s, ix1, ix2, ix3, v1, v2, v3, w1, w2, w3, c1, s1, t8, hc, hs, Nat.add_zero, List.length_nil, List.length_cons, ll0, ll1, ll2, ll3, ll4, Nat.le_refl, Nat.zero_le, eq_self, not_true_eq_false, not_false_eq_true, true_imp_iff, false_imp_iff, true_and, and_true, Classical.not_not]
  refine ⟨⟨hM, by rw [hr]; exact MOK_of hI.1⟩, fun r2 μ2 q2 => ?_⟩
  obtain ⟨e1, e2⟩ := q2
  rw [hr] at e1 e2
  have hM2 : MoS μ2 (x + 1492) := by rw [e2]; exact hM
  have hL2 : LaP μ2 (x + 1498) := by rw [e2]; exact n3.2.2.2
  have t92 : ∃ t, mS μ2 (x + 1492) = some (.inl (8, t)) := tX9 hM2.1
  simp only [eL_law_1496, eL_law_1498, eL_law_1499, t92, hsc, qIld_s, ix1, ix2, ix3, v1, v2, v3, w1, w2, w3, c1, s1, t8, hc, hs, Nat.add_zero, List.length_nil, List.length_cons, ll0, ll1, ll2, ll3, ll4, Nat.le_refl, Nat.zero_le, eq_self, not_true_eq_false, not_false_eq_true, true_imp_iff, false_imp_iff, true_and, and_true, Classical.not_not]
  refine ⟨hM2, fun r3 μ3 q3 => ?_⟩
  obtain ⟨e3, e4⟩ := q3
  have e5 : r3 = r := by rw [e3, e2, mI_mm0, n1]
  subst e5
  subst e4
  rw [← e2] at n3 n4
  by_cases g : r3 = 0
  · have n5 := n4 (n1.symm.trans g)
    rw [← e1] at n5
    simp only [eL_law_1502, eL_law_1504, eL_law_1507, eL_law_1509, eL_law_1511, eL_law_1514, eL_law_1515, eL_law_1516, eL_law_1517, eL_law_1519, eL_law_1520, eL_law_1521, eL_law_1524, eL_law_1526, g, qArr_La hL2, vp01, cl_0, n5, lg_cmp_s, hsc, qIld_s, ix1, ix2, ix3, v1, v2, v3, w1, w2, w3, c1, s1, t8, hc, hs, Nat.add_zero, List.length_nil, List.length_cons, ll0, ll1, ll2, ll3, ll4, Nat.le_refl, Nat.zero_le, eq_self, not_true_eq_false, not_false_eq_true, true_imp_iff, false_imp_iff, true_and, and_true, Classical.not_not]
    exact hk _ _ _ _ _ _ _ _ _ _ _ _ _ _ _ _ _ n3 (Nat.le_refl _) (Nat.le_refl _)
  · simp only [eL_law_1502, eL_law_1504, eL_law_1507, eL_law_1509, eL_law_1511, eL_law_1514, eL_law_1515, eL_law_1516, eL_law_1517, eL_law_1519, eL_law_1520, eL_law_1521, eL_law_1524, eL_law_1526, g, hsc, qIld_s, ix1, ix2, ix3, v1, v2, v3, w1, w2, w3, c1, s1, t8, hc, hs, Nat.add_zero, List.length_nil, List.length_cons, ll0, ll1, ll2, ll3, ll4, Nat.le_refl, Nat.zero_le, eq_self, not_true_eq_false, not_false_eq_true, true_imp_iff, false_imp_iff, true_and, and_true, Classical.not_not]
    exact hk _ _ _ _ _ _ _ _ _ _ _ _ _ _ _ _ _ n3 (Nat.le_refl _) (Nat.le_refl _)
theorem lc_28 {sc : Nat → Option (Nat × (Nat → Int32))} {R : Option Value → qMM → Nat × Nat → Prop} {X : String → qMM → Nat × Nat → Prop} {b L x i H c s : Nat} {xs : Nat → Int32} {m : Mod} {μ : qMM} {a5 a6 a7 a8 b0 b1 b2 b3 b4 b5 b6 b7 b8 : Option Value} (hsc : sc b = some (L, xs)) (hi : 4 * i + 4 ≤ L) (hL : L ≤ 2048) (hH : H + 4000 < 2 ^ 30) (hI : InvL H μ x m) (hc : c + 1 ≤ 601024) (hs : s + 6 ≤ 7293034) (hk : LcK sc R X b x i H c s) : EX (SL_law sc R X) 1529 [some (.ref b), some (.ref x), some (.ref (x + 1492)), some (.ref (x + 1498)), some (.int (nI (4 * i))), a5, a6, a7, a8] [b0, b1, b2, b3, b4, b5, b6, b7, b8] [] μ (c, s) := by
  have v1 : vp_in (nI (4 * i + 1)) L := vp_in_nI (by omega) (by omega)
  have v2 : vp_in (nI (4 * i + 2)) L := vp_in_nI (by omega) (by omega)
  have v3 : vp_in (nI (4 * i + 3)) L := vp_in_nI (by omega) (by omega)
  have w1 : (nI (4 * i + 1)).toNatClampNeg = 4 * i + 1 := nI_clamp (by omega)
  have w2 : (nI (4 * i + 2)).toNatClampNeg = 4 * i + 2 := nI_clamp (by omega)
  have w3 : (nI (4 * i + 3)).toNatClampNeg = 4 * i + 3 := nI_clamp (by omega)
  have c1 : c ≤ 601024 := by omega
  have s1 : s ≤ 7293034 := by omega
  have t8 : ∃ t, mS μ x = some (.inl (7, t)) := tX8 hI.1.1.1
  simp only [eL_law_1529, eL_law_1530, hsc, qIld_s, ix1, ix2, ix3, v1, v2, v3, w1, w2, w3, c1, s1, t8, hc, hs, Nat.add_zero, List.length_nil, List.length_cons, ll0, ll1, ll2, ll3, ll4, Nat.le_refl, Nat.zero_le, eq_self, not_true_eq_false, not_false_eq_true, true_imp_iff, false_imp_iff, true_and, and_true, Classical.not_not]
  refine ⟨⟨H, m, hI.1⟩, fun r μ1 q => ?_⟩
  obtain ⟨n1, qQ⟩ := q H m hI.1
  obtain ⟨hM, hr, -⟩ := Aft_of hI qQ
  have t9 : ∃ t, mS μ1 (x + 1492) = some (.inl (8, t)) := tX9 hM.1
  simp only [eL_law_1533, eL_law_1534, t9, hsc, qIld_s, ix1, ix2, ix3, v1, v2, v3, w1, w2, w3, c1, s1, t8, hc, hs, Nat.add_zero, List.length_nil, List.length_cons, ll0, ll1, ll2, ll3, ll4, Nat.le_refl, Nat.zero_le, eq_self, not_true_eq_false, not_false_eq_true, true_imp_iff, false_imp_iff, true_and, and_true, Classical.not_not]
  refine ⟨⟨hM, by rw [hr]; exact MOK_of hI.1⟩, fun r2 μ2 q2 => ?_⟩
  obtain ⟨e1, e2⟩ := q2
  rw [hr] at e1 e2
  rw [n1, e1]
  simp only [eL_law_1537, eL_law_1540, hsc, qIld_s, ix1, ix2, ix3, v1, v2, v3, w1, w2, w3, c1, s1, t8, hc, hs, Nat.add_zero, List.length_nil, List.length_cons, ll0, ll1, ll2, ll3, ll4, Nat.le_refl, Nat.zero_le, eq_self, not_true_eq_false, not_false_eq_true, true_imp_iff, false_imp_iff, true_and, and_true, Classical.not_not]
  rw [e2]
  exact hk _ _ _ _ _ _ _ _ _ _ _ _ _ _ _ _ _ (InvL_next hH hI qQ (Or.inl rfl)) (Nat.le_succ _) (Nat.le_add_right _ _)
theorem bad_undo (m : Mod) : ¬ (undoA m).2.f 6 = 0 → badM m (undoA m).2 := by
  unfold undoA
  repeat' split
  all_goals first | exact fun _ => ⟨_, Or.inl rfl⟩ | exact fun _ => ⟨_, Or.inr rfl⟩ | exact fun h => absurd rfl h
theorem lc_30 {sc : Nat → Option (Nat × (Nat → Int32))} {R : Option Value → qMM → Nat × Nat → Prop} {X : String → qMM → Nat × Nat → Prop} {b L x i H c s : Nat} {xs : Nat → Int32} {m : Mod} {μ : qMM} {a5 a6 a7 a8 b0 b1 b2 b3 b4 b5 b6 b7 b8 : Option Value} (hsc : sc b = some (L, xs)) (hi : 4 * i + 4 ≤ L) (hL : L ≤ 2048) (hH : H + 4000 < 2 ^ 30) (hI : InvL H μ x m) (hc : c + 1 ≤ 601024) (hs : s + 6 ≤ 7293034) (hk : LcK sc R X b x i H c s) : EX (SL_law sc R X) 1555 [some (.ref b), some (.ref x), some (.ref (x + 1492)), some (.ref (x + 1498)), some (.int (nI (4 * i))), a5, a6, a7, a8] [b0, b1, b2, b3, b4, b5, b6, b7, b8] [] μ (c, s) := by
  have v1 : vp_in (nI (4 * i + 1)) L := vp_in_nI (by omega) (by omega)
  have v2 : vp_in (nI (4 * i + 2)) L := vp_in_nI (by omega) (by omega)
  have v3 : vp_in (nI (4 * i + 3)) L := vp_in_nI (by omega) (by omega)
  have w1 : (nI (4 * i + 1)).toNatClampNeg = 4 * i + 1 := nI_clamp (by omega)
  have w2 : (nI (4 * i + 2)).toNatClampNeg = 4 * i + 2 := nI_clamp (by omega)
  have w3 : (nI (4 * i + 3)).toNatClampNeg = 4 * i + 3 := nI_clamp (by omega)
  have c1 : c ≤ 601024 := by omega
  have s1 : s ≤ 7293034 := by omega
  have t8 : ∃ t, mS μ x = some (.inl (7, t)) := tX8 hI.1.1.1
  simp only [eL_law_1555, eL_law_1556, eL_law_1557, hsc, qIld_s, ix1, ix2, ix3, v1, v2, v3, w1, w2, w3, c1, s1, t8, hc, hs, Nat.add_zero, List.length_nil, List.length_cons, ll0, ll1, ll2, ll3, ll4, Nat.le_refl, Nat.zero_le, eq_self, not_true_eq_false, not_false_eq_true, true_imp_iff, false_imp_iff, true_and, and_true, Classical.not_not]
  refine ⟨⟨⟨H, m, hI.1⟩, hI.2.2.2⟩, fun r μ1 q => ?_⟩
  obtain ⟨n1, ⟨hM, hr, -⟩, n3, n4⟩ := hl_next (A := (fun m => undoA m)) hH hI q (bad_undo m)
  have t9 : ∃ t, mS μ1 (x + 1492) = some (.inl (8, t)) := tX9 hM.1
  simp only [eL_law_1560, eL_law_1562, eL_law_1563, t9, hsc, qIld_s, ix1, ix2, ix3, v1, v2, v3, w1, w2, w3, c1, s1, t8, hc, hs, Nat.add_zero, List.length_nil, List.length_cons, ll0, ll1, ll2, ll3, ll4, Nat.le_refl, Nat.zero_le, eq_self, not_true_eq_false, not_false_eq_true, true_imp_iff, false_imp_iff, true_and, and_true, Classical.not_not]
  refine ⟨⟨hM, by rw [hr]; exact MOK_of hI.1⟩, fun r2 μ2 q2 => ?_⟩
  obtain ⟨e1, e2⟩ := q2
  rw [hr] at e1 e2
  have hM2 : MoS μ2 (x + 1492) := by rw [e2]; exact hM
  have hL2 : LaP μ2 (x + 1498) := by rw [e2]; exact n3.2.2.2
  have t92 : ∃ t, mS μ2 (x + 1492) = some (.inl (8, t)) := tX9 hM2.1
  simp only [eL_law_1566, eL_law_1568, eL_law_1569, t92, hsc, qIld_s, ix1, ix2, ix3, v1, v2, v3, w1, w2, w3, c1, s1, t8, hc, hs, Nat.add_zero, List.length_nil, List.length_cons, ll0, ll1, ll2, ll3, ll4, Nat.le_refl, Nat.zero_le, eq_self, not_true_eq_false, not_false_eq_true, true_imp_iff, false_imp_iff, true_and, and_true, Classical.not_not]
  refine ⟨hM2, fun r3 μ3 q3 => ?_⟩
  obtain ⟨e3, e4⟩ := q3
  have e5 : r3 = r := by rw [e3, e2, mI_mm0, n1]
  subst e5
  subst e4
  rw [← e2] at n3 n4
  by_cases g : r3 = 0
  · have n5 := n4 (n1.symm.trans g)
    rw [← e1] at n5
    simp only [eL_law_1572, eL_law_1574, eL_law_1577, eL_law_1579, eL_law_1581, eL_law_1584, eL_law_1585, eL_law_1586, eL_law_1587, eL_law_1589, eL_law_1590, eL_law_1591, eL_law_1594, eL_law_1596, g, qArr_La hL2, vp01, cl_0, n5, lg_cmp_s, hsc, qIld_s, ix1, ix2, ix3, v1, v2, v3, w1, w2, w3, c1, s1, t8, hc, hs, Nat.add_zero, List.length_nil, List.length_cons, ll0, ll1, ll2, ll3, ll4, Nat.le_refl, Nat.zero_le, eq_self, not_true_eq_false, not_false_eq_true, true_imp_iff, false_imp_iff, true_and, and_true, Classical.not_not]
    exact hk _ _ _ _ _ _ _ _ _ _ _ _ _ _ _ _ _ n3 (Nat.le_refl _) (Nat.le_refl _)
  · simp only [eL_law_1572, eL_law_1574, eL_law_1577, eL_law_1579, eL_law_1581, eL_law_1584, eL_law_1585, eL_law_1586, eL_law_1587, eL_law_1589, eL_law_1590, eL_law_1591, eL_law_1594, eL_law_1596, g, hsc, qIld_s, ix1, ix2, ix3, v1, v2, v3, w1, w2, w3, c1, s1, t8, hc, hs, Nat.add_zero, List.length_nil, List.length_cons, ll0, ll1, ll2, ll3, ll4, Nat.le_refl, Nat.zero_le, eq_self, not_true_eq_false, not_false_eq_true, true_imp_iff, false_imp_iff, true_and, and_true, Classical.not_not]
    exact hk _ _ _ _ _ _ _ _ _ _ _ _ _ _ _ _ _ n3 (Nat.le_refl _) (Nat.le_refl _)
