/-! ===== the law: the five other cases (by program: wip/gen/lawcases.py) ===== -/
theorem dcm_s {x : UInt64} (h : vf_n64 x) : Op.cmpValue (FP.dcmp x x) .l = 0 := Jvm.RoadKit.dcmpV_self h .l
theorem sm_V {H : Nat} {μ : qMM} {h : Nat} {m m' : Mod} (e : sm m m') (q : HsV H μ h m) : HsV H μ h m' := HsV_id (e.1 3 (by decide) (by decide) (by decide) (by decide)) (e.1 5 (by decide) (by decide) (by decide) (by decide)) e.2.1 e.2.2.1 e.2.2.2.2.1 q
theorem sm_Q {H : Nat} {μ μ' : qMM} {h : Nat} {m m' : Mod} (e : sm m m') (q : HsQ H μ μ' h m) : HsQ H μ μ' h m' := ⟨q.1, sm_V e q.2.1, q.2.2⟩
theorem dig_Q {H : Nat} {μ μ' : qMM} {h : Nat} {m : Mod} {z : Int64} (q : HsQ H μ μ' h m) : HsQ H μ μ' h ((telM m).wh z) := ⟨q.1, HsV_id (by show upd m.f 6 0 3 = _; exact upd_n (by decide)) (by show upd m.f 6 0 5 = _; exact upd_n (by decide)) rfl rfl rfl q.2.1, q.2.2⟩
theorem lc_16 {sc : Nat → Option (Nat × (Nat → Int32))} {R : Option Value → qMM → Nat × Nat → Prop} {X : String → qMM → Nat × Nat → Prop} {b L x i H c s : Nat} {xs : Nat → Int32} {m : Mod} {μ : qMM} {a5 a6 a7 a8 b0 b1 b2 b3 b4 b5 b6 b7 b8 : Option Value} (hsc : sc b = some (L, xs)) (hi : 4 * i + 4 ≤ L) (hL : L ≤ 2048) (hH : H + 4000 < 2 ^ 30) (hI : InvL H μ x m) (hc : c + 1 ≤ 601024) (hs : s + 6 ≤ 7293034) (hk : LcK sc R X b x i H c s) : EX (SL_law sc R X) 995 [some (.ref b), some (.ref x), some (.ref (x + 1492)), some (.ref (x + 1498)), some (.int (nI (4 * i))), a5, a6, a7, a8] [b0, b1, b2, b3, b4, b5, b6, b7, b8] [] μ (c, s) := by
  have v1 : vp_in (nI (4 * i + 1)) L := vp_in_nI (by omega) (by omega)
  have v2 : vp_in (nI (4 * i + 2)) L := vp_in_nI (by omega) (by omega)
  have v3 : vp_in (nI (4 * i + 3)) L := vp_in_nI (by omega) (by omega)
  have w1 : (nI (4 * i + 1)).toNatClampNeg = 4 * i + 1 := nI_clamp (by omega)
  have w2 : (nI (4 * i + 2)).toNatClampNeg = 4 * i + 2 := nI_clamp (by omega)
  have w3 : (nI (4 * i + 3)).toNatClampNeg = 4 * i + 3 := nI_clamp (by omega)
  have c1 : c ≤ 601024 := by omega
  have s1 : s ≤ 7293034 := by omega
  have t8 : ∃ t, mS μ x = some (.inl (7, t)) := tX8 hI.1.1.1
  by_cases g : xs (4 * i + 1) = 0
  · simp only [eL_law_995, eL_law_996, eL_law_997, eL_law_999, eL_law_1000, eL_law_1001, eL_law_1002, eL_law_1005, eL_law_1006, eL_law_1009, eL_law_1010, hsc, qIld_s, ix1, ix2, ix3, v1, v2, v3, w1, w2, w3, c1, s1, t8, hc, hs, Nat.add_zero, List.length_nil, List.length_cons, ll0, ll1, ll2, ll3, ll4, Nat.le_refl, Nat.zero_le, eq_self, not_true_eq_false, not_false_eq_true, true_imp_iff, false_imp_iff, true_and, and_true, Classical.not_not, g]
    refine ⟨⟨H, m, hI.1⟩, fun r μ1 q => ?_⟩
    obtain ⟨n1, qQ⟩ := q H m hI.1
    obtain ⟨hM, hr, -⟩ := Aft_of hI qQ
    have t9 : ∃ t, mS μ1 (x + 1492) = some (.inl (8, t)) := tX9 hM.1
    simp only [eL_law_1013, eL_law_1014, eL_law_1015, eL_law_1017, eL_law_1018, eL_law_1019, eL_law_1020, eL_law_1023, eL_law_1024, eL_law_1027, eL_law_1028, t9, hsc, qIld_s, ix1, ix2, ix3, v1, v2, v3, w1, w2, w3, c1, s1, t8, hc, hs, Nat.add_zero, List.length_nil, List.length_cons, ll0, ll1, ll2, ll3, ll4, Nat.le_refl, Nat.zero_le, eq_self, not_true_eq_false, not_false_eq_true, true_imp_iff, false_imp_iff, true_and, and_true, Classical.not_not, g]
    refine ⟨⟨hM, by rw [hr]; exact MOK_of hI.1⟩, fun r2 μ2 q2 => ?_⟩
    obtain ⟨e1, e2⟩ := q2
    rw [hr] at e1 e2
    rw [n1, e1]
    simp only [eL_law_1031, eL_law_1034, hsc, qIld_s, ix1, ix2, ix3, v1, v2, v3, w1, w2, w3, c1, s1, t8, hc, hs, Nat.add_zero, List.length_nil, List.length_cons, ll0, ll1, ll2, ll3, ll4, Nat.le_refl, Nat.zero_le, eq_self, not_true_eq_false, not_false_eq_true, true_imp_iff, false_imp_iff, true_and, and_true, Classical.not_not, g]
    rw [e2]
    exact hk _ _ _ _ _ _ _ _ _ _ _ _ _ _ _ _ _ (InvL_next hH hI qQ (Or.inl rfl)) (Nat.le_succ _) (Nat.le_add_right _ _)
  · simp only [eL_law_995, eL_law_996, eL_law_997, eL_law_999, eL_law_1000, eL_law_1001, eL_law_1002, eL_law_1005, eL_law_1006, eL_law_1009, eL_law_1010, hsc, qIld_s, ix1, ix2, ix3, v1, v2, v3, w1, w2, w3, c1, s1, t8, hc, hs, Nat.add_zero, List.length_nil, List.length_cons, ll0, ll1, ll2, ll3, ll4, Nat.le_refl, Nat.zero_le, eq_self, not_true_eq_false, not_false_eq_true, true_imp_iff, false_imp_iff, true_and, and_true, Classical.not_not, g]
    refine ⟨⟨H, m, hI.1⟩, fun r μ1 q => ?_⟩
    obtain ⟨n1, qQ⟩ := q H m hI.1
    obtain ⟨hM, hr, -⟩ := Aft_of hI qQ
    have t9 : ∃ t, mS μ1 (x + 1492) = some (.inl (8, t)) := tX9 hM.1
    simp only [eL_law_1013, eL_law_1014, eL_law_1015, eL_law_1017, eL_law_1018, eL_law_1019, eL_law_1020, eL_law_1023, eL_law_1024, eL_law_1027, eL_law_1028, t9, hsc, qIld_s, ix1, ix2, ix3, v1, v2, v3, w1, w2, w3, c1, s1, t8, hc, hs, Nat.add_zero, List.length_nil, List.length_cons, ll0, ll1, ll2, ll3, ll4, Nat.le_refl, Nat.zero_le, eq_self, not_true_eq_false, not_false_eq_true, true_imp_iff, false_imp_iff, true_and, and_true, Classical.not_not, g]
    refine ⟨⟨hM, by rw [hr]; exact MOK_of hI.1⟩, fun r2 μ2 q2 => ?_⟩
    obtain ⟨e1, e2⟩ := q2
    rw [hr] at e1 e2
    rw [n1, e1]
    simp only [eL_law_1031, eL_law_1034, hsc, qIld_s, ix1, ix2, ix3, v1, v2, v3, w1, w2, w3, c1, s1, t8, hc, hs, Nat.add_zero, List.length_nil, List.length_cons, ll0, ll1, ll2, ll3, ll4, Nat.le_refl, Nat.zero_le, eq_self, not_true_eq_false, not_false_eq_true, true_imp_iff, false_imp_iff, true_and, and_true, Classical.not_not, g]
    rw [e2]
    exact hk _ _ _ _ _ _ _ _ _ _ _ _ _ _ _ _ _ (InvL_next hH hI qQ (Or.inl rfl)) (Nat.le_succ _) (Nat.le_add_right _ _)
theorem bad_waitingAt (m : Mod) (p0 p1 : Int32) : ¬ (waitingAtA m p0 p1).2.f 6 = 0 → badM m (waitingAtA m p0 p1).2 := by
  unfold waitingAtA
  repeat' split
  all_goals first | exact fun _ => ⟨_, Or.inl rfl⟩ | exact fun _ => ⟨_, Or.inr rfl⟩ | exact fun h => absurd rfl h
theorem lc_17 {sc : Nat → Option (Nat × (Nat → Int32))} {R : Option Value → qMM → Nat × Nat → Prop} {X : String → qMM → Nat × Nat → Prop} {b L x i H c s : Nat} {xs : Nat → Int32} {m : Mod} {μ : qMM} {a5 a6 a7 a8 b0 b1 b2 b3 b4 b5 b6 b7 b8 : Option Value} (hsc : sc b = some (L, xs)) (hi : 4 * i + 4 ≤ L) (hL : L ≤ 2048) (hH : H + 4000 < 2 ^ 30) (hI : InvL H μ x m) (hc : c + 1 ≤ 601024) (hs : s + 6 ≤ 7293034) (hk : LcK sc R X b x i H c s) : EX (SL_law sc R X) 1036 [some (.ref b), some (.ref x), some (.ref (x + 1492)), some (.ref (x + 1498)), some (.int (nI (4 * i))), a5, a6, a7, a8] [b0, b1, b2, b3, b4, b5, b6, b7, b8] [] μ (c, s) := by
  have v1 : vp_in (nI (4 * i + 1)) L := vp_in_nI (by omega) (by omega)
  have v2 : vp_in (nI (4 * i + 2)) L := vp_in_nI (by omega) (by omega)
  have v3 : vp_in (nI (4 * i + 3)) L := vp_in_nI (by omega) (by omega)
  have w1 : (nI (4 * i + 1)).toNatClampNeg = 4 * i + 1 := nI_clamp (by omega)
  have w2 : (nI (4 * i + 2)).toNatClampNeg = 4 * i + 2 := nI_clamp (by omega)
  have w3 : (nI (4 * i + 3)).toNatClampNeg = 4 * i + 3 := nI_clamp (by omega)
  have c1 : c ≤ 601024 := by omega
  have s1 : s ≤ 7293034 := by omega
  have t8 : ∃ t, mS μ x = some (.inl (7, t)) := tX8 hI.1.1.1
  by_cases g : xs (4 * i + 1) = 0
  · simp only [eL_law_1036, eL_law_1037, eL_law_1038, eL_law_1040, eL_law_1041, eL_law_1042, eL_law_1043, eL_law_1046, eL_law_1047, eL_law_1050, eL_law_1051, eL_law_1052, eL_law_1054, eL_law_1055, eL_law_1056, eL_law_1057, eL_law_1058, hsc, qIld_s, ix1, ix2, ix3, v1, v2, v3, w1, w2, w3, c1, s1, t8, hc, hs, Nat.add_zero, List.length_nil, List.length_cons, ll0, ll1, ll2, ll3, ll4, Nat.le_refl, Nat.zero_le, eq_self, not_true_eq_false, not_false_eq_true, true_imp_iff, false_imp_iff, true_and, and_true, Classical.not_not, g]
    refine ⟨⟨⟨H, m, hI.1⟩, hI.2.2.2⟩, fun r μ1 q => ?_⟩
    obtain ⟨n1, ⟨hM, hr, -⟩, n3, n4⟩ := hl_next (A := (fun m => waitingAtA m 0 (xs (4 * i + 2)))) hH hI q (bad_waitingAt m 0 (xs (4 * i + 2)))
    have t9 : ∃ t, mS μ1 (x + 1492) = some (.inl (8, t)) := tX9 hM.1
    simp only [eL_law_1061, eL_law_1063, eL_law_1064, eL_law_1065, eL_law_1067, eL_law_1068, eL_law_1069, eL_law_1070, eL_law_1073, eL_law_1074, eL_law_1077, eL_law_1078, eL_law_1079, eL_law_1081, eL_law_1082, eL_law_1083, eL_law_1084, t9, hsc, qIld_s, ix1, ix2, ix3, v1, v2, v3, w1, w2, w3, c1, s1, t8, hc, hs, Nat.add_zero, List.length_nil, List.length_cons, ll0, ll1, ll2, ll3, ll4, Nat.le_refl, Nat.zero_le, eq_self, not_true_eq_false, not_false_eq_true, true_imp_iff, false_imp_iff, true_and, and_true, Classical.not_not, g]
    refine ⟨⟨hM, by rw [hr]; exact MOK_of hI.1⟩, fun r2 μ2 q2 => ?_⟩
    obtain ⟨e1, e2⟩ := q2
    rw [hr] at e1 e2
    have hM2 : MoS μ2 (x + 1492) := by rw [e2]; exact hM
    have hL2 : LaP μ2 (x + 1498) := by rw [e2]; exact n3.2.2.2
    have t92 : ∃ t, mS μ2 (x + 1492) = some (.inl (8, t)) := tX9 hM2.1
    simp only [eL_law_1087, eL_law_1089, eL_law_1090, t92, hsc, qIld_s, ix1, ix2, ix3, v1, v2, v3, w1, w2, w3, c1, s1, t8, hc, hs, Nat.add_zero, List.length_nil, List.length_cons, ll0, ll1, ll2, ll3, ll4, Nat.le_refl, Nat.zero_le, eq_self, not_true_eq_false, not_false_eq_true, true_imp_iff, false_imp_iff, true_and, and_true, Classical.not_not, g]
    refine ⟨hM2, fun r3 μ3 q3 => ?_⟩
    obtain ⟨e3, e4⟩ := q3
    have e5 : r3 = r := by rw [e3, e2, mI_mm0, n1]
    subst e5
    subst e4
    rw [← e2] at n3 n4
    by_cases g9 : r3 = 0
    · have n5 := n4 (n1.symm.trans g9)
      rw [← e1] at n5
      simp only [eL_law_1093, eL_law_1095, eL_law_1098, eL_law_1100, eL_law_1102, eL_law_1105, eL_law_1106, eL_law_1107, eL_law_1108, eL_law_1110, eL_law_1111, eL_law_1112, eL_law_1115, eL_law_1117, g9, qArr_La hL2, vp01, cl_0, n5, lg_cmp_s, hsc, qIld_s, ix1, ix2, ix3, v1, v2, v3, w1, w2, w3, c1, s1, t8, hc, hs, Nat.add_zero, List.length_nil, List.length_cons, ll0, ll1, ll2, ll3, ll4, Nat.le_refl, Nat.zero_le, eq_self, not_true_eq_false, not_false_eq_true, true_imp_iff, false_imp_iff, true_and, and_true, Classical.not_not]
      exact hk _ _ _ _ _ _ _ _ _ _ _ _ _ _ _ _ _ n3 (Nat.le_refl _) (Nat.le_refl _)
    · simp only [eL_law_1093, eL_law_1095, eL_law_1098, eL_law_1100, eL_law_1102, eL_law_1105, eL_law_1106, eL_law_1107, eL_law_1108, eL_law_1110, eL_law_1111, eL_law_1112, eL_law_1115, eL_law_1117, g9, hsc, qIld_s, ix1, ix2, ix3, v1, v2, v3, w1, w2, w3, c1, s1, t8, hc, hs, Nat.add_zero, List.length_nil, List.length_cons, ll0, ll1, ll2, ll3, ll4, Nat.le_refl, Nat.zero_le, eq_self, not_true_eq_false, not_false_eq_true, true_imp_iff, false_imp_iff, true_and, and_true, Classical.not_not]
      exact hk _ _ _ _ _ _ _ _ _ _ _ _ _ _ _ _ _ n3 (Nat.le_refl _) (Nat.le_refl _)
  · simp only [eL_law_1036, eL_law_1037, eL_law_1038, eL_law_1040, eL_law_1041, eL_law_1042, eL_law_1043, eL_law_1046, eL_law_1047, eL_law_1050, eL_law_1051, eL_law_1052, eL_law_1054, eL_law_1055, eL_law_1056, eL_law_1057, eL_law_1058, hsc, qIld_s, ix1, ix2, ix3, v1, v2, v3, w1, w2, w3, c1, s1, t8, hc, hs, Nat.add_zero, List.length_nil, List.length_cons, ll0, ll1, ll2, ll3, ll4, Nat.le_refl, Nat.zero_le, eq_self, not_true_eq_false, not_false_eq_true, true_imp_iff, false_imp_iff, true_and, and_true, Classical.not_not, g]
    refine ⟨⟨⟨H, m, hI.1⟩, hI.2.2.2⟩, fun r μ1 q => ?_⟩
    obtain ⟨n1, ⟨hM, hr, -⟩, n3, n4⟩ := hl_next (A := (fun m => waitingAtA m 1 (xs (4 * i + 2)))) hH hI q (bad_waitingAt m 1 (xs (4 * i + 2)))
    have t9 : ∃ t, mS μ1 (x + 1492) = some (.inl (8, t)) := tX9 hM.1
    simp only [eL_law_1061, eL_law_1063, eL_law_1064, eL_law_1065, eL_law_1067, eL_law_1068, eL_law_1069, eL_law_1070, eL_law_1073, eL_law_1074, eL_law_1077, eL_law_1078, eL_law_1079, eL_law_1081, eL_law_1082, eL_law_1083, eL_law_1084, t9, hsc, qIld_s, ix1, ix2, ix3, v1, v2, v3, w1, w2, w3, c1, s1, t8, hc, hs, Nat.add_zero, List.length_nil, List.length_cons, ll0, ll1, ll2, ll3, ll4, Nat.le_refl, Nat.zero_le, eq_self, not_true_eq_false, not_false_eq_true, true_imp_iff, false_imp_iff, true_and, and_true, Classical.not_not, g]
    refine ⟨⟨hM, by rw [hr]; exact MOK_of hI.1⟩, fun r2 μ2 q2 => ?_⟩
    obtain ⟨e1, e2⟩ := q2
    rw [hr] at e1 e2
    have hM2 : MoS μ2 (x + 1492) := by rw [e2]; exact hM
    have hL2 : LaP μ2 (x + 1498) := by rw [e2]; exact n3.2.2.2
    have t92 : ∃ t, mS μ2 (x + 1492) = some (.inl (8, t)) := tX9 hM2.1
    simp only [eL_law_1087, eL_law_1089, eL_law_1090, t92, hsc, qIld_s, ix1, ix2, ix3, v1, v2, v3, w1, w2, w3, c1, s1, t8, hc, hs, Nat.add_zero, List.length_nil, List.length_cons, ll0, ll1, ll2, ll3, ll4, Nat.le_refl, Nat.zero_le, eq_self, not_true_eq_false, not_false_eq_true, true_imp_iff, false_imp_iff, true_and, and_true, Classical.not_not, g]
    refine ⟨hM2, fun r3 μ3 q3 => ?_⟩
    obtain ⟨e3, e4⟩ := q3
    have e5 : r3 = r := by rw [e3, e2, mI_mm0, n1]
    subst e5
    subst e4
    rw [← e2] at n3 n4
    by_cases g9 : r3 = 0
    · have n5 := n4 (n1.symm.trans g9)
      rw [← e1] at n5
      simp only [eL_law_1093, eL_law_1095, eL_law_1098, eL_law_1100, eL_law_1102, eL_law_1105, eL_law_1106, eL_law_1107, eL_law_1108, eL_law_1110, eL_law_1111, eL_law_1112, eL_law_1115, eL_law_1117, g9, qArr_La hL2, vp01, cl_0, n5, lg_cmp_s, hsc, qIld_s, ix1, ix2, ix3, v1, v2, v3, w1, w2, w3, c1, s1, t8, hc, hs, Nat.add_zero, List.length_nil, List.length_cons, ll0, ll1, ll2, ll3, ll4, Nat.le_refl, Nat.zero_le, eq_self, not_true_eq_false, not_false_eq_true, true_imp_iff, false_imp_iff, true_and, and_true, Classical.not_not]
      exact hk _ _ _ _ _ _ _ _ _ _ _ _ _ _ _ _ _ n3 (Nat.le_refl _) (Nat.le_refl _)
    · simp only [eL_law_1093, eL_law_1095, eL_law_1098, eL_law_1100, eL_law_1102, eL_law_1105, eL_law_1106, eL_law_1107, eL_law_1108, eL_law_1110, eL_law_1111, eL_law_1112, eL_law_1115, eL_law_1117, g9, hsc, qIld_s, ix1, ix2, ix3, v1, v2, v3, w1, w2, w3, c1, s1, t8, hc, hs, Nat.add_zero, List.length_nil, List.length_cons, ll0, ll1, ll2, ll3, ll4, Nat.le_refl, Nat.zero_le, eq_self, not_true_eq_false, not_false_eq_true, true_imp_iff, false_imp_iff, true_and, and_true, Classical.not_not]
      exact hk _ _ _ _ _ _ _ _ _ _ _ _ _ _ _ _ _ n3 (Nat.le_refl _) (Nat.le_refl _)
theorem lc_26 {sc : Nat → Option (Nat × (Nat → Int32))} {R : Option Value → qMM → Nat × Nat → Prop} {X : String → qMM → Nat × Nat → Prop} {b L x i H c s : Nat} {xs : Nat → Int32} {m : Mod} {μ : qMM} {a5 a6 a7 a8 b0 b1 b2 b3 b4 b5 b6 b7 b8 : Option Value} (hsc : sc b = some (L, xs)) (hi : 4 * i + 4 ≤ L) (hL : L ≤ 2048) (hH : H + 4000 < 2 ^ 30) (hI : InvL H μ x m) (hc : c + 1 ≤ 601024) (hs : s + 6 ≤ 7293034) (hk : LcK sc R X b x i H c s) : EX (SL_law sc R X) 1432 [some (.ref b), some (.ref x), some (.ref (x + 1492)), some (.ref (x + 1498)), some (.int (nI (4 * i))), a5, a6, a7, a8] [b0, b1, b2, b3, b4, b5, b6, b7, b8] [] μ (c, s) := by
  have v1 : vp_in (nI (4 * i + 1)) L := vp_in_nI (by omega) (by omega)
  have v2 : vp_in (nI (4 * i + 2)) L := vp_in_nI (by omega) (by omega)
  have v3 : vp_in (nI (4 * i + 3)) L := vp_in_nI (by omega) (by omega)
  have w1 : (nI (4 * i + 1)).toNatClampNeg = 4 * i + 1 := nI_clamp (by omega)
  have w2 : (nI (4 * i + 2)).toNatClampNeg = 4 * i + 2 := nI_clamp (by omega)
  have w3 : (nI (4 * i + 3)).toNatClampNeg = 4 * i + 3 := nI_clamp (by omega)
  have c1 : c ≤ 601024 := by omega
  have s1 : s ≤ 7293034 := by omega
  have t8 : ∃ t, mS μ x = some (.inl (7, t)) := tX8 hI.1.1.1
  simp only [eL_law_1432, eL_law_1433, hsc, qIld_s, ix1, ix2, ix3, v1, v2, v3, w1, w2, w3, c1, s1, t8, hc, hs, Nat.add_zero, List.length_nil, List.length_cons, ll0, ll1, ll2, ll3, ll4, Nat.le_refl, Nat.zero_le, eq_self, not_true_eq_false, not_false_eq_true, true_imp_iff, false_imp_iff, true_and, and_true, Classical.not_not]
  refine ⟨⟨H, m, hI.1⟩, fun r μ1 q => ?_⟩
  obtain ⟨n1, qQ⟩ := q H m hI.1
  obtain ⟨hM, hr, -⟩ := Aft_of hI qQ
  have t9 : ∃ t, mS μ1 (x + 1492) = some (.inl (8, t)) := tX9 hM.1
  simp only [eL_law_1436, eL_law_1438, eL_law_1439, t9, hsc, qIld_s, ix1, ix2, ix3, v1, v2, v3, w1, w2, w3, c1, s1, t8, hc, hs, Nat.add_zero, List.length_nil, List.length_cons, ll0, ll1, ll2, ll3, ll4, Nat.le_refl, Nat.zero_le, eq_self, not_true_eq_false, not_false_eq_true, true_imp_iff, false_imp_iff, true_and, and_true, Classical.not_not]
  refine ⟨⟨hM, by rw [hr]; exact MOK_of hI.1⟩, fun r2 μ2 q2 => ?_⟩
  obtain ⟨e1, e2⟩ := q2
  rw [hr] at e1 e2
  rw [n1, e1]
  simp only [eL_law_1442, eL_law_1444, eL_law_1446, eL_law_1448, eL_law_1449, eL_law_1452, eL_law_1454, eL_law_1456, eL_law_1457, eL_law_1460, eL_law_1462, eL_law_1464, eL_law_1465, eL_law_1468, eL_law_1470, dcm_s (mea_ok m.s), hsc, qIld_s, ix1, ix2, ix3, v1, v2, v3, w1, w2, w3, c1, s1, t8, hc, hs, Nat.add_zero, List.length_nil, List.length_cons, ll0, ll1, ll2, ll3, ll4, Nat.le_refl, Nat.zero_le, eq_self, not_true_eq_false, not_false_eq_true, true_imp_iff, false_imp_iff, true_and, and_true, Classical.not_not]
  rw [e2]
  exact hk _ _ _ _ _ _ _ _ _ _ _ _ _ _ _ _ _ (InvL_next hH hI qQ (Or.inl rfl)) (Nat.le_succ _) (Nat.le_add_right _ _)
theorem lc_29 {sc : Nat → Option (Nat × (Nat → Int32))} {R : Option Value → qMM → Nat × Nat → Prop} {X : String → qMM → Nat × Nat → Prop} {b L x i H c s : Nat} {xs : Nat → Int32} {m : Mod} {μ : qMM} {a5 a6 a7 a8 b0 b1 b2 b3 b4 b5 b6 b7 b8 : Option Value} (hsc : sc b = some (L, xs)) (hi : 4 * i + 4 ≤ L) (hL : L ≤ 2048) (hH : H + 4000 < 2 ^ 30) (hI : InvL H μ x m) (hc : c + 1 ≤ 601024) (hs : s + 6 ≤ 7293034) (hk : LcK sc R X b x i H c s) : EX (SL_law sc R X) 1542 [some (.ref b), some (.ref x), some (.ref (x + 1492)), some (.ref (x + 1498)), some (.int (nI (4 * i))), a5, a6, a7, a8] [b0, b1, b2, b3, b4, b5, b6, b7, b8] [] μ (c, s) := by
  have v1 : vp_in (nI (4 * i + 1)) L := vp_in_nI (by omega) (by omega)
  have v2 : vp_in (nI (4 * i + 2)) L := vp_in_nI (by omega) (by omega)
  have v3 : vp_in (nI (4 * i + 3)) L := vp_in_nI (by omega) (by omega)
  have w1 : (nI (4 * i + 1)).toNatClampNeg = 4 * i + 1 := nI_clamp (by omega)
  have w2 : (nI (4 * i + 2)).toNatClampNeg = 4 * i + 2 := nI_clamp (by omega)
  have w3 : (nI (4 * i + 3)).toNatClampNeg = 4 * i + 3 := nI_clamp (by omega)
  have c1 : c ≤ 601024 := by omega
  have s1 : s ≤ 7293034 := by omega
  have t8 : ∃ t, mS μ x = some (.inl (7, t)) := tX8 hI.1.1.1
  simp only [eL_law_1542, eL_law_1543, hsc, qIld_s, ix1, ix2, ix3, v1, v2, v3, w1, w2, w3, c1, s1, t8, hc, hs, Nat.add_zero, List.length_nil, List.length_cons, ll0, ll1, ll2, ll3, ll4, Nat.le_refl, Nat.zero_le, eq_self, not_true_eq_false, not_false_eq_true, true_imp_iff, false_imp_iff, true_and, and_true, Classical.not_not]
  refine ⟨⟨H, m, hI.1⟩, fun r μ1 q => ?_⟩
  obtain ⟨n1, qQ⟩ := q H m hI.1
  obtain ⟨hM, hr, -⟩ := Aft_of hI qQ
  have t9 : ∃ t, mS μ1 (x + 1492) = some (.inl (8, t)) := tX9 hM.1
  simp only [eL_law_1546, eL_law_1547, t9, hsc, qIld_s, ix1, ix2, ix3, v1, v2, v3, w1, w2, w3, c1, s1, t8, hc, hs, Nat.add_zero, List.length_nil, List.length_cons, ll0, ll1, ll2, ll3, ll4, Nat.le_refl, Nat.zero_le, eq_self, not_true_eq_false, not_false_eq_true, true_imp_iff, false_imp_iff, true_and, and_true, Classical.not_not]
  refine ⟨⟨hM, by rw [hr]; exact MOK_of hI.1⟩, fun r2 μ2 q2 => ?_⟩
  obtain ⟨e1, m', e3, e2⟩ := q2
  rw [hr] at e1 e3
  rw [n1, e1]
  simp only [eL_law_1550, eL_law_1553, hsc, qIld_s, ix1, ix2, ix3, v1, v2, v3, w1, w2, w3, c1, s1, t8, hc, hs, Nat.add_zero, List.length_nil, List.length_cons, ll0, ll1, ll2, ll3, ll4, Nat.le_refl, Nat.zero_le, eq_self, not_true_eq_false, not_false_eq_true, true_imp_iff, false_imp_iff, true_and, and_true, Classical.not_not]
  rw [e2]
  exact hk _ _ _ _ _ _ _ _ _ _ _ _ _ _ _ _ _ (InvL_next hH hI (sm_Q e3 qQ) (Or.inl rfl)) (Nat.le_succ _) (Nat.le_add_right _ _)
theorem lc_31 {sc : Nat → Option (Nat × (Nat → Int32))} {R : Option Value → qMM → Nat × Nat → Prop} {X : String → qMM → Nat × Nat → Prop} {b L x i H c s : Nat} {xs : Nat → Int32} {m : Mod} {μ : qMM} {a5 a6 a7 a8 b0 b1 b2 b3 b4 b5 b6 b7 b8 : Option Value} (hsc : sc b = some (L, xs)) (hi : 4 * i + 4 ≤ L) (hL : L ≤ 2048) (hH : H + 4000 < 2 ^ 30) (hI : InvL H μ x m) (hc : c + 1 ≤ 601024) (hs : s + 6 ≤ 7293034) (hk : LcK sc R X b x i H c s) : EX (SL_law sc R X) 1599 [some (.ref b), some (.ref x), some (.ref (x + 1492)), some (.ref (x + 1498)), some (.int (nI (4 * i))), a5, a6, a7, a8] [b0, b1, b2, b3, b4, b5, b6, b7, b8] [] μ (c, s) := by
  have v1 : vp_in (nI (4 * i + 1)) L := vp_in_nI (by omega) (by omega)
  have v2 : vp_in (nI (4 * i + 2)) L := vp_in_nI (by omega) (by omega)
  have v3 : vp_in (nI (4 * i + 3)) L := vp_in_nI (by omega) (by omega)
  have w1 : (nI (4 * i + 1)).toNatClampNeg = 4 * i + 1 := nI_clamp (by omega)
  have w2 : (nI (4 * i + 2)).toNatClampNeg = 4 * i + 2 := nI_clamp (by omega)
  have w3 : (nI (4 * i + 3)).toNatClampNeg = 4 * i + 3 := nI_clamp (by omega)
  have c1 : c ≤ 601024 := by omega
  have s1 : s ≤ 7293034 := by omega
  have t8 : ∃ t, mS μ x = some (.inl (7, t)) := tX8 hI.1.1.1
  simp only [eL_law_1599, eL_law_1600, hsc, qIld_s, ix1, ix2, ix3, v1, v2, v3, w1, w2, w3, c1, s1, t8, hc, hs, Nat.add_zero, List.length_nil, List.length_cons, ll0, ll1, ll2, ll3, ll4, Nat.le_refl, Nat.zero_le, eq_self, not_true_eq_false, not_false_eq_true, true_imp_iff, false_imp_iff, true_and, and_true, Classical.not_not]
  refine ⟨⟨H, m, hI.1⟩, fun r μ1 q => ?_⟩
  obtain ⟨n1, qQ⟩ := q H m hI.1
  obtain ⟨hM, hr, -⟩ := Aft_of hI qQ
  have t9 : ∃ t, mS μ1 (x + 1492) = some (.inl (8, t)) := tX9 hM.1
  simp only [eL_law_1603, eL_law_1604, t9, hsc, qIld_s, ix1, ix2, ix3, v1, v2, v3, w1, w2, w3, c1, s1, t8, hc, hs, Nat.add_zero, List.length_nil, List.length_cons, ll0, ll1, ll2, ll3, ll4, Nat.le_refl, Nat.zero_le, eq_self, not_true_eq_false, not_false_eq_true, true_imp_iff, false_imp_iff, true_and, and_true, Classical.not_not]
  refine ⟨⟨hM, by rw [hr]; exact MOK_of hI.1⟩, fun r2 μ2 q2 => ?_⟩
  obtain ⟨e1, e2⟩ := q2
  rw [hr] at e1 e2
  rw [n1, e1]
  simp only [eL_law_1607, eL_law_1608, eL_law_1611, lg_cmp_s, hsc, qIld_s, ix1, ix2, ix3, v1, v2, v3, w1, w2, w3, c1, s1, t8, hc, hs, Nat.add_zero, List.length_nil, List.length_cons, ll0, ll1, ll2, ll3, ll4, Nat.le_refl, Nat.zero_le, eq_self, not_true_eq_false, not_false_eq_true, true_imp_iff, false_imp_iff, true_and, and_true, Classical.not_not]
  rw [e2]
  exact hk _ _ _ _ _ _ _ _ _ _ _ _ _ _ _ _ _ (InvL_next hH hI (dig_Q qQ) (Or.inl rfl)) (Nat.le_succ _) (Nat.le_add_right _ _)
