/-! ===== bodies: the digest of the reference ===== -/
theorem xX9_digest_l1 (o p n : Nat) (ν : qMM) (m : Mod) (g : Int64) (h0 : MoS ν o) (hp : p < 500) (ht : ∃ t, mS ν o = some (Sum.inl (8, t))) (R : Option Value → qMM → Nat × Nat → Prop) (X : String → qMM → Nat × Nat → Prop) (hR : ∀ a, EX (SX9_digest R X) 64 [some (.ref o), some (.int (nI p)), a] [] [] (mm ν o (m.wh (dPk m.s p g 8))) (0, 0)) : ∀ c w : Nat, w + c = 8 → EX (SX9_digest R X) 42 [some (.ref o), some (.int (nI p)), some (.int (nI w))] [] [] (mm ν o (m.wh (dPk m.s p g w))) (0, 0) := by
  obtain ⟨h1, h2, h3⟩ := id h0
  intro c
  induction c with
  | zero =>
    intro w hw
    have : w = 8 := by omega
    subst this
    rw [eX9_digest_42]
    simp only [eX9_digest_43, eX9_digest_45]
    exact ⟨fun _ => hR _, fun h => absurd (by decide) h⟩
  | succ c ih =>
    intro w hw
    have ih := ih (w + 1) (by omega)
    unfold dPk tolN at ih
    rw [eX9_digest_42]
    simp only [eX9_digest_43, eX9_digest_45, eX9_digest_48, eX9_digest_49, eX9_digest_50, eX9_digest_51, eX9_digest_52, eX9_digest_55, eX9_digest_58, eX9_digest_61, h0, ht, tX9, PX9_told, QX9_told, PX9_mix, QX9_mix, qa2, forall_eq, nIC (show p < 1000000 by omega), nIC (show w < 1000000 by omega), nI_1, true_and, Swsf, Swpf, Swdf, Swtf, Swgf, Swhf, Swps, Swds, Swts, Swgs, Swhs, Swdp, Swtp, Swgp, Swhp, Swtd, Swgd, Swhd, Swgt, Swht, Swhg, Mff, Mfs, Mfp, Mfd, Mft, Mfg, Mfh, Wf, Msf, Mss, Msp, Msd, Mst, Msg, Msh, Ws, Mpf, Mps, Mpp, Mpd, Mpt, Mpg, Mph, Wp, Mdf, Mds, Mdp, Mdd, Mdt, Mdg, Mdh, Wd, Mtf, Mts, Mtp, Mtd, Mtt, Mtg, Mth, Wt, Mgf, Mgs, Mgp, Mgd, Mgt, Mgg, Mgh, Wg, Mhf, Mhs, Mhp, Mhd, Mht, Mhg, Mhh, Wh, mS_mm, mN_mm, mI_mm0, mI_mm1, mI_mm2, mI_mm3, mI_mm4, mI_mm5, mJ_mm, mm_mm, rd_mm, wR_mm0, wR_mm1, wR_mm2, wR_mm3, wR_mm4, wR_mm5, wL_mm, MoS_mm, obX9_mm, iA_mm, List.length_nil, List.length_cons, ll0, ll1, ll2, ll3, ll4, Nat.le_refl, and_true]
    exact ⟨fun h => absurd h (nI_ge (b := 8) (by omega) (by decide)), fun _ => ⟨⟨p, w, hp, by omega, rfl, rfl⟩, ih⟩⟩
theorem xX9_digest_l2 (o n : Nat) (ν : qMM) (m : Mod) (g : Int64) (h0 : MoS ν o) (hn : n ≤ 500) (h9 : m.s 9 = nI n) (ht : ∃ t, mS ν o = some (Sum.inl (8, t))) (R : Option Value → qMM → Nat × Nat → Prop) (X : String → qMM → Nat × Nat → Prop) (hR : ∀ a b, EX (SX9_digest R X) 70 [some (.ref o), a, b] [] [] (mm ν o (m.wh (dPs m.s g n))) (0, 0)) : ∀ c p : Nat, p + c = n → ∀ a, EX (SX9_digest R X) 29 [some (.ref o), some (.int (nI p)), a] [] [] (mm ν o (m.wh (dPs m.s g p))) (0, 0) := by
  obtain ⟨h1, h2, h3⟩ := id h0
  intro c
  induction c with
  | zero =>
    intro p hp a
    have : p = n := by omega
    subst this
    rw [eX9_digest_29]
    simp only [eX9_digest_30, eX9_digest_31, eX9_digest_34, eX9_digest_36, eX9_digest_37, gX9_0, h1, h2, qA5514, h9, true_and, cl_0, vl_0, cl_1, vl_1, cl_2, vl_2, cl_3, vl_3, cl_4, vl_4, cl_5, vl_5, cl_6, vl_6, cl_7, vl_7, cl_8, vl_8, cl_9, vl_9, cl_10, vl_10, cl_11, vl_11, cl_12, vl_12, cl_13, vl_13, cl_14, vl_14, cl_15, vl_15, cl_16, vl_16, cl_17, vl_17, cl_18, vl_18, cl_19, vl_19, cl_20, vl_20, cl_21, vl_21, cl_22, vl_22, cl_23, vl_23, cl_24, vl_24, cl_25, vl_25, cl_26, vl_26, cl_27, vl_27, cl_28, vl_28, cl_29, vl_29, cl_30, vl_30, cl_31, vl_31, cl_32, vl_32, cl_33, vl_33, cl_34, vl_34, cl_35, vl_35, cl_36, vl_36, cl_37, vl_37, cl_38, vl_38, cl_39, vl_39, cl_40, vl_40, cl_41, vl_41, cl_42, vl_42, cl_43, vl_43, cl_44, vl_44, cl_45, vl_45, cl_46, vl_46, cl_47, vl_47, cl_48, vl_48, cl_49, vl_49, cl_50, vl_50, cl_51, vl_51, cl_52, vl_52, cl_53, vl_53, cl_54, vl_54, cl_55, vl_55, cl_56, vl_56, cl_57, vl_57, cl_58, vl_58, cl_59, vl_59, cl_60, vl_60, cl_61, vl_61, cl_62, vl_62, cl_63, vl_63, cl_64, vl_64, cl_65, vl_65, cl_66, vl_66, Swsf, Swpf, Swdf, Swtf, Swgf, Swhf, Swps, Swds, Swts, Swgs, Swhs, Swdp, Swtp, Swgp, Swhp, Swtd, Swgd, Swhd, Swgt, Swht, Swhg, Mff, Mfs, Mfp, Mfd, Mft, Mfg, Mfh, Wf, Msf, Mss, Msp, Msd, Mst, Msg, Msh, Ws, Mpf, Mps, Mpp, Mpd, Mpt, Mpg, Mph, Wp, Mdf, Mds, Mdp, Mdd, Mdt, Mdg, Mdh, Wd, Mtf, Mts, Mtp, Mtd, Mtt, Mtg, Mth, Wt, Mgf, Mgs, Mgp, Mgd, Mgt, Mgg, Mgh, Wg, Mhf, Mhs, Mhp, Mhd, Mht, Mhg, Mhh, Wh, mS_mm, mN_mm, mI_mm0, mI_mm1, mI_mm2, mI_mm3, mI_mm4, mI_mm5, mJ_mm, mm_mm, rd_mm, wR_mm0, wR_mm1, wR_mm2, wR_mm3, wR_mm4, wR_mm5, wL_mm, MoS_mm, obX9_mm, iA_mm]
    exact ⟨fun _ => hR _ _, fun h => absurd (Int32.le_refl _) h⟩
  | succ c ih =>
    intro p hp a
    have ih := ih (p + 1) (by omega)
    unfold dPs at ih
    rw [eX9_digest_29]
    simp only [eX9_digest_30, eX9_digest_31, eX9_digest_34, eX9_digest_36, eX9_digest_37, eX9_digest_40, eX9_digest_41, gX9_0, h1, h2, qA5514, h9, true_and, cl_0, vl_0, cl_1, vl_1, cl_2, vl_2, cl_3, vl_3, cl_4, vl_4, cl_5, vl_5, cl_6, vl_6, cl_7, vl_7, cl_8, vl_8, cl_9, vl_9, cl_10, vl_10, cl_11, vl_11, cl_12, vl_12, cl_13, vl_13, cl_14, vl_14, cl_15, vl_15, cl_16, vl_16, cl_17, vl_17, cl_18, vl_18, cl_19, vl_19, cl_20, vl_20, cl_21, vl_21, cl_22, vl_22, cl_23, vl_23, cl_24, vl_24, cl_25, vl_25, cl_26, vl_26, cl_27, vl_27, cl_28, vl_28, cl_29, vl_29, cl_30, vl_30, cl_31, vl_31, cl_32, vl_32, cl_33, vl_33, cl_34, vl_34, cl_35, vl_35, cl_36, vl_36, cl_37, vl_37, cl_38, vl_38, cl_39, vl_39, cl_40, vl_40, cl_41, vl_41, cl_42, vl_42, cl_43, vl_43, cl_44, vl_44, cl_45, vl_45, cl_46, vl_46, cl_47, vl_47, cl_48, vl_48, cl_49, vl_49, cl_50, vl_50, cl_51, vl_51, cl_52, vl_52, cl_53, vl_53, cl_54, vl_54, cl_55, vl_55, cl_56, vl_56, cl_57, vl_57, cl_58, vl_58, cl_59, vl_59, cl_60, vl_60, cl_61, vl_61, cl_62, vl_62, cl_63, vl_63, cl_64, vl_64, cl_65, vl_65, cl_66, vl_66, Swsf, Swpf, Swdf, Swtf, Swgf, Swhf, Swps, Swds, Swts, Swgs, Swhs, Swdp, Swtp, Swgp, Swhp, Swtd, Swgd, Swhd, Swgt, Swht, Swhg, Mff, Mfs, Mfp, Mfd, Mft, Mfg, Mfh, Wf, Msf, Mss, Msp, Msd, Mst, Msg, Msh, Ws, Mpf, Mps, Mpp, Mpd, Mpt, Mpg, Mph, Wp, Mdf, Mds, Mdp, Mdd, Mdt, Mdg, Mdh, Wd, Mtf, Mts, Mtp, Mtd, Mtt, Mtg, Mth, Wt, Mgf, Mgs, Mgp, Mgd, Mgt, Mgg, Mgh, Wg, Mhf, Mhs, Mhp, Mhd, Mht, Mhg, Mhh, Wh, mS_mm, mN_mm, mI_mm0, mI_mm1, mI_mm2, mI_mm3, mI_mm4, mI_mm5, mJ_mm, mm_mm, rd_mm, wR_mm0, wR_mm1, wR_mm2, wR_mm3, wR_mm4, wR_mm5, wL_mm, MoS_mm, obX9_mm, iA_mm]
    refine ⟨fun h => absurd h (nI_ge (by omega) (by omega)), fun _ => ?_⟩
    refine xX9_digest_l1 o p n ν m (dPs m.s g p) h0 (by omega) ht R X (fun a => ?_) 8 0 rfl
    simp only [eX9_digest_64, eX9_digest_67, nI_1]
    exact ih _
theorem xX9_digest_l3 (o x : Nat) (ν : qMM) (m : Mod) (g : Int64) (h0 : MoS ν o) (ht : ∃ t, mS ν o = some (Sum.inl (8, t))) (R : Option Value → qMM → Nat × Nat → Prop) (X : String → qMM → Nat × Nat → Prop) (hR : ∀ a, EX (SX9_digest R X) 177 [some (.ref o), some (.int (nI x)), a] [] [] (mm ν o (m.wh (dRc m.s (nI x) g 6))) (0, 0)) : ∀ c w : Nat, w + c = 6 → EX (SX9_digest R X) 155 [some (.ref o), some (.int (nI x)), some (.int (nI w))] [] [] (mm ν o (m.wh (dRc m.s (nI x) g w))) (0, 0) := by
  obtain ⟨h1, h2, h3⟩ := id h0
  intro c
  induction c with
  | zero =>
    intro w hw
    have : w = 6 := by omega
    subst this
    rw [eX9_digest_155]
    simp only [eX9_digest_156, eX9_digest_158]
    exact ⟨fun _ => hR _, fun h => absurd (by decide) h⟩
  | succ c ih =>
    intro w hw
    have ih := ih (w + 1) (by omega)
    unfold dRc at ih
    rw [eX9_digest_155]
    simp only [eX9_digest_156, eX9_digest_158, eX9_digest_161, eX9_digest_162, eX9_digest_163, eX9_digest_164, eX9_digest_165, eX9_digest_168, eX9_digest_171, eX9_digest_174, h0, ht, tX9, PX9_recordOf, QX9_recordOf, PX9_mix, QX9_mix, qa2, forall_eq, nIC (show w < 1000000 by omega), nI_1, true_and, Swsf, Swpf, Swdf, Swtf, Swgf, Swhf, Swps, Swds, Swts, Swgs, Swhs, Swdp, Swtp, Swgp, Swhp, Swtd, Swgd, Swhd, Swgt, Swht, Swhg, Mff, Mfs, Mfp, Mfd, Mft, Mfg, Mfh, Wf, Msf, Mss, Msp, Msd, Mst, Msg, Msh, Ws, Mpf, Mps, Mpp, Mpd, Mpt, Mpg, Mph, Wp, Mdf, Mds, Mdp, Mdd, Mdt, Mdg, Mdh, Wd, Mtf, Mts, Mtp, Mtd, Mtt, Mtg, Mth, Wt, Mgf, Mgs, Mgp, Mgd, Mgt, Mgg, Mgh, Wg, Mhf, Mhs, Mhp, Mhd, Mht, Mhg, Mhh, Wh, mS_mm, mN_mm, mI_mm0, mI_mm1, mI_mm2, mI_mm3, mI_mm4, mI_mm5, mJ_mm, mm_mm, rd_mm, wR_mm0, wR_mm1, wR_mm2, wR_mm3, wR_mm4, wR_mm5, wL_mm, MoS_mm, obX9_mm, iA_mm, List.length_nil, List.length_cons, ll0, ll1, ll2, ll3, ll4, Nat.le_refl, and_true]
    exact ⟨fun h => absurd h (nI_ge (b := 6) (by omega) (by decide)), fun _ => ⟨⟨w, by omega, rfl⟩, ih⟩⟩
theorem xX9_digest_l4 (o x h' : Nat) (ν : qMM) (m : Mod) (g : Int64) (h0 : MoS ν o) (hh : h' < 2 ^ 30) (h55 : m.s 55 = nI h') (ht : ∃ t, mS ν o = some (Sum.inl (8, t))) (R : Option Value → qMM → Nat × Nat → Prop) (X : String → qMM → Nat × Nat → Prop) (n : Nat) (hn : x + n = h' + 1) (hR : ∀ a b, EX (SX9_digest R X) 183 [some (.ref o), a, b] [] [] (mm ν o (m.wh (dRs m.s x g n))) (0, 0)) : ∀ c k : Nat, k + c = n → ∀ a, EX (SX9_digest R X) 142 [some (.ref o), some (.int (nI (x + k))), a] [] [] (mm ν o (m.wh (dRs m.s x g k))) (0, 0) := by
  obtain ⟨h1, h2, h3⟩ := id h0
  intro c
  induction c with
  | zero =>
    intro k hk a
    have : k = n := by omega
    subst this
    rw [eX9_digest_142]
    simp only [eX9_digest_143, eX9_digest_144, eX9_digest_147, eX9_digest_149, eX9_digest_150, gX9_0, h1, h2, qA5514, h55, true_and, cl_0, vl_0, cl_1, vl_1, cl_2, vl_2, cl_3, vl_3, cl_4, vl_4, cl_5, vl_5, cl_6, vl_6, cl_7, vl_7, cl_8, vl_8, cl_9, vl_9, cl_10, vl_10, cl_11, vl_11, cl_12, vl_12, cl_13, vl_13, cl_14, vl_14, cl_15, vl_15, cl_16, vl_16, cl_17, vl_17, cl_18, vl_18, cl_19, vl_19, cl_20, vl_20, cl_21, vl_21, cl_22, vl_22, cl_23, vl_23, cl_24, vl_24, cl_25, vl_25, cl_26, vl_26, cl_27, vl_27, cl_28, vl_28, cl_29, vl_29, cl_30, vl_30, cl_31, vl_31, cl_32, vl_32, cl_33, vl_33, cl_34, vl_34, cl_35, vl_35, cl_36, vl_36, cl_37, vl_37, cl_38, vl_38, cl_39, vl_39, cl_40, vl_40, cl_41, vl_41, cl_42, vl_42, cl_43, vl_43, cl_44, vl_44, cl_45, vl_45, cl_46, vl_46, cl_47, vl_47, cl_48, vl_48, cl_49, vl_49, cl_50, vl_50, cl_51, vl_51, cl_52, vl_52, cl_53, vl_53, cl_54, vl_54, cl_55, vl_55, cl_56, vl_56, cl_57, vl_57, cl_58, vl_58, cl_59, vl_59, cl_60, vl_60, cl_61, vl_61, cl_62, vl_62, cl_63, vl_63, cl_64, vl_64, cl_65, vl_65, cl_66, vl_66, Swsf, Swpf, Swdf, Swtf, Swgf, Swhf, Swps, Swds, Swts, Swgs, Swhs, Swdp, Swtp, Swgp, Swhp, Swtd, Swgd, Swhd, Swgt, Swht, Swhg, Mff, Mfs, Mfp, Mfd, Mft, Mfg, Mfh, Wf, Msf, Mss, Msp, Msd, Mst, Msg, Msh, Ws, Mpf, Mps, Mpp, Mpd, Mpt, Mpg, Mph, Wp, Mdf, Mds, Mdp, Mdd, Mdt, Mdg, Mdh, Wd, Mtf, Mts, Mtp, Mtd, Mtt, Mtg, Mth, Wt, Mgf, Mgs, Mgp, Mgd, Mgt, Mgg, Mgh, Wg, Mhf, Mhs, Mhp, Mhd, Mht, Mhg, Mhh, Wh, mS_mm, mN_mm, mI_mm0, mI_mm1, mI_mm2, mI_mm3, mI_mm4, mI_mm5, mJ_mm, mm_mm, rd_mm, wR_mm0, wR_mm1, wR_mm2, wR_mm3, wR_mm4, wR_mm5, wL_mm, MoS_mm, obX9_mm, iA_mm]
    exact ⟨fun _ => hR _ _, fun h => absurd ((nI_ltI (by omega) (by omega)).mpr (by omega)) h⟩
  | succ c ih =>
    intro k hk a
    have ih := ih (k + 1) (by omega)
    unfold dRs at ih
    rw [eX9_digest_142]
    simp only [eX9_digest_143, eX9_digest_144, eX9_digest_147, eX9_digest_149, eX9_digest_150, eX9_digest_153, eX9_digest_154, gX9_0, h1, h2, qA5514, h55, true_and, cl_0, vl_0, cl_1, vl_1, cl_2, vl_2, cl_3, vl_3, cl_4, vl_4, cl_5, vl_5, cl_6, vl_6, cl_7, vl_7, cl_8, vl_8, cl_9, vl_9, cl_10, vl_10, cl_11, vl_11, cl_12, vl_12, cl_13, vl_13, cl_14, vl_14, cl_15, vl_15, cl_16, vl_16, cl_17, vl_17, cl_18, vl_18, cl_19, vl_19, cl_20, vl_20, cl_21, vl_21, cl_22, vl_22, cl_23, vl_23, cl_24, vl_24, cl_25, vl_25, cl_26, vl_26, cl_27, vl_27, cl_28, vl_28, cl_29, vl_29, cl_30, vl_30, cl_31, vl_31, cl_32, vl_32, cl_33, vl_33, cl_34, vl_34, cl_35, vl_35, cl_36, vl_36, cl_37, vl_37, cl_38, vl_38, cl_39, vl_39, cl_40, vl_40, cl_41, vl_41, cl_42, vl_42, cl_43, vl_43, cl_44, vl_44, cl_45, vl_45, cl_46, vl_46, cl_47, vl_47, cl_48, vl_48, cl_49, vl_49, cl_50, vl_50, cl_51, vl_51, cl_52, vl_52, cl_53, vl_53, cl_54, vl_54, cl_55, vl_55, cl_56, vl_56, cl_57, vl_57, cl_58, vl_58, cl_59, vl_59, cl_60, vl_60, cl_61, vl_61, cl_62, vl_62, cl_63, vl_63, cl_64, vl_64, cl_65, vl_65, cl_66, vl_66, Swsf, Swpf, Swdf, Swtf, Swgf, Swhf, Swps, Swds, Swts, Swgs, Swhs, Swdp, Swtp, Swgp, Swhp, Swtd, Swgd, Swhd, Swgt, Swht, Swhg, Mff, Mfs, Mfp, Mfd, Mft, Mfg, Mfh, Wf, Msf, Mss, Msp, Msd, Mst, Msg, Msh, Ws, Mpf, Mps, Mpp, Mpd, Mpt, Mpg, Mph, Wp, Mdf, Mds, Mdp, Mdd, Mdt, Mdg, Mdh, Wd, Mtf, Mts, Mtp, Mtd, Mtt, Mtg, Mth, Wt, Mgf, Mgs, Mgp, Mgd, Mgt, Mgg, Mgh, Wg, Mhf, Mhs, Mhp, Mhd, Mht, Mhg, Mhh, Wh, mS_mm, mN_mm, mI_mm0, mI_mm1, mI_mm2, mI_mm3, mI_mm4, mI_mm5, mJ_mm, mm_mm, rd_mm, wR_mm0, wR_mm1, wR_mm2, wR_mm3, wR_mm4, wR_mm5, wL_mm, MoS_mm, obX9_mm, iA_mm]
    refine ⟨fun h => absurd ((nI_ltI (by omega) (by omega)).mp h) (by omega), fun _ => ?_⟩
    refine xX9_digest_l3 o (x + k) ν m (dRs m.s x g k) h0 ht R X (fun a => ?_) 6 0 rfl
    simp only [eX9_digest_177, eX9_digest_180, nI_1]
    exact ih _
theorem xX9_digest_l5 (o : Nat) (ν : qMM) (m : Mod) (g : Int64) (h0 : MoS ν o) (ht : ∃ t, mS ν o = some (Sum.inl (8, t))) (R : Option Value → qMM → Nat × Nat → Prop) (X : String → qMM → Nat × Nat → Prop) (b : Option Value) (hR : ∀ a, EX (SX9_digest R X) 206 [some (.ref o), a, b] [] [] (mm ν o (m.wh (dCo m.s g 8))) (0, 0)) : ∀ c w : Nat, w + c = 8 → EX (SX9_digest R X) 185 [some (.ref o), some (.int (nI w)), b] [] [] (mm ν o (m.wh (dCo m.s g w))) (0, 0) := by
  obtain ⟨h1, h2, h3⟩ := id h0
  intro c
  induction c with
  | zero =>
    intro w hw
    have : w = 8 := by omega
    subst this
    rw [eX9_digest_185]
    simp only [eX9_digest_186, eX9_digest_188]
    exact ⟨fun _ => hR _, fun h => absurd (by decide) h⟩
  | succ c ih =>
    intro w hw
    have ih := ih (w + 1) (by omega)
    unfold dCo couF at ih
    rw [eX9_digest_185]
    simp only [eX9_digest_186, eX9_digest_188, eX9_digest_191, eX9_digest_192, eX9_digest_193, eX9_digest_194, eX9_digest_197, eX9_digest_200, eX9_digest_203, h0, ht, tX9, PX9_counted, QX9_counted, PX9_mix, QX9_mix, qa2, forall_eq, nI_1, true_and, Swsf, Swpf, Swdf, Swtf, Swgf, Swhf, Swps, Swds, Swts, Swgs, Swhs, Swdp, Swtp, Swgp, Swhp, Swtd, Swgd, Swhd, Swgt, Swht, Swhg, Mff, Mfs, Mfp, Mfd, Mft, Mfg, Mfh, Wf, Msf, Mss, Msp, Msd, Mst, Msg, Msh, Ws, Mpf, Mps, Mpp, Mpd, Mpt, Mpg, Mph, Wp, Mdf, Mds, Mdp, Mdd, Mdt, Mdg, Mdh, Wd, Mtf, Mts, Mtp, Mtd, Mtt, Mtg, Mth, Wt, Mgf, Mgs, Mgp, Mgd, Mgt, Mgg, Mgh, Wg, Mhf, Mhs, Mhp, Mhd, Mht, Mhg, Mhh, Wh, mS_mm, mN_mm, mI_mm0, mI_mm1, mI_mm2, mI_mm3, mI_mm4, mI_mm5, mJ_mm, mm_mm, rd_mm, wR_mm0, wR_mm1, wR_mm2, wR_mm3, wR_mm4, wR_mm5, wL_mm, MoS_mm, obX9_mm, iA_mm, List.length_nil, List.length_cons, ll0, ll1, ll2, ll3, ll4, Nat.le_refl, and_true]
    exact ⟨fun h => absurd h (nI_ge (b := 8) (by omega) (by decide)), fun _ => ⟨⟨w, by omega, rfl⟩, ih⟩⟩
theorem xX9_digest (o : Nat) (μ : qMM) (ht : ∃ t, mS μ o = some (.inl (8, t))) (hp : PX9_digest o μ) : EX (SX9_digest (rtj 0 0 (QX9_digest o μ)) (fun _ _ _ => False)) 0 [some (.ref o), none, none] [] [] μ (0, 0) := by
  obtain ⟨ν, m, rfl⟩ := mm_ex μ o
  obtain ⟨h0, hpst, ⟨H, hH, iv⟩, tn, htn, htl⟩ := hp
  obtain ⟨h1, h2, h3, h4, h5, h6⟩ := id h0
  have ht : ∃ t, mS ν o = some (Sum.inl (8, t)) := ht
  simp only [Swsf, Swpf, Swdf, Swtf, Swgf, Swhf, Swps, Swds, Swts, Swgs, Swhs, Swdp, Swtp, Swgp, Swhp, Swtd, Swgd, Swhd, Swgt, Swht, Swhg, Mff, Mfs, Mfp, Mfd, Mft, Mfg, Mfh, Wf, Msf, Mss, Msp, Msd, Mst, Msg, Msh, Ws, Mpf, Mps, Mpp, Mpd, Mpt, Mpg, Mph, Wp, Mdf, Mds, Mdp, Mdd, Mdt, Mdg, Mdh, Wd, Mtf, Mts, Mtp, Mtd, Mtt, Mtg, Mth, Wt, Mgf, Mgs, Mgp, Mgd, Mgt, Mgg, Mgh, Wg, Mhf, Mhs, Mhp, Mhd, Mht, Mhg, Mhh, Wh, mS_mm, mN_mm, mI_mm0, mI_mm1, mI_mm2, mI_mm3, mI_mm4, mI_mm5, mJ_mm, mm_mm, rd_mm, wR_mm0, wR_mm1, wR_mm2, wR_mm3, wR_mm4, wR_mm5, wL_mm, MoS_mm, obX9_mm, iA_mm] at iv htl hpst h0 h1 h2 h3 h4 h5 h6
  obtain ⟨hH0, ⟨n, hn, h9, hk, f, hf, h10, hi⟩, ⟨b, hb, hb1, hb2⟩, hc, hiv⟩ := id iv
  have tail : ∀ (g : Int64) (a b : Option Value), dCo m.s (dRs m.s (digX m.s) g (digC m.s)) 8 = dCo m.s (dRs m.s (digX m.s) g (digC m.s)) 8 → (mixF (mixF (mixF (dCo m.s (dRs m.s (digX m.s) g (digC m.s)) 8) (6 * m.s 9 - m.s 64)) (m.s 65)) (m.f 3) = digF m) → EX (SX9_digest (rtj 0 0 (QX9_digest o (mm ν o m))) (fun _ _ _ => False)) 183 [some (.ref o), a, b] [] [] (mm ν o ((m.wf (upd m.f 6 0)).wh (dRs m.s (digX m.s) g (digC m.s)))) (0, 0) := by
    intro g a b _ hg
    simp only [eX9_digest_183, eX9_digest_184]
    refine xX9_digest_l5 o ν (m.wf (upd m.f 6 0)) (dRs m.s (digX m.s) g (digC m.s)) h0 ht _ _ b (fun a => ?_) 8 0 rfl
    have e3 : upd m.f 6 0 3 = m.f 3 := upd_n (by decide)
    simp only [eX9_digest_206, eX9_digest_207, eX9_digest_208, eX9_digest_211, eX9_digest_214, eX9_digest_215, eX9_digest_216, eX9_digest_219, eX9_digest_221, eX9_digest_222, eX9_digest_225, eX9_digest_226, eX9_digest_227, eX9_digest_230, eX9_digest_233, eX9_digest_234, eX9_digest_237, gX9_0, gX9_3, gX9_12, PX9_spared, QX9_spared, PX9_mix, QX9_mix, e3, hg, rtv_at, rti_at, rtj_at, rtd_at, rta_at, qOk, qOkR, h0, h1, h2, h3, h4, h5, h6, ht, tX9, obX9_wR, MoS_wR, iA_wR, qA5514, qa2, forall_eq, PX9_in, QX9_in, PX9_fails, QX9_fails, PX9_tells, QX9_tells, PX9_hold, QX9_hold, ends_P, ends_Q, hpst, pst_s, pst_d, pst_p, pst_t, pst_g, pst_h, PX9_goesOn, QX9_goesOn, wI_def, Int32.zero_add, true_and, cl_0, vl_0, cl_1, vl_1, cl_2, vl_2, cl_3, vl_3, cl_4, vl_4, cl_5, vl_5, cl_6, vl_6, cl_7, vl_7, cl_8, vl_8, cl_9, vl_9, cl_10, vl_10, cl_11, vl_11, cl_12, vl_12, cl_13, vl_13, cl_14, vl_14, cl_15, vl_15, cl_16, vl_16, cl_17, vl_17, cl_18, vl_18, cl_19, vl_19, cl_20, vl_20, cl_21, vl_21, cl_22, vl_22, cl_23, vl_23, cl_24, vl_24, cl_25, vl_25, cl_26, vl_26, cl_27, vl_27, cl_28, vl_28, cl_29, vl_29, cl_30, vl_30, cl_31, vl_31, cl_32, vl_32, cl_33, vl_33, cl_34, vl_34, cl_35, vl_35, cl_36, vl_36, cl_37, vl_37, cl_38, vl_38, cl_39, vl_39, cl_40, vl_40, cl_41, vl_41, cl_42, vl_42, cl_43, vl_43, cl_44, vl_44, cl_45, vl_45, cl_46, vl_46, cl_47, vl_47, cl_48, vl_48, cl_49, vl_49, cl_50, vl_50, cl_51, vl_51, cl_52, vl_52, cl_53, vl_53, cl_54, vl_54, cl_55, vl_55, cl_56, vl_56, cl_57, vl_57, cl_58, vl_58, cl_59, vl_59, cl_60, vl_60, cl_61, vl_61, cl_62, vl_62, cl_63, vl_63, cl_64, vl_64, cl_65, vl_65, cl_66, vl_66, Swsf, Swpf, Swdf, Swtf, Swgf, Swhf, Swps, Swds, Swts, Swgs, Swhs, Swdp, Swtp, Swgp, Swhp, Swtd, Swgd, Swhd, Swgt, Swht, Swhg, Mff, Mfs, Mfp, Mfd, Mft, Mfg, Mfh, Wf, Msf, Mss, Msp, Msd, Mst, Msg, Msh, Ws, Mpf, Mps, Mpp, Mpd, Mpt, Mpg, Mph, Wp, Mdf, Mds, Mdp, Mdd, Mdt, Mdg, Mdh, Wd, Mtf, Mts, Mtp, Mtd, Mtt, Mtg, Mth, Wt, Mgf, Mgs, Mgp, Mgd, Mgt, Mgg, Mgh, Wg, Mhf, Mhs, Mhp, Mhd, Mht, Mhg, Mhh, Wh, mS_mm, mN_mm, mI_mm0, mI_mm1, mI_mm2, mI_mm3, mI_mm4, mI_mm5, mJ_mm, mm_mm, rd_mm, wR_mm0, wR_mm1, wR_mm2, wR_mm3, wR_mm4, wR_mm5, wL_mm, MoS_mm, obX9_mm, iA_mm, List.length_nil, List.length_cons, ll0, ll1, ll2, ll3, ll4, Nat.le_refl, and_true]
    simp only [QX9_digest, telM, Swsf, Swpf, Swdf, Swtf, Swgf, Swhf, Swps, Swds, Swts, Swgs, Swhs, Swdp, Swtp, Swgp, Swhp, Swtd, Swgd, Swhd, Swgt, Swht, Swhg, Mff, Mfs, Mfp, Mfd, Mft, Mfg, Mfh, Wf, Msf, Mss, Msp, Msd, Mst, Msg, Msh, Ws, Mpf, Mps, Mpp, Mpd, Mpt, Mpg, Mph, Wp, Mdf, Mds, Mdp, Mdd, Mdt, Mdg, Mdh, Wd, Mtf, Mts, Mtp, Mtd, Mtt, Mtg, Mth, Wt, Mgf, Mgs, Mgp, Mgd, Mgt, Mgg, Mgh, Wg, Mhf, Mhs, Mhp, Mhd, Mht, Mhg, Mhh, Wh, mS_mm, mN_mm, mI_mm0, mI_mm1, mI_mm2, mI_mm3, mI_mm4, mI_mm5, mJ_mm, mm_mm, rd_mm, wR_mm0, wR_mm1, wR_mm2, wR_mm3, wR_mm4, wR_mm5, wL_mm, MoS_mm, obX9_mm, iA_mm, one0, eq_self, not_true_eq_false, not_false_eq_true, true_imp_iff, false_imp_iff, true_and, and_true, Classical.not_not]
  have recs : ∀ (g : Int64) (a b : Option Value), (mixF (mixF (mixF (dCo m.s (dRs m.s (digX m.s) g (digC m.s)) 8) (6 * m.s 9 - m.s 64)) (m.s 65)) (m.f 3) = digF m) → EX (SX9_digest (rtj 0 0 (QX9_digest o (mm ν o m))) (fun _ _ _ => False)) 115 [some (.ref o), a, b] [] [] (mm ν o ((m.wf (upd m.f 6 0)).wh g)) (0, 0) := by
    intro g a b hg
    have key : ∀ b, EX (SX9_digest (rtj 0 0 (QX9_digest o (mm ν o m))) (fun _ _ _ => False)) 142 [some (.ref o), some (.int (nI (digX m.s))), b] [] [] (mm ν o ((m.wf (upd m.f 6 0)).wh g)) (0, 0) := by
      intro b
      rcases hc with ⟨q, -⟩ | ⟨h, hh, q, -⟩
      · have eX : digX m.s = 0 := by unfold digX; rw [q, if_neg (by decide)]
        have eC : digC m.s = 0 := by unfold digC; rw [q, if_pos rfl]
        have := tail g (some (.int (nI 0))) b rfl hg
        rw [eX, eC] at this
        rw [eX, eX9_digest_142]
        simp only [eX9_digest_143, eX9_digest_144, eX9_digest_147, eX9_digest_149, eX9_digest_150, gX9_0, q, h0, h1, h2, h3, h4, h5, h6, ht, tX9, obX9_wR, MoS_wR, iA_wR, qA5514, qa2, forall_eq, PX9_in, QX9_in, PX9_fails, QX9_fails, PX9_tells, QX9_tells, PX9_hold, QX9_hold, ends_P, ends_Q, hpst, pst_s, pst_d, pst_p, pst_t, pst_g, pst_h, PX9_goesOn, QX9_goesOn, wI_def, Int32.zero_add, true_and, cl_0, vl_0, cl_1, vl_1, cl_2, vl_2, cl_3, vl_3, cl_4, vl_4, cl_5, vl_5, cl_6, vl_6, cl_7, vl_7, cl_8, vl_8, cl_9, vl_9, cl_10, vl_10, cl_11, vl_11, cl_12, vl_12, cl_13, vl_13, cl_14, vl_14, cl_15, vl_15, cl_16, vl_16, cl_17, vl_17, cl_18, vl_18, cl_19, vl_19, cl_20, vl_20, cl_21, vl_21, cl_22, vl_22, cl_23, vl_23, cl_24, vl_24, cl_25, vl_25, cl_26, vl_26, cl_27, vl_27, cl_28, vl_28, cl_29, vl_29, cl_30, vl_30, cl_31, vl_31, cl_32, vl_32, cl_33, vl_33, cl_34, vl_34, cl_35, vl_35, cl_36, vl_36, cl_37, vl_37, cl_38, vl_38, cl_39, vl_39, cl_40, vl_40, cl_41, vl_41, cl_42, vl_42, cl_43, vl_43, cl_44, vl_44, cl_45, vl_45, cl_46, vl_46, cl_47, vl_47, cl_48, vl_48, cl_49, vl_49, cl_50, vl_50, cl_51, vl_51, cl_52, vl_52, cl_53, vl_53, cl_54, vl_54, cl_55, vl_55, cl_56, vl_56, cl_57, vl_57, cl_58, vl_58, cl_59, vl_59, cl_60, vl_60, cl_61, vl_61, cl_62, vl_62, cl_63, vl_63, cl_64, vl_64, cl_65, vl_65, cl_66, vl_66, Swsf, Swpf, Swdf, Swtf, Swgf, Swhf, Swps, Swds, Swts, Swgs, Swhs, Swdp, Swtp, Swgp, Swhp, Swtd, Swgd, Swhd, Swgt, Swht, Swhg, Mff, Mfs, Mfp, Mfd, Mft, Mfg, Mfh, Wf, Msf, Mss, Msp, Msd, Mst, Msg, Msh, Ws, Mpf, Mps, Mpp, Mpd, Mpt, Mpg, Mph, Wp, Mdf, Mds, Mdp, Mdd, Mdt, Mdg, Mdh, Wd, Mtf, Mts, Mtp, Mtd, Mtt, Mtg, Mth, Wt, Mgf, Mgs, Mgp, Mgd, Mgt, Mgg, Mgh, Wg, Mhf, Mhs, Mhp, Mhd, Mht, Mhg, Mhh, Wh, mS_mm, mN_mm, mI_mm0, mI_mm1, mI_mm2, mI_mm3, mI_mm4, mI_mm5, mJ_mm, mm_mm, rd_mm, wR_mm0, wR_mm1, wR_mm2, wR_mm3, wR_mm4, wR_mm5, wL_mm, MoS_mm, obX9_mm, iA_mm, List.length_nil, List.length_cons, ll0, ll1, ll2, ll3, ll4, Nat.le_refl, and_true]
        exact ⟨fun _ => this, fun z => absurd (by decide) z⟩
      · have e63 : (63 : Int32) < m.s 55 ↔ 63 < h := by rw [q]; exact nI_ltI (a := 63) (by decide) (by omega)
        have eX : digX m.s ≤ h := by
          unfold digX
          split
          · rw [q, nI_clamp (by omega)]; omega
          · omega
        have eC : digX m.s + digC m.s = h + 1 := by
          unfold digC
          rw [q, if_neg (nI_m1 (by omega)), nI_clamp (by omega)]
          omega
        exact xX9_digest_l4 o (digX m.s) h ν (m.wf (upd m.f 6 0)) g h0 (by omega) q ht _ _ (digC m.s) eC (fun a b => tail g a b rfl hg) (digC m.s) 0 (by omega) b
    simp only [eX9_digest_115, eX9_digest_116, eX9_digest_119, eX9_digest_121, eX9_digest_122, eX9_digest_124, eX9_digest_127, eX9_digest_128, eX9_digest_131, eX9_digest_133, eX9_digest_134, eX9_digest_136, eX9_digest_137, eX9_digest_140, eX9_digest_141, gX9_0, h0, h1, h2, h3, h4, h5, h6, ht, tX9, obX9_wR, MoS_wR, iA_wR, qA5514, qa2, forall_eq, PX9_in, QX9_in, PX9_fails, QX9_fails, PX9_tells, QX9_tells, PX9_hold, QX9_hold, ends_P, ends_Q, hpst, pst_s, pst_d, pst_p, pst_t, pst_g, pst_h, PX9_goesOn, QX9_goesOn, wI_def, Int32.zero_add, true_and, cl_0, vl_0, cl_1, vl_1, cl_2, vl_2, cl_3, vl_3, cl_4, vl_4, cl_5, vl_5, cl_6, vl_6, cl_7, vl_7, cl_8, vl_8, cl_9, vl_9, cl_10, vl_10, cl_11, vl_11, cl_12, vl_12, cl_13, vl_13, cl_14, vl_14, cl_15, vl_15, cl_16, vl_16, cl_17, vl_17, cl_18, vl_18, cl_19, vl_19, cl_20, vl_20, cl_21, vl_21, cl_22, vl_22, cl_23, vl_23, cl_24, vl_24, cl_25, vl_25, cl_26, vl_26, cl_27, vl_27, cl_28, vl_28, cl_29, vl_29, cl_30, vl_30, cl_31, vl_31, cl_32, vl_32, cl_33, vl_33, cl_34, vl_34, cl_35, vl_35, cl_36, vl_36, cl_37, vl_37, cl_38, vl_38, cl_39, vl_39, cl_40, vl_40, cl_41, vl_41, cl_42, vl_42, cl_43, vl_43, cl_44, vl_44, cl_45, vl_45, cl_46, vl_46, cl_47, vl_47, cl_48, vl_48, cl_49, vl_49, cl_50, vl_50, cl_51, vl_51, cl_52, vl_52, cl_53, vl_53, cl_54, vl_54, cl_55, vl_55, cl_56, vl_56, cl_57, vl_57, cl_58, vl_58, cl_59, vl_59, cl_60, vl_60, cl_61, vl_61, cl_62, vl_62, cl_63, vl_63, cl_64, vl_64, cl_65, vl_65, cl_66, vl_66, Swsf, Swpf, Swdf, Swtf, Swgf, Swhf, Swps, Swds, Swts, Swgs, Swhs, Swdp, Swtp, Swgp, Swhp, Swtd, Swgd, Swhd, Swgt, Swht, Swhg, Mff, Mfs, Mfp, Mfd, Mft, Mfg, Mfh, Wf, Msf, Mss, Msp, Msd, Mst, Msg, Msh, Ws, Mpf, Mps, Mpp, Mpd, Mpt, Mpg, Mph, Wp, Mdf, Mds, Mdp, Mdd, Mdt, Mdg, Mdh, Wd, Mtf, Mts, Mtp, Mtd, Mtt, Mtg, Mth, Wt, Mgf, Mgs, Mgp, Mgd, Mgt, Mgg, Mgh, Wg, Mhf, Mhs, Mhp, Mhd, Mht, Mhg, Mhh, Wh, mS_mm, mN_mm, mI_mm0, mI_mm1, mI_mm2, mI_mm3, mI_mm4, mI_mm5, mJ_mm, mm_mm, rd_mm, wR_mm0, wR_mm1, wR_mm2, wR_mm3, wR_mm4, wR_mm5, wL_mm, MoS_mm, obX9_mm, iA_mm, List.length_nil, List.length_cons, ll0, ll1, ll2, ll3, ll4, Nat.le_refl, and_true]
    by_cases g63 : 63 < m.s 55
    · have e : m.s 55 - 63 = nI (digX m.s) := by
        rcases hc with ⟨q, -⟩ | ⟨h, hh, q, -⟩
        · rw [q] at g63; exact absurd g63 (by decide)
        · unfold digX
          rw [if_pos g63, q, nI_clamp (by omega)]
          rw [q] at g63
          have := (nI_ltI (a := 63) (by decide) (by omega)).mp g63
          show nI h - nI 63 = _
          exact pk_sub (by omega)
      rw [e]
      exact ⟨fun z => absurd g63 (Int32.not_lt.mpr z), fun _ => key _⟩
    · have e : digX m.s = 0 := by unfold digX; rw [if_neg g63]
      have := key b
      rw [e] at this
      exact ⟨fun _ => this, fun z => absurd (Int32.not_lt.mp g63) z⟩
  have e9 : nI 9 = 9 := rfl
  have m9 : ∃ a n : Nat, a + n ≤ 5514 ∧ (0 : Int32) = nI a ∧ (9 : Int32) = nI n := ⟨0, 9, by decide, rfl, rfl⟩
  have m10 : ∃ a n : Nat, a + n ≤ 5514 ∧ (10 : Int32) = nI a ∧ nI (1 + f) = nI n := ⟨10, 1 + f, by omega, rfl, rfl⟩
  have m31 : ∃ a n : Nat, a + n ≤ 5514 ∧ (31 : Int32) = nI a ∧ nI (1 + b) = nI n := ⟨31, 1 + b, by omega, rfl, rfl⟩
  have m52 : ∃ a n : Nat, a + n ≤ 5514 ∧ (52 : Int32) = nI a ∧ (5 : Int32) = nI n := ⟨52, 5, by decide, rfl, rfl⟩
  have j10 : (1 : Int32) + m.s 10 = nI (1 + f) := by rw [h10]; exact nI_add 1 f
  have j31 : (1 : Int32) + m.s 31 = nI (1 + b) := by rw [hb1]; exact nI_add 1 b
  have e5 : upd m.f 6 0 5 = m.f 5 := upd_n (by decide)
  simp only [eX9_digest_0, eX9_digest_1, eX9_digest_2, eX9_digest_5, eX9_digest_6, eX9_digest_9, eX9_digest_12, eX9_digest_13, eX9_digest_14, eX9_digest_17, eX9_digest_20, eX9_digest_21, eX9_digest_22, eX9_digest_24, eX9_digest_27, eX9_digest_28, gX9_5, pX9_6, pX9_12, PX9_mix, QX9_mix, PX9_mixAll, QX9_mixAll, m9, e5, h0, h1, h2, h3, h4, h5, h6, ht, tX9, obX9_wR, MoS_wR, iA_wR, qA5514, qa2, forall_eq, PX9_in, QX9_in, PX9_fails, QX9_fails, PX9_tells, QX9_tells, PX9_hold, QX9_hold, ends_P, ends_Q, hpst, pst_s, pst_d, pst_p, pst_t, pst_g, pst_h, PX9_goesOn, QX9_goesOn, wI_def, Int32.zero_add, true_and, cl_0, vl_0, cl_1, vl_1, cl_2, vl_2, cl_3, vl_3, cl_4, vl_4, cl_5, vl_5, cl_6, vl_6, cl_7, vl_7, cl_8, vl_8, cl_9, vl_9, cl_10, vl_10, cl_11, vl_11, cl_12, vl_12, cl_13, vl_13, cl_14, vl_14, cl_15, vl_15, cl_16, vl_16, cl_17, vl_17, cl_18, vl_18, cl_19, vl_19, cl_20, vl_20, cl_21, vl_21, cl_22, vl_22, cl_23, vl_23, cl_24, vl_24, cl_25, vl_25, cl_26, vl_26, cl_27, vl_27, cl_28, vl_28, cl_29, vl_29, cl_30, vl_30, cl_31, vl_31, cl_32, vl_32, cl_33, vl_33, cl_34, vl_34, cl_35, vl_35, cl_36, vl_36, cl_37, vl_37, cl_38, vl_38, cl_39, vl_39, cl_40, vl_40, cl_41, vl_41, cl_42, vl_42, cl_43, vl_43, cl_44, vl_44, cl_45, vl_45, cl_46, vl_46, cl_47, vl_47, cl_48, vl_48, cl_49, vl_49, cl_50, vl_50, cl_51, vl_51, cl_52, vl_52, cl_53, vl_53, cl_54, vl_54, cl_55, vl_55, cl_56, vl_56, cl_57, vl_57, cl_58, vl_58, cl_59, vl_59, cl_60, vl_60, cl_61, vl_61, cl_62, vl_62, cl_63, vl_63, cl_64, vl_64, cl_65, vl_65, cl_66, vl_66, Swsf, Swpf, Swdf, Swtf, Swgf, Swhf, Swps, Swds, Swts, Swgs, Swhs, Swdp, Swtp, Swgp, Swhp, Swtd, Swgd, Swhd, Swgt, Swht, Swhg, Mff, Mfs, Mfp, Mfd, Mft, Mfg, Mfh, Wf, Msf, Mss, Msp, Msd, Mst, Msg, Msh, Ws, Mpf, Mps, Mpp, Mpd, Mpt, Mpg, Mph, Wp, Mdf, Mds, Mdp, Mdd, Mdt, Mdg, Mdh, Wd, Mtf, Mts, Mtp, Mtd, Mtt, Mtg, Mth, Wt, Mgf, Mgs, Mgp, Mgd, Mgt, Mgg, Mgh, Wg, Mhf, Mhs, Mhp, Mhd, Mht, Mhg, Mhh, Wh, mS_mm, mN_mm, mI_mm0, mI_mm1, mI_mm2, mI_mm3, mI_mm4, mI_mm5, mJ_mm, mm_mm, rd_mm, wR_mm0, wR_mm1, wR_mm2, wR_mm3, wR_mm4, wR_mm5, wL_mm, MoS_mm, obX9_mm, iA_mm, List.length_nil, List.length_cons, ll0, ll1, ll2, ll3, ll4, Nat.le_refl, and_true]
  refine xX9_digest_l2 o n ν (m.wf (upd m.f 6 0)) _ h0 hn h9 ht _ _ (fun a c => ?_) n 0 (by omega) none
  simp only [eX9_digest_70, eX9_digest_71, eX9_digest_73, eX9_digest_74, eX9_digest_75, eX9_digest_78, eX9_digest_80, eX9_digest_81, eX9_digest_82, eX9_digest_85, eX9_digest_86, eX9_digest_88, eX9_digest_89, eX9_digest_90, eX9_digest_93, eX9_digest_95, eX9_digest_96, eX9_digest_97, eX9_digest_100, eX9_digest_101, eX9_digest_103, eX9_digest_104, eX9_digest_107, eX9_digest_108, eX9_digest_109, eX9_digest_112, gX9_0, PX9_mix, QX9_mix, PX9_mixAll, QX9_mixAll, PX9_keptMany, QX9_keptMany, j10, j31, m10, m31, m52, nIC (show 1 + f < 1000000 by omega), nIC (show 1 + b < 1000000 by omega), h0, h1, h2, h3, h4, h5, h6, ht, tX9, obX9_wR, MoS_wR, iA_wR, qA5514, qa2, forall_eq, PX9_in, QX9_in, PX9_fails, QX9_fails, PX9_tells, QX9_tells, PX9_hold, QX9_hold, ends_P, ends_Q, hpst, pst_s, pst_d, pst_p, pst_t, pst_g, pst_h, PX9_goesOn, QX9_goesOn, wI_def, Int32.zero_add, true_and, cl_0, vl_0, cl_1, vl_1, cl_2, vl_2, cl_3, vl_3, cl_4, vl_4, cl_5, vl_5, cl_6, vl_6, cl_7, vl_7, cl_8, vl_8, cl_9, vl_9, cl_10, vl_10, cl_11, vl_11, cl_12, vl_12, cl_13, vl_13, cl_14, vl_14, cl_15, vl_15, cl_16, vl_16, cl_17, vl_17, cl_18, vl_18, cl_19, vl_19, cl_20, vl_20, cl_21, vl_21, cl_22, vl_22, cl_23, vl_23, cl_24, vl_24, cl_25, vl_25, cl_26, vl_26, cl_27, vl_27, cl_28, vl_28, cl_29, vl_29, cl_30, vl_30, cl_31, vl_31, cl_32, vl_32, cl_33, vl_33, cl_34, vl_34, cl_35, vl_35, cl_36, vl_36, cl_37, vl_37, cl_38, vl_38, cl_39, vl_39, cl_40, vl_40, cl_41, vl_41, cl_42, vl_42, cl_43, vl_43, cl_44, vl_44, cl_45, vl_45, cl_46, vl_46, cl_47, vl_47, cl_48, vl_48, cl_49, vl_49, cl_50, vl_50, cl_51, vl_51, cl_52, vl_52, cl_53, vl_53, cl_54, vl_54, cl_55, vl_55, cl_56, vl_56, cl_57, vl_57, cl_58, vl_58, cl_59, vl_59, cl_60, vl_60, cl_61, vl_61, cl_62, vl_62, cl_63, vl_63, cl_64, vl_64, cl_65, vl_65, cl_66, vl_66, Swsf, Swpf, Swdf, Swtf, Swgf, Swhf, Swps, Swds, Swts, Swgs, Swhs, Swdp, Swtp, Swgp, Swhp, Swtd, Swgd, Swhd, Swgt, Swht, Swhg, Mff, Mfs, Mfp, Mfd, Mft, Mfg, Mfh, Wf, Msf, Mss, Msp, Msd, Mst, Msg, Msh, Ws, Mpf, Mps, Mpp, Mpd, Mpt, Mpg, Mph, Wp, Mdf, Mds, Mdp, Mdd, Mdt, Mdg, Mdh, Wd, Mtf, Mts, Mtp, Mtd, Mtt, Mtg, Mth, Wt, Mgf, Mgs, Mgp, Mgd, Mgt, Mgg, Mgh, Wg, Mhf, Mhs, Mhp, Mhd, Mht, Mhg, Mhh, Wh, mS_mm, mN_mm, mI_mm0, mI_mm1, mI_mm2, mI_mm3, mI_mm4, mI_mm5, mJ_mm, mm_mm, rd_mm, wR_mm0, wR_mm1, wR_mm2, wR_mm3, wR_mm4, wR_mm5, wL_mm, MoS_mm, obX9_mm, iA_mm, List.length_nil, List.length_cons, ll0, ll1, ll2, ll3, ll4, Nat.le_refl, and_true]
  refine recs _ _ _ ?_
  simp only [digF, h9, h10, hb1, nIC (show n < 1000000 by omega), nIC (show f < 1000000 by omega), nIC (show b < 1000000 by omega)]
  rfl
