/-! ===== bodies: the digest of the reference ===== -/
theorem xX9_digest_l1 (o p n : Nat) (ν : qMM) (m : Mod) (g : Int64) (h0 : MoS ν o) (hp : p < 500) (ht : ∃ t, mS ν o = some (Sum.inl (8, t))) (R : Option Value → qMM → Nat × Nat → Prop) (X : String → qMM → Nat × Nat → Prop) (hR : ∀ a, EX (SX9_digest R X) 64 [some (.ref o), some (.int (nI p)), a] [] [] (mm ν o (m.wh (dPk m.s p g 8))) (0, 0)) : ∀ c w : Nat, w + c = 8 → EX (SX9_digest R X) 42 [some (.ref o), some (.int (nI p)), some (.int (nI w))] [] [] (mm ν o (m.wh (dPk m.s p g w))) (0, 0) := by
  obtain ⟨h1, h2, h3⟩ := id h0
  intro c
  induction c with
  | zero =>
    intro w hw
    have : w = 8 := by omega
    subst this
    rw [eX9_digest_42]
    simp only [eX9_digest_43, eX9_digest_45]
    exact ⟨fun _ => hR _, fun h => absurd (by decide) h⟩
  | succ c ih =>
    intro w hw
    have ih := ih (w + 1) (by omega)
    unfold dPk tolN at ih
    rw [eX9_digest_42]
    simp only [eX9_digest_43, eX9_digest_45, eX9_digest_48, eX9_digest_49, eX9_digest_50, eX9_digest_51, eX9_digest_52, eX9_digest_55, eX9_digest_58, eX9_digest_61, h0, ht, tX9, PX9_told, QX9_told, PX9_mix, QX9_mix, qa2, forall_eq, nIC (show p < 1000000 by omega), nIC (show w < 1000000 by omega), nI_1, true_and, Swsf, Swpf, Swdf, Swtf, Swgf, Swhf, Swps, Swds, Swts, Swgs, Swhs, Swdp, Swtp, Swgp, Swhp, Swtd, Swgd, Swhd, Swgt, Swht, Swhg, Mff, Mfs, Mfp, Mfd, Mft, Mfg, Mfh, Wf, Msf, Mss, Msp, Msd, Mst, Msg, Msh, Ws, Mpf, Mps, Mpp, Mpd, Mpt, Mpg, Mph, Wp, Mdf, Mds, Mdp, Mdd, Mdt, Mdg, Mdh, Wd, Mtf, Mts, Mtp, Mtd, Mtt, Mtg, Mth, Wt, Mgf, Mgs, Mgp, Mgd, Mgt, Mgg, Mgh, Wg, Mhf, Mhs, Mhp, Mhd, Mht, Mhg, Mhh, Wh, mS_mm, mN_mm, mI_mm0, mI_mm1, mI_mm2, mI_mm3, mI_mm4, mI_mm5, mJ_mm, mm_mm, rd_mm, wR_mm0, wR_mm1, wR_mm2, wR_mm3, wR_mm4, wR_mm5, wL_mm, MoS_mm, obX9_mm, iA_mm, List.length_nil, List.length_cons, ll0, ll1, ll2, ll3, ll4, Nat.le_refl, and_true]
    exact ⟨fun h => absurd h (nI_ge (b := 8) (by omega) (by decide)), fun _ => ⟨⟨p, w, hp, by omega, rfl, rfl⟩, ih⟩⟩
theorem xX9_digest_l2 (o n : Nat) (ν : qMM) (m : Mod) (g : Int64) (h0 : MoS ν o) (hn : n ≤ 500) (h9 : m.s 9 = nI n) (ht : ∃ t, mS ν o = some (Sum.inl (8, t))) (R : Option Value → qMM → Nat × Nat → Prop) (X : String → qMM → Nat × Nat → Prop) (hR : ∀ a b, EX (SX9_digest R X) 70 [some (.ref o), a, b] [] [] (mm ν o (m.wh (dPs m.s g n))) (0, 0)) : ∀ c p : Nat, p + c = n → ∀ a, EX (SX9_digest R X) 29 [some (.ref o), some (.int (nI p)), a] [] [] (mm ν o (m.wh (dPs m.s g p))) (0, 0) := by
  obtain ⟨h1, h2, h3⟩ := id h0
  intro c
  induction c with
  | zero =>
    intro p hp a
    have : p = n := by omega
    subst this
    rw [eX9_digest_29]
    simp only [eX9_digest_30, eX9_digest_31, eX9_digest_34, eX9_digest_36, eX9_digest_37, gX9_0, h1, h2, qA5514, h9, true_and, cl_0, vl_0, cl_1, vl_1, cl_2, vl_2, cl_3, vl_3, cl_4, vl_4, cl_5, vl_5, cl_6, vl_6, cl_7, vl_7, cl_8, vl_8, cl_9, vl_9, cl_10, vl_10, cl_11, vl_11, cl_12, vl_12, cl_13, vl_13, cl_14, vl_14, cl_15, vl_15, cl_16, vl_16, cl_17, vl_17, cl_18, vl_18, cl_19, vl_19, cl_20, vl_20, cl_21, vl_21, cl_22, vl_22, cl_23, vl_23, cl_24, vl_24, cl_25, vl_25, cl_26, vl_26, cl_27, vl_27, cl_28, vl_28, cl_29, vl_29, cl_30, vl_30, cl_31, vl_31, cl_32, vl_32, cl_33, vl_33, cl_34, vl_34, cl_35, vl_35, cl_36, vl_36, cl_37, vl_37, cl_38, vl_38, cl_39, vl_39, cl_40, vl_40, cl_41, vl_41, cl_42, vl_42, cl_43, vl_43, cl_44, vl_44, cl_45, vl_45, cl_46, vl_46, cl_47, vl_47, cl_48, vl_48, cl_49, vl_49, cl_50, vl_50, cl_51, vl_51, cl_52, vl_52, cl_53, vl_53, cl_54, vl_54, cl_55, vl_55, cl_56, vl_56, cl_57, vl_57, cl_58, vl_58, cl_59, vl_59, cl_60, vl_60, cl_61, vl_61, cl_62, vl_62, cl_63, vl_63, cl_64, vl_64, cl_65, vl_65, cl_66, vl_66, Swsf, Swpf, Swdf, Swtf, Swgf, Swhf, Swps, Swds, Swts, Swgs, Swhs, Swdp, Swtp, Swgp, Swhp, Swtd, Swgd, Swhd, Swgt, Swht, Swhg, Mff, Mfs, Mfp, Mfd, Mft, Mfg, Mfh, Wf, Msf, Mss, Msp, Msd, Mst, Msg, Msh, Ws, Mpf, Mps, Mpp, Mpd, Mpt, Mpg, Mph, Wp, Mdf, Mds, Mdp, Mdd, Mdt, Mdg, Mdh, Wd, Mtf, Mts, Mtp, Mtd, Mtt, Mtg, Mth, Wt, Mgf, Mgs, Mgp, Mgd, Mgt, Mgg, Mgh, Wg, Mhf, Mhs, Mhp, Mhd, Mht, Mhg, Mhh, Wh, mS_mm, mN_mm, mI_mm0, mI_mm1, mI_mm2, mI_mm3, mI_mm4, mI_mm5, mJ_mm, mm_mm, rd_mm, wR_mm0, wR_mm1, wR_mm2, wR_mm3, wR_mm4, wR_mm5, wL_mm, MoS_mm, obX9_mm, iA_mm]
    exact ⟨fun _ => hR _ _, fun h => absurd (Int32.le_refl _) h⟩
  | succ c ih =>
    intro p hp a
    have ih := ih (p + 1) (by omega)
    unfold dPs at ih
    rw [eX9_digest_29]
    simp only [eX9_digest_30, eX9_digest_31, eX9_digest_34, eX9_digest_36, eX9_digest_37, eX9_digest_40, eX9_digest_41, gX9_0, h1, h2, qA5514, h9, true_and, cl_0, vl_0, cl_1, vl_1, cl_2, vl_2, cl_3, vl_3, cl_4, vl_4, cl_5, vl_5, cl_6, vl_6, cl_7, vl_7, cl_8, vl_8, cl_9, vl_9, cl_10, vl_10, cl_11, vl_11, cl_12, vl_12, cl_13, vl_13, cl_14, vl_14, cl_15, vl_15, cl_16, vl_16, cl_17, vl_17, cl_18, vl_18, cl_19, vl_19, cl_20, vl_20, cl_21, vl_21, cl_22, vl_22, cl_23, vl_23, cl_24, vl_24, cl_25, vl_25, cl_26, vl_26, cl_27, vl_27, cl_28, vl_28, cl_29, vl_29, cl_30, vl_30, cl_31, vl_31, cl_32, vl_32, cl_33, vl_33, cl_34, vl_34, cl_35, vl_35, cl_36, vl_36, cl_37, vl_37, cl_38, vl_38, cl_39, vl_39, cl_40, vl_40, cl_41, vl_41, cl_42, vl_42, cl_43, vl_43, cl_44, vl_44, cl_45, vl_45, cl_46, vl_46, cl_47, vl_47, cl_48, vl_48, cl_49, vl_49, cl_50, vl_50, cl_51, vl_51, cl_52, vl_52, cl_53, vl_53, cl_54, vl_54, cl_55, vl_55, cl_56, vl_56, cl_57, vl_57, cl_58, vl_58, cl_59, vl_59, cl_60, vl_60, cl_61, vl_61, cl_62, vl_62, cl_63, vl_63, cl_64, vl_64, cl_65, vl_65, cl_66, vl_66, Swsf, Swpf, Swdf, Swtf, Swgf, Swhf, Swps, Swds, Swts, Swgs, Swhs, Swdp, Swtp, Swgp, Swhp, Swtd, Swgd, Swhd, Swgt, Swht, Swhg, Mff, Mfs, Mfp, Mfd, Mft, Mfg, Mfh, Wf, Msf, Mss, Msp, Msd, Mst, Msg, Msh, Ws, Mpf, Mps, Mpp, Mpd, Mpt, Mpg, Mph, Wp, Mdf, Mds, Mdp, Mdd, Mdt, Mdg, Mdh, Wd, Mtf, Mts, Mtp, Mtd, Mtt, Mtg, Mth, Wt, Mgf, Mgs, Mgp, Mgd, Mgt, Mgg, Mgh, Wg, Mhf, Mhs, Mhp, Mhd, Mht, Mhg, Mhh, Wh, mS_mm, mN_mm, mI_mm0, mI_mm1, mI_mm2, mI_mm3, mI_mm4, mI_mm5, mJ_mm, mm_mm, rd_mm, wR_mm0, wR_mm1, wR_mm2, wR_mm3, wR_mm4, wR_mm5, wL_mm, MoS_mm, obX9_mm, iA_mm]
    refine ⟨fun h => absurd h (nI_ge (by omega) (by omega)), fun _ => ?_⟩
    refine xX9_digest_l1 o p n ν m (dPs m.s g p) h0 (by omega) ht R X (fun a => ?_) 8 0 rfl
    simp only [eX9_digest_64, eX9_digest_67, nI_1]
    exact ih _
theorem xX9_digest_l3 (o x : Nat) (ν : qMM) (m : Mod) (g : Int64) (h0 : MoS ν o) (ht : ∃ t, mS ν o = some (Sum.inl (8, t))) (R : Option Value → qMM → Nat × Nat → Prop) (X : String → qMM → Nat × Nat → Prop) (hR : ∀ a, EX (SX9_digest R X) 177 [some (.ref o), some (.int (nI x)), a] [] [] (mm ν o (m.wh (dRc m.s (nI x) g 6))) (0, 0)) : ∀ c w : Nat, w + c = 6 → EX (SX9_digest R X) 155 [some (.ref o), some (.int (nI x)), some (.int (nI w))] [] [] (mm ν o (m.wh (dRc m.s (nI x) g w))) (0, 0) := by
  obtain ⟨h1, h2, h3⟩ := id h0
  intro c
  induction c with
  | zero =>
    intro w hw
    have : w = 6 := by omega
    subst this
    rw [eX9_digest_155]
    simp only [eX9_digest_156, eX9_digest_158]
    exact ⟨fun _ => hR _, fun h => absurd (by decide) h⟩
  | succ c ih =>
    intro w hw
    have ih := ih (w + 1) (by omega)
    unfold dRc at ih
    rw [eX9_digest_155]
    simp only [eX9_digest_156, eX9_digest_158, eX9_digest_161, eX9_digest_162, eX9_digest_163, eX9_digest_164, eX9_digest_165, eX9_digest_168, eX9_digest_171, eX9_digest_174, h0, ht, tX9, PX9_recordOf, QX9_recordOf, PX9_mix, QX9_mix, qa2, forall_eq, nIC (show w < 1000000 by omega), nI_1, true_and, Swsf, Swpf, Swdf, Swtf, Swgf, Swhf, Swps, Swds, Swts, Swgs, Swhs, Swdp, Swtp, Swgp, Swhp, Swtd, Swgd, Swhd, Swgt, Swht, Swhg, Mff, Mfs, Mfp, Mfd, Mft, Mfg, Mfh, Wf, Msf, Mss, Msp, Msd, Mst, Msg, Msh, Ws, Mpf, Mps, Mpp, Mpd, Mpt, Mpg, Mph, Wp, Mdf, Mds, Mdp, Mdd, Mdt, Mdg, Mdh, Wd, Mtf, Mts, Mtp, Mtd, Mtt, Mtg, Mth, Wt, Mgf, Mgs, Mgp, Mgd, Mgt, Mgg, Mgh, Wg, Mhf, Mhs, Mhp, Mhd, Mht, Mhg, Mhh, Wh, mS_mm, mN_mm, mI_mm0, mI_mm1, mI_mm2, mI_mm3, mI_mm4, mI_mm5, mJ_mm, mm_mm, rd_mm, wR_mm0, wR_mm1, wR_mm2, wR_mm3, wR_mm4, wR_mm5, wL_mm, MoS_mm, obX9_mm, iA_mm, List.length_nil, List.length_cons, ll0, ll1, ll2, ll3, ll4, Nat.le_refl, and_true]
    exact ⟨fun h => absurd h (nI_ge (b := 6) (by omega) (by decide)), fun _ => ⟨⟨w, by omega, rfl⟩, ih⟩⟩
theorem xX9_digest_l4 (o x h' : Nat) (ν : qMM) (m : Mod) (g : Int64) (h0 : MoS ν o) (hh : h' < 2 ^ 30) (h55 : m.s 55 = nI h') (ht : ∃ t, mS ν o = some (Sum.inl (8, t))) (R : Option Value → qMM → Nat × Nat → Prop) (X : String → qMM → Nat × Nat → Prop) (n : Nat) (hn : x + n = h' + 1) (hR : ∀ a b, EX (SX9_digest R X) 183 [some (.ref o), a, b] [] [] (mm ν o (m.wh (dRs m.s x g n))) (0, 0)) : ∀ c k : Nat, k + c = n → ∀ a, EX (SX9_digest R X) 142 [some (.ref o), some (.int (nI (x + k))), a] [] [] (mm ν o (m.wh (dRs m.s x g k))) (0, 0) := by
  obtain ⟨h1, h2, h3⟩ := id h0
  intro c
  induction c with
  | zero =>
    intro k hk a
    have : k = n := by omega
    subst this
    rw [eX9_digest_142]
    simp only [eX9_digest_143, eX9_digest_144, eX9_digest_147, eX9_digest_149, eX9_digest_150, gX9_0, h1, h2, qA5514, h55, true_and, cl_0, vl_0, cl_1, vl_1, cl_2, vl_2, cl_3, vl_3, cl_4, vl_4, cl_5, vl_5, cl_6, vl_6, cl_7, vl_7, cl_8, vl_8, cl_9, vl_9, cl_10, vl_10, cl_11, vl_11, cl_12, vl_12, cl_13, vl_13, cl_14, vl_14, cl_15, vl_15, cl_16, vl_16, cl_17, vl_17, cl_18, vl_18, cl_19, vl_19, cl_20, vl_20, cl_21, vl_21, cl_22, vl_22, cl_23, vl_23, cl_24, vl_24, cl_25, vl_25, cl_26, vl_26, cl_27, vl_27, cl_28, vl_28, cl_29, vl_29, cl_30, vl_30, cl_31, vl_31, cl_32, vl_32, cl_33, vl_33, cl_34, vl_34, cl_35, vl_35, cl_36, vl_36, cl_37, vl_37, cl_38, vl_38, cl_39, vl_39, cl_40, vl_40, cl_41, vl_41, cl_42, vl_42, cl_43, vl_43, cl_44, vl_44, cl_45, vl_45, cl_46, vl_46, cl_47, vl_47, cl_48, vl_48, cl_49, vl_49, cl_50, vl_50, cl_51, vl_51, cl_52, vl_52, cl_53, vl_53, cl_54, vl_54, cl_55, vl_55, cl_56, vl_56, cl_57, vl_57, cl_58, vl_58, cl_59, vl_59, cl_60, vl_60, cl_61, vl_61, cl_62, vl_62, cl_63, vl_63, cl_64, vl_64, cl_65, vl_65, cl_66, vl_66, Swsf, Swpf, Swdf, Swtf, Swgf, Swhf, Swps, Swds, Swts, Swgs, Swhs, Swdp, Swtp, Swgp, Swhp, Swtd, Swgd, Swhd, Swgt, Swht, Swhg, Mff, Mfs, Mfp, Mfd, Mft, Mfg, Mfh, Wf, Msf, Mss, Msp, Msd, Mst, Msg, Msh, Ws, Mpf, Mps, Mpp, Mpd, Mpt, Mpg, Mph, Wp, Mdf, Mds, Mdp, Mdd, Mdt, Mdg, Mdh, Wd, Mtf, Mts, Mtp, Mtd, Mtt, Mtg, Mth, Wt, Mgf, Mgs, Mgp, Mgd, Mgt, Mgg, Mgh, Wg, Mhf, Mhs, Mhp, Mhd, Mht, Mhg, Mhh, Wh, mS_mm, mN_mm, mI_mm0, mI_mm1, mI_mm2, mI_mm3, mI_mm4, mI_mm5, mJ_mm, mm_mm, rd_mm, wR_mm0, wR_mm1, wR_mm2, wR_mm3, wR_mm4, wR_mm5, wL_mm, MoS_mm, obX9_mm, iA_mm]
    exact ⟨fun _ => hR _ _, fun h => absurd ((nI_ltI (by omega) (by omega)).mpr (by omega)) h⟩
  | succ c ih =>
    intro k hk a
    have ih := ih (k + 1) (by omega)
    unfold dRs at ih
    rw [eX9_digest_142]
    simp only [eX9_digest_143, eX9_digest_144, eX9_digest_147, eX9_digest_149, eX9_digest_150, eX9_digest_153, eX9_digest_154, gX9_0, h1, h2, qA5514, h55, true_and, cl_0, vl_0, cl_1, vl_1, cl_2, vl_2, cl_3, vl_3, cl_4, vl_4, cl_5, vl_5, cl_6, vl_6, cl_7, vl_7, cl_8, vl_8, cl_9, vl_9, cl_10, vl_10, cl_11, vl_11, cl_12, vl_12, cl_13, vl_13, cl_14, vl_14, cl_15, vl_15, cl_16, vl_16, cl_17, vl_17, cl_18, vl_18, cl_19, vl_19, cl_20, vl_20, cl_21, vl_21, cl_22, vl_22, cl_23, vl_23, cl_24, vl_24, cl_25, vl_25, cl_26, vl_26, cl_27, vl_27, cl_28, vl_28, cl_29, vl_29, cl_30, vl_30, cl_31, vl_31, cl_32, vl_32, cl_33, vl_33, cl_34, vl_34, cl_35, vl_35, cl_36, vl_36, cl_37, vl_37, cl_38, vl_38, cl_39, vl_39, cl_40, vl_40, cl_41, vl_41, cl_42, vl_42, cl_43, vl_43, cl_44, vl_44, cl_45, vl_45, cl_46, vl_46, cl_47, vl_47, cl_48, vl_48, cl_49, vl_49, cl_50, vl_50, cl_51, vl_51, cl_52, vl_52, cl_53, vl_53, cl_54, vl_54, cl_55, vl_55, cl_56, vl_56, cl_57, vl_57, cl_58, vl_58, cl_59, vl_59, cl_60, vl_60, cl_61, vl_61, cl_62, vl_62, cl_63, vl_63, cl_64, vl_64, cl_65, vl_65, cl_66, vl_66, Swsf, Swpf, Swdf, Swtf, Swgf, Swhf, Swps, Swds, Swts, Swgs, Swhs, Swdp, Swtp, Swgp, Swhp, Swtd, Swgd, Swhd, Swgt, Swht, Swhg, Mff, Mfs, Mfp, Mfd, Mft, Mfg, Mfh, Wf, Msf, Mss, Msp, Msd, Mst, Msg, Msh, Ws, Mpf, Mps, Mpp, Mpd, Mpt, Mpg, Mph, Wp, Mdf, Mds, Mdp, Mdd, Mdt, Mdg, Mdh, Wd, Mtf, Mts, Mtp, Mtd, Mtt, Mtg, Mth, Wt, Mgf, Mgs, Mgp, Mgd, Mgt, Mgg, Mgh, Wg, Mhf, Mhs, Mhp, Mhd, Mht, Mhg, Mhh, Wh, mS_mm, mN_mm, mI_mm0, mI_mm1, mI_mm2, mI_mm3, mI_mm4, mI_mm5, mJ_mm, mm_mm, rd_mm, wR_mm0, wR_mm1, wR_mm2, wR_mm3, wR_mm4, wR_mm5, wL_mm, MoS_mm, obX9_mm, iA_mm]
    refine ⟨fun h => absurd ((nI_ltI (by omega) (by omega)).mp h) (by omega), fun _ => ?_⟩
    refine xX9_digest_l3 o (x + k) ν m (dRs m.s x g k) h0 ht R X (fun a => ?_) 6 0 rfl
    simp only [eX9_digest_177, eX9_digest_180, nI_1]
    exact ih _
theorem xX9_digest_l5 (o : Nat) (ν : qMM) (m : Mod) (g : Int64) (h0 : MoS ν o) (ht : ∃ t, mS ν o = some (Sum.inl (8, t))) (R : Option Value → qMM → Nat × Nat → Prop) (X : String → qMM → Nat × Nat → Prop) (b : Option Value) (hR : ∀ a, EX (SX9_digest R X) 206 [some (.ref o), a, b] [] [] (mm ν o (m.wh (dCo m.s g 8))) (0, 0)) : ∀ c w : Nat, w + c = 8 → EX (SX9_digest R X) 185 [some (.ref o), some (.int (nI w)), b] [] [] (mm ν o (m.wh (dCo m.s g w))) (0, 0) := by
  obtain ⟨h1, h2, h3⟩ := id h0
  intro c
  induction c with
  | zero =>
    intro w hw
    have : w = 8 := by omega
    subst this
    rw [eX9_digest_185]
    simp only [eX9_digest_186, eX9_digest_188]
    exact ⟨fun _ => hR _, fun h => absurd (by decide) h⟩
  | succ c ih =>
    intro w hw
    have ih := ih (w + 1) (by omega)
    unfold dCo couF at ih
    rw [eX9_digest_185]
    simp only [eX9_digest_186, eX9_digest_188, eX9_digest_191, eX9_digest_192, eX9_digest_193, eX9_digest_194, eX9_digest_197, eX9_digest_200, eX9_digest_203, h0, ht, tX9, PX9_counted, QX9_counted, PX9_mix, QX9_mix, qa2, forall_eq, nI_1, true_and, Swsf, Swpf, Swdf, Swtf, Swgf, Swhf, Swps, Swds, Swts, Swgs, Swhs, Swdp, Swtp, Swgp, Swhp, Swtd, Swgd, Swhd, Swgt, Swht, Swhg, Mff, Mfs, Mfp, Mfd, Mft, Mfg, Mfh, Wf, Msf, Mss, Msp, Msd, Mst, Msg, Msh, Ws, Mpf, Mps, Mpp, Mpd, Mpt, Mpg, Mph, Wp, Mdf, Mds, Mdp, Mdd, Mdt, Mdg, Mdh, Wd, Mtf, Mts, Mtp, Mtd, Mtt, Mtg, Mth, Wt, Mgf, Mgs, Mgp, Mgd, Mgt, Mgg, Mgh, Wg, Mhf, Mhs, Mhp, Mhd, Mht, Mhg, Mhh, Wh, mS_mm, mN_mm, mI_mm0, mI_mm1, mI_mm2, mI_mm3, mI_mm4, mI_mm5, mJ_mm, mm_mm, rd_mm, wR_mm0, wR_mm1, wR_mm2, wR_mm3, wR_mm4, wR_mm5, wL_mm, MoS_mm, obX9_mm, iA_mm, List.length_nil, List.length_cons, ll0, ll1, ll2, ll3, ll4, Nat.le_refl, and_true]
    exact ⟨fun h => absurd h (nI_ge (b := 8) (by omega) (by decide)), fun _ => ⟨⟨w, by omega, rfl⟩, ih⟩⟩
