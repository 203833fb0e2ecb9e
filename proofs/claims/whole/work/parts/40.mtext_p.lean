/-! ===== bodies: the reference's text ===== -/
theorem xX9_digitHere (o : Nat) (μ : qMM) (ht : ∃ t, mS μ o = some (.inl (8, t))) (hp : PX9_digitHere o μ) : EX (SX9_digitHere (rti 0 0 (QX9_digitHere o μ)) (fun _ _ _ => False)) 0 [some (.ref o)] [] [] μ (0, 0) := by
  obtain ⟨ν, m, rfl⟩ := mm_ex μ o
  obtain ⟨h0, a, n, ha, hk⟩ := hp
  obtain ⟨h1, h2, h3, h4, h5, h6⟩ := id h0
  simp only [txOK, Swsf, Swpf, Swdf, Swtf, Swgf, Swhf, Swps, Swds, Swts, Swgs, Swhs, Swdp, Swtp, Swgp, Swhp, Swtd, Swgd, Swhd, Swgt, Swht, Swhg, Mff, Mfs, Mfp, Mfd, Mft, Mfg, Mfh, Wf, Msf, Mss, Msp, Msd, Mst, Msg, Msh, Ws, Mpf, Mps, Mpp, Mpd, Mpt, Mpg, Mph, Wp, Mdf, Mds, Mdp, Mdd, Mdt, Mdg, Mdh, Wd, Mtf, Mts, Mtp, Mtd, Mtt, Mtg, Mth, Wt, Mgf, Mgs, Mgp, Mgd, Mgt, Mgg, Mgh, Wg, Mhf, Mhs, Mhp, Mhd, Mht, Mhg, Mhh, Wh, mS_mm, mN_mm, mI_mm0, mI_mm1, mI_mm2, mI_mm3, mI_mm4, mI_mm5, mJ_mm, mm_mm, rd_mm, wR_mm0, wR_mm1, wR_mm2, wR_mm3, wR_mm4, wR_mm5, wL_mm, MoS_mm, obX9_mm, iA_mm] at hk h0 h1 h2 h3 h4 h5 h6
  obtain ⟨k9, k5, hn⟩ := hk
  have hlt : (nI a < nI n) ↔ a < n := nI_ltI (by omega) (by omega)
  simp only [eX9_digitHere_0, eX9_digitHere_1, eX9_digitHere_4, eX9_digitHere_5, eX9_digitHere_8, eX9_digitHere_11, eX9_digitHere_12, eX9_digitHere_15, eX9_digitHere_16, eX9_digitHere_19, eX9_digitHere_20, eX9_digitHere_22, eX9_digitHere_24, eX9_digitHere_27, eX9_digitHere_30, eX9_digitHere_31, eX9_digitHere_34, eX9_digitHere_35, eX9_digitHere_38, eX9_digitHere_39, eX9_digitHere_41, eX9_digitHere_42, eX9_digitHere_45, eX9_digitHere_46, rtv_at, rti_at, rtj_at, rtd_at, rta_at, qOk, qOkR, gX9_4, gX9_5, gX9_9, qA100, h1, h5, PX9_in, QX9_in, qa2, forall_eq, k9, k5, QX9_digitHere, dgF, nIC (show a < 1000000 by omega), nIC (show n < 1000000 by omega), true_and, Swsf, Swpf, Swdf, Swtf, Swgf, Swhf, Swps, Swds, Swts, Swgs, Swhs, Swdp, Swtp, Swgp, Swhp, Swtd, Swgd, Swhd, Swgt, Swht, Swhg, Mff, Mfs, Mfp, Mfd, Mft, Mfg, Mfh, Wf, Msf, Mss, Msp, Msd, Mst, Msg, Msh, Ws, Mpf, Mps, Mpp, Mpd, Mpt, Mpg, Mph, Wp, Mdf, Mds, Mdp, Mdd, Mdt, Mdg, Mdh, Wd, Mtf, Mts, Mtp, Mtd, Mtt, Mtg, Mth, Wt, Mgf, Mgs, Mgp, Mgd, Mgt, Mgg, Mgh, Wg, Mhf, Mhs, Mhp, Mhd, Mht, Mhg, Mhh, Wh, mS_mm, mN_mm, mI_mm0, mI_mm1, mI_mm2, mI_mm3, mI_mm4, mI_mm5, mJ_mm, mm_mm, rd_mm, wR_mm0, wR_mm1, wR_mm2, wR_mm3, wR_mm4, wR_mm5, wL_mm, MoS_mm, obX9_mm, iA_mm, List.length_nil, List.length_cons, ll0, ll1, ll2, ll3, ll4, Nat.le_refl, and_true]
  by_cases g : a < n
  · have g' := hlt.mpr g
    simp only [g, g', vp100 (show a < 100 by omega), true_and, one0, eq_self, not_true_eq_false, not_false_eq_true, true_imp_iff, false_imp_iff, true_and, and_true, Classical.not_not]
    refine ⟨fun h => absurd g' (Int32.not_lt.mpr h), fun _ => ⟨fun h => ?_, fun h => ?_⟩⟩
    · by_cases q : 48 ≤ m.t a ∧ m.t a ≤ 57
      · rw [if_pos q] at h
        exact absurd h (by decide)
      · rw [if_neg q]
    · by_cases q : 48 ≤ m.t a ∧ m.t a ≤ 57
      · rw [if_pos q]
      · rw [if_neg q] at h
        exact absurd rfl h
  · have g' : ¬ nI a < nI n := fun z => g (hlt.mp z)
    simp only [g, false_and, if_false, true_and, one0, eq_self, not_true_eq_false, not_false_eq_true, true_imp_iff, false_imp_iff, true_and, and_true, Classical.not_not]
    exact ⟨fun _ => trivial, fun h => absurd (Int32.not_lt.mp g') h⟩
theorem sw_isDone (c : Int32) : qSwT 4 184 97 115 #[167, 184, 150, 114, 184, 184, 184, 184, 184, 184, 184, 131, 184, 92, 184, 184, 184, 184, 98] c = some (if c = 110 then 96 else if c = 115 then 102 else if c = 100 then 118 else if c = 108 then 135 else if c = 99 then 154 else if c = 97 then 171 else 188) := by
  have key : ∀ j : Fin 19, qSwT 4 184 97 115 #[167, 184, 150, 114, 184, 184, 184, 184, 184, 184, 184, 131, 184, 92, 184, 184, 184, 184, 98] (nI (97 + j.val)) = some (if nI (97 + j.val) = 110 then 96 else if nI (97 + j.val) = 115 then 102 else if nI (97 + j.val) = 100 then 118 else if nI (97 + j.val) = 108 then 135 else if nI (97 + j.val) = 99 then 154 else if nI (97 + j.val) = 97 then 171 else 188) := by decide +kernel
  by_cases h : c.toInt < 97 ∨ 115 < c.toInt
  · have e : ∀ d : Int32, ¬ (d.toInt < 97 ∨ 115 < d.toInt) → ¬ c = d := fun d hd z => hd (z ▸ h)
    rw [if_neg (e 110 (by decide)), if_neg (e 115 (by decide)), if_neg (e 100 (by decide)), if_neg (e 108 (by decide)), if_neg (e 99 (by decide)), if_neg (e 97 (by decide))]
    unfold qSwT
    rw [if_pos h]
    rfl
  · have e : c = nI (97 + (c.toInt - 97).toNat) := by
      apply Int32.toInt_inj.mp
      rw [nI_toInt (by omega)]
      omega
    rw [e]
    exact key ⟨(c.toInt - 97).toNat, by omega⟩
theorem xX9_isDone (o : Nat) (μ : qMM) (ht : ∃ t, mS μ o = some (.inl (8, t))) (hp : PX9_isDone o μ) : EX (SX9_isDone (rti 0 0 (QX9_isDone o μ)) (fun _ _ _ => False)) 0 [some (.ref o)] [] [] μ (0, 0) := by
  obtain ⟨ν, m, rfl⟩ := mm_ex μ o
  obtain ⟨h0, H, hH, iv⟩ := hp
  obtain ⟨h1, h2, h3, h4, h5, h6⟩ := id h0
  have ht : ∃ t, mS ν o = some (Sum.inl (8, t)) := ht
  simp only [Swsf, Swpf, Swdf, Swtf, Swgf, Swhf, Swps, Swds, Swts, Swgs, Swhs, Swdp, Swtp, Swgp, Swhp, Swtd, Swgd, Swhd, Swgt, Swht, Swhg, Mff, Mfs, Mfp, Mfd, Mft, Mfg, Mfh, Wf, Msf, Mss, Msp, Msd, Mst, Msg, Msh, Ws, Mpf, Mps, Mpp, Mpd, Mpt, Mpg, Mph, Wp, Mdf, Mds, Mdp, Mdd, Mdt, Mdg, Mdh, Wd, Mtf, Mts, Mtp, Mtd, Mtt, Mtg, Mth, Wt, Mgf, Mgs, Mgp, Mgd, Mgt, Mgg, Mgh, Wg, Mhf, Mhs, Mhp, Mhd, Mht, Mhg, Mhh, Wh, mS_mm, mN_mm, mI_mm0, mI_mm1, mI_mm2, mI_mm3, mI_mm4, mI_mm5, mJ_mm, mm_mm, rd_mm, wR_mm0, wR_mm1, wR_mm2, wR_mm3, wR_mm4, wR_mm5, wL_mm, MoS_mm, obX9_mm, iA_mm] at iv h0 h1 h2 h3 h4 h5 h6
  obtain ⟨hH0, ⟨n, hn, h9, hk, f, hf, h10, hi⟩, ⟨b, hb, hb1, hb2⟩, hiv⟩ := id iv
  have dl := Iv_dlv iv
  have bk := Iv_bak (by omega) iv
  have p10 : ∃ k n, (k = 10 ∨ k = 31) ∧ n ≤ 20 ∧ (10 : Int32) = nI k ∧ m.s k = nI n := ⟨10, f, Or.inl rfl, hf, rfl, h10⟩
  have p31 : ∃ k n, (k = 10 ∨ k = 31) ∧ n ≤ 20 ∧ (31 : Int32) = nI k ∧ m.s k = nI n := ⟨31, b, Or.inr rfl, hb, rfl, hb1⟩
  have p10' : ∃ n, n ≤ 20 ∧ m.s 10 = nI n := ⟨f, hf, h10⟩
  simp only [eX9_isDone_0, eX9_isDone_1, eX9_isDone_4, gX9_10, h1, Swsf, Swpf, Swdf, Swtf, Swgf, Swhf, Swps, Swds, Swts, Swgs, Swhs, Swdp, Swtp, Swgp, Swhp, Swtd, Swgd, Swhd, Swgt, Swht, Swhg, Mff, Mfs, Mfp, Mfd, Mft, Mfg, Mfh, Wf, Msf, Mss, Msp, Msd, Mst, Msg, Msh, Ws, Mpf, Mps, Mpp, Mpd, Mpt, Mpg, Mph, Wp, Mdf, Mds, Mdp, Mdd, Mdt, Mdg, Mdh, Wd, Mtf, Mts, Mtp, Mtd, Mtt, Mtg, Mth, Wt, Mgf, Mgs, Mgp, Mgd, Mgt, Mgg, Mgh, Wg, Mhf, Mhs, Mhp, Mhd, Mht, Mhg, Mhh, Wh, mS_mm, mN_mm, mI_mm0, mI_mm1, mI_mm2, mI_mm3, mI_mm4, mI_mm5, mJ_mm, mm_mm, rd_mm, wR_mm0, wR_mm1, wR_mm2, wR_mm3, wR_mm4, wR_mm5, wL_mm, MoS_mm, obX9_mm, iA_mm]
  rw [sw_isDone]
  show EX _ (if m.f 10 = 110 then 96 else if m.f 10 = 115 then 102 else if m.f 10 = 100 then 118 else if m.f 10 = 108 then 135 else if m.f 10 = 99 then 154 else if m.f 10 = 97 then 171 else 188) _ _ _ _ _
  by_cases c1 : m.f 10 = 110
  · simp only [if_pos c1, eX9_isDone_96, eX9_isDone_97, eX9_isDone_100, eX9_isDone_101, rtv_at, rti_at, rtj_at, rtd_at, rta_at, qOk, qOkR, h0, ht, tX9, PX9_goesOn, QX9_goesOn, qa2, forall_eq, QX9_isDone, donG, donM, true_and, Swsf, Swpf, Swdf, Swtf, Swgf, Swhf, Swps, Swds, Swts, Swgs, Swhs, Swdp, Swtp, Swgp, Swhp, Swtd, Swgd, Swhd, Swgt, Swht, Swhg, Mff, Mfs, Mfp, Mfd, Mft, Mfg, Mfh, Wf, Msf, Mss, Msp, Msd, Mst, Msg, Msh, Ws, Mpf, Mps, Mpp, Mpd, Mpt, Mpg, Mph, Wp, Mdf, Mds, Mdp, Mdd, Mdt, Mdg, Mdh, Wd, Mtf, Mts, Mtp, Mtd, Mtt, Mtg, Mth, Wt, Mgf, Mgs, Mgp, Mgd, Mgt, Mgg, Mgh, Wg, Mhf, Mhs, Mhp, Mhd, Mht, Mhg, Mhh, Wh, mS_mm, mN_mm, mI_mm0, mI_mm1, mI_mm2, mI_mm3, mI_mm4, mI_mm5, mJ_mm, mm_mm, rd_mm, wR_mm0, wR_mm1, wR_mm2, wR_mm3, wR_mm4, wR_mm5, wL_mm, MoS_mm, obX9_mm, iA_mm, List.length_nil, List.length_cons, ll0, ll1, ll2, ll3, ll4, Nat.le_refl, and_true, if_true, or_true]
  · by_cases c2 : m.f 10 = 115
    · simp only [if_neg c1, if_pos c2, eX9_isDone_102, eX9_isDone_103, eX9_isDone_104, eX9_isDone_107, eX9_isDone_110, eX9_isDone_111, eX9_isDone_112, eX9_isDone_113, eX9_isDone_116, eX9_isDone_117, rtv_at, rti_at, rtj_at, rtd_at, rta_at, qOk, qOkR, h0, ht, tX9, PX9_maySend, QX9_maySend, PX9_sends, QX9_sends, qa2, forall_eq, QX9_isDone, donG, donM, true_and, Swsf, Swpf, Swdf, Swtf, Swgf, Swhf, Swps, Swds, Swts, Swgs, Swhs, Swdp, Swtp, Swgp, Swhp, Swtd, Swgd, Swhd, Swgt, Swht, Swhg, Mff, Mfs, Mfp, Mfd, Mft, Mfg, Mfh, Wf, Msf, Mss, Msp, Msd, Mst, Msg, Msh, Ws, Mpf, Mps, Mpp, Mpd, Mpt, Mpg, Mph, Wp, Mdf, Mds, Mdp, Mdd, Mdt, Mdg, Mdh, Wd, Mtf, Mts, Mtp, Mtd, Mtt, Mtg, Mth, Wt, Mgf, Mgs, Mgp, Mgd, Mgt, Mgg, Mgh, Wg, Mhf, Mhs, Mhp, Mhd, Mht, Mhg, Mhh, Wh, mS_mm, mN_mm, mI_mm0, mI_mm1, mI_mm2, mI_mm3, mI_mm4, mI_mm5, mJ_mm, mm_mm, rd_mm, wR_mm0, wR_mm1, wR_mm2, wR_mm3, wR_mm4, wR_mm5, wL_mm, MoS_mm, obX9_mm, iA_mm, List.length_nil, List.length_cons, ll0, ll1, ll2, ll3, ll4, Nat.le_refl, and_true]
      by_cases g : mayS m.s 1
      · have g' := (may_ok (k := 1) h9 hn h10 hf (by decide)).mp g
        have gd : decide (mayS m.s 1) = true := decide_eq_true g
        simp only [if_pos g, if_pos gd, one0, eq_self, or_true, true_or, not_true_eq_false, not_false_eq_true, true_imp_iff, false_imp_iff, true_and, and_true, Classical.not_not]
        exact ⟨⟨n, by omega, h9⟩, f, hf, h10⟩
      · have gd : ¬ decide (mayS m.s 1) = true := fun z => g (of_decide_eq_true z)
        simp only [if_neg g, if_neg gd, one0, eq_self, or_true, true_or, not_true_eq_false, not_false_eq_true, true_imp_iff, false_imp_iff, true_and, and_true, Classical.not_not]
    · by_cases c3 : m.f 10 = 100
      · simp only [if_neg c1, if_neg c2, if_pos c3, eX9_isDone_118, eX9_isDone_119, eX9_isDone_120, eX9_isDone_123, eX9_isDone_126, eX9_isDone_129, eX9_isDone_130, eX9_isDone_133, eX9_isDone_134, gX9_11, h1, rtv_at, rti_at, rtj_at, rtd_at, rta_at, qOk, qOkR, h0, ht, tX9, PX9_delivers, QX9_delivers, dl, qa2, forall_eq, QX9_isDone, donG, donM, true_and, if_pos (show m.f 10 = 100 ∨ m.f 10 = 108 from Or.inl c3), Swsf, Swpf, Swdf, Swtf, Swgf, Swhf, Swps, Swds, Swts, Swgs, Swhs, Swdp, Swtp, Swgp, Swhp, Swtd, Swgd, Swhd, Swgt, Swht, Swhg, Mff, Mfs, Mfp, Mfd, Mft, Mfg, Mfh, Wf, Msf, Mss, Msp, Msd, Mst, Msg, Msh, Ws, Mpf, Mps, Mpp, Mpd, Mpt, Mpg, Mph, Wp, Mdf, Mds, Mdp, Mdd, Mdt, Mdg, Mdh, Wd, Mtf, Mts, Mtp, Mtd, Mtt, Mtg, Mth, Wt, Mgf, Mgs, Mgp, Mgd, Mgt, Mgg, Mgh, Wg, Mhf, Mhs, Mhp, Mhd, Mht, Mhg, Mhh, Wh, mS_mm, mN_mm, mI_mm0, mI_mm1, mI_mm2, mI_mm3, mI_mm4, mI_mm5, mJ_mm, mm_mm, rd_mm, wR_mm0, wR_mm1, wR_mm2, wR_mm3, wR_mm4, wR_mm5, wL_mm, MoS_mm, obX9_mm, iA_mm, List.length_nil, List.length_cons, ll0, ll1, ll2, ll3, ll4, Nat.le_refl, and_true]
        by_cases g : inL m.s 10 (m.f 11)
        · have gd : decide (inL m.s 10 (m.f 11)) = true := decide_eq_true g
          simp only [if_pos g, if_pos gd, one0, eq_self, or_true, true_or, not_true_eq_false, not_false_eq_true, true_imp_iff, false_imp_iff, true_and, and_true, Classical.not_not]
        · have gd : ¬ decide (inL m.s 10 (m.f 11)) = true := fun z => g (of_decide_eq_true z)
          simp only [if_neg g, if_neg gd, one0, eq_self, or_true, true_or, not_true_eq_false, not_false_eq_true, true_imp_iff, false_imp_iff, true_and, and_true, Classical.not_not]
      · by_cases c4 : m.f 10 = 108
        · simp only [if_neg c1, if_neg c2, if_neg c3, if_pos c4, eX9_isDone_135, eX9_isDone_136, eX9_isDone_138, eX9_isDone_139, eX9_isDone_142, eX9_isDone_145, eX9_isDone_148, eX9_isDone_149, eX9_isDone_152, eX9_isDone_153, gX9_11, h1, rtv_at, rti_at, rtj_at, rtd_at, rta_at, qOk, qOkR, h0, ht, tX9, PX9_loses, QX9_loses, p10, qa2, forall_eq, QX9_isDone, donG, donM, true_and, if_pos (show m.f 10 = 100 ∨ m.f 10 = 108 from Or.inr c4), cl_0, vl_0, cl_1, vl_1, cl_2, vl_2, cl_3, vl_3, cl_4, vl_4, cl_5, vl_5, cl_6, vl_6, cl_7, vl_7, cl_8, vl_8, cl_9, vl_9, cl_10, vl_10, cl_11, vl_11, cl_12, vl_12, cl_13, vl_13, cl_14, vl_14, cl_15, vl_15, cl_16, vl_16, cl_17, vl_17, cl_18, vl_18, cl_19, vl_19, cl_20, vl_20, cl_21, vl_21, cl_22, vl_22, cl_23, vl_23, cl_24, vl_24, cl_25, vl_25, cl_26, vl_26, cl_27, vl_27, cl_28, vl_28, cl_29, vl_29, cl_30, vl_30, cl_31, vl_31, cl_32, vl_32, cl_33, vl_33, cl_34, vl_34, cl_35, vl_35, cl_36, vl_36, cl_37, vl_37, cl_38, vl_38, cl_39, vl_39, cl_40, vl_40, cl_41, vl_41, cl_42, vl_42, cl_43, vl_43, cl_44, vl_44, cl_45, vl_45, cl_46, vl_46, cl_47, vl_47, cl_48, vl_48, cl_49, vl_49, cl_50, vl_50, cl_51, vl_51, cl_52, vl_52, cl_53, vl_53, cl_54, vl_54, cl_55, vl_55, cl_56, vl_56, cl_57, vl_57, cl_58, vl_58, cl_59, vl_59, cl_60, vl_60, cl_61, vl_61, cl_62, vl_62, cl_63, vl_63, cl_64, vl_64, cl_65, vl_65, cl_66, vl_66, Swsf, Swpf, Swdf, Swtf, Swgf, Swhf, Swps, Swds, Swts, Swgs, Swhs, Swdp, Swtp, Swgp, Swhp, Swtd, Swgd, Swhd, Swgt, Swht, Swhg, Mff, Mfs, Mfp, Mfd, Mft, Mfg, Mfh, Wf, Msf, Mss, Msp, Msd, Mst, Msg, Msh, Ws, Mpf, Mps, Mpp, Mpd, Mpt, Mpg, Mph, Wp, Mdf, Mds, Mdp, Mdd, Mdt, Mdg, Mdh, Wd, Mtf, Mts, Mtp, Mtd, Mtt, Mtg, Mth, Wt, Mgf, Mgs, Mgp, Mgd, Mgt, Mgg, Mgh, Wg, Mhf, Mhs, Mhp, Mhd, Mht, Mhg, Mhh, Wh, mS_mm, mN_mm, mI_mm0, mI_mm1, mI_mm2, mI_mm3, mI_mm4, mI_mm5, mJ_mm, mm_mm, rd_mm, wR_mm0, wR_mm1, wR_mm2, wR_mm3, wR_mm4, wR_mm5, wL_mm, MoS_mm, obX9_mm, iA_mm, List.length_nil, List.length_cons, ll0, ll1, ll2, ll3, ll4, Nat.le_refl, and_true]
          by_cases g : inL m.s 10 (m.f 11)
          · have gd : decide (inL m.s 10 (m.f 11)) = true := decide_eq_true g
            simp only [if_pos g, if_pos gd, one0, eq_self, or_true, true_or, not_true_eq_false, not_false_eq_true, true_imp_iff, false_imp_iff, true_and, and_true, Classical.not_not]
          · have gd : ¬ decide (inL m.s 10 (m.f 11)) = true := fun z => g (of_decide_eq_true z)
            simp only [if_neg g, if_neg gd, one0, eq_self, or_true, true_or, not_true_eq_false, not_false_eq_true, true_imp_iff, false_imp_iff, true_and, and_true, Classical.not_not]
        · have c34 : ¬ (m.f 10 = 100 ∨ m.f 10 = 108) := fun z => z.elim c3 c4
          by_cases c5 : m.f 10 = 99
          · simp only [if_neg c1, if_neg c2, if_neg c3, if_neg c4, if_pos c5, if_neg c34, eX9_isDone_154, eX9_isDone_155, eX9_isDone_156, eX9_isDone_159, eX9_isDone_162, eX9_isDone_165, eX9_isDone_166, eX9_isDone_169, eX9_isDone_170, gX9_11, h1, rtv_at, rti_at, rtj_at, rtd_at, rta_at, qOk, qOkR, h0, ht, tX9, PX9_copies, QX9_copies, p10', qa2, forall_eq, QX9_isDone, donG, donM, true_and, Swsf, Swpf, Swdf, Swtf, Swgf, Swhf, Swps, Swds, Swts, Swgs, Swhs, Swdp, Swtp, Swgp, Swhp, Swtd, Swgd, Swhd, Swgt, Swht, Swhg, Mff, Mfs, Mfp, Mfd, Mft, Mfg, Mfh, Wf, Msf, Mss, Msp, Msd, Mst, Msg, Msh, Ws, Mpf, Mps, Mpp, Mpd, Mpt, Mpg, Mph, Wp, Mdf, Mds, Mdp, Mdd, Mdt, Mdg, Mdh, Wd, Mtf, Mts, Mtp, Mtd, Mtt, Mtg, Mth, Wt, Mgf, Mgs, Mgp, Mgd, Mgt, Mgg, Mgh, Wg, Mhf, Mhs, Mhp, Mhd, Mht, Mhg, Mhh, Wh, mS_mm, mN_mm, mI_mm0, mI_mm1, mI_mm2, mI_mm3, mI_mm4, mI_mm5, mJ_mm, mm_mm, rd_mm, wR_mm0, wR_mm1, wR_mm2, wR_mm3, wR_mm4, wR_mm5, wL_mm, MoS_mm, obX9_mm, iA_mm, List.length_nil, List.length_cons, ll0, ll1, ll2, ll3, ll4, Nat.le_refl, and_true]
            by_cases g : cpyR m.s (m.f 11) = 0
            · have gd : decide (cpyR m.s (m.f 11) = 0) = true := decide_eq_true g
              simp only [if_pos g, if_pos gd]
              exact ⟨fun z => absurd g z, fun _ => by simp⟩
            · have gd : ¬ decide (cpyR m.s (m.f 11) = 0) = true := fun z => g (of_decide_eq_true z)
              simp only [if_neg g, if_neg gd]
              exact ⟨fun _ => by simp, fun z => absurd g z⟩
          · by_cases c6 : m.f 10 = 97
            · simp only [if_neg c1, if_neg c2, if_neg c3, if_neg c4, if_neg c5, if_pos c6, if_neg c34, eX9_isDone_171, eX9_isDone_172, eX9_isDone_173, eX9_isDone_176, eX9_isDone_179, eX9_isDone_182, eX9_isDone_183, eX9_isDone_186, eX9_isDone_187, gX9_11, h1, rtv_at, rti_at, rtj_at, rtd_at, rta_at, qOk, qOkR, h0, ht, tX9, PX9_returns, QX9_returns, bk, qa2, forall_eq, QX9_isDone, donG, donM, true_and, Swsf, Swpf, Swdf, Swtf, Swgf, Swhf, Swps, Swds, Swts, Swgs, Swhs, Swdp, Swtp, Swgp, Swhp, Swtd, Swgd, Swhd, Swgt, Swht, Swhg, Mff, Mfs, Mfp, Mfd, Mft, Mfg, Mfh, Wf, Msf, Mss, Msp, Msd, Mst, Msg, Msh, Ws, Mpf, Mps, Mpp, Mpd, Mpt, Mpg, Mph, Wp, Mdf, Mds, Mdp, Mdd, Mdt, Mdg, Mdh, Wd, Mtf, Mts, Mtp, Mtd, Mtt, Mtg, Mth, Wt, Mgf, Mgs, Mgp, Mgd, Mgt, Mgg, Mgh, Wg, Mhf, Mhs, Mhp, Mhd, Mht, Mhg, Mhh, Wh, mS_mm, mN_mm, mI_mm0, mI_mm1, mI_mm2, mI_mm3, mI_mm4, mI_mm5, mJ_mm, mm_mm, rd_mm, wR_mm0, wR_mm1, wR_mm2, wR_mm3, wR_mm4, wR_mm5, wL_mm, MoS_mm, obX9_mm, iA_mm, List.length_nil, List.length_cons, ll0, ll1, ll2, ll3, ll4, Nat.le_refl, and_true]
              by_cases g : inL m.s 31 (m.f 11)
              · have gd : decide (inL m.s 31 (m.f 11)) = true := decide_eq_true g
                simp only [if_pos g, if_pos gd, one0, eq_self, or_true, true_or, not_true_eq_false, not_false_eq_true, true_imp_iff, false_imp_iff, true_and, and_true, Classical.not_not]
              · have gd : ¬ decide (inL m.s 31 (m.f 11)) = true := fun z => g (of_decide_eq_true z)
                simp only [if_neg g, if_neg gd, one0, eq_self, or_true, true_or, not_true_eq_false, not_false_eq_true, true_imp_iff, false_imp_iff, true_and, and_true, Classical.not_not]
            · simp only [if_neg c1, if_neg c2, if_neg c3, if_neg c4, if_neg c5, if_neg c6, if_neg c34, eX9_isDone_188, eX9_isDone_189, eX9_isDone_191, eX9_isDone_192, eX9_isDone_195, eX9_isDone_198, eX9_isDone_201, eX9_isDone_202, eX9_isDone_205, eX9_isDone_206, gX9_11, h1, rtv_at, rti_at, rtj_at, rtd_at, rta_at, qOk, qOkR, h0, ht, tX9, PX9_loses, QX9_loses, p31, qa2, forall_eq, QX9_isDone, donG, donM, true_and, cl_0, vl_0, cl_1, vl_1, cl_2, vl_2, cl_3, vl_3, cl_4, vl_4, cl_5, vl_5, cl_6, vl_6, cl_7, vl_7, cl_8, vl_8, cl_9, vl_9, cl_10, vl_10, cl_11, vl_11, cl_12, vl_12, cl_13, vl_13, cl_14, vl_14, cl_15, vl_15, cl_16, vl_16, cl_17, vl_17, cl_18, vl_18, cl_19, vl_19, cl_20, vl_20, cl_21, vl_21, cl_22, vl_22, cl_23, vl_23, cl_24, vl_24, cl_25, vl_25, cl_26, vl_26, cl_27, vl_27, cl_28, vl_28, cl_29, vl_29, cl_30, vl_30, cl_31, vl_31, cl_32, vl_32, cl_33, vl_33, cl_34, vl_34, cl_35, vl_35, cl_36, vl_36, cl_37, vl_37, cl_38, vl_38, cl_39, vl_39, cl_40, vl_40, cl_41, vl_41, cl_42, vl_42, cl_43, vl_43, cl_44, vl_44, cl_45, vl_45, cl_46, vl_46, cl_47, vl_47, cl_48, vl_48, cl_49, vl_49, cl_50, vl_50, cl_51, vl_51, cl_52, vl_52, cl_53, vl_53, cl_54, vl_54, cl_55, vl_55, cl_56, vl_56, cl_57, vl_57, cl_58, vl_58, cl_59, vl_59, cl_60, vl_60, cl_61, vl_61, cl_62, vl_62, cl_63, vl_63, cl_64, vl_64, cl_65, vl_65, cl_66, vl_66, Swsf, Swpf, Swdf, Swtf, Swgf, Swhf, Swps, Swds, Swts, Swgs, Swhs, Swdp, Swtp, Swgp, Swhp, Swtd, Swgd, Swhd, Swgt, Swht, Swhg, Mff, Mfs, Mfp, Mfd, Mft, Mfg, Mfh, Wf, Msf, Mss, Msp, Msd, Mst, Msg, Msh, Ws, Mpf, Mps, Mpp, Mpd, Mpt, Mpg, Mph, Wp, Mdf, Mds, Mdp, Mdd, Mdt, Mdg, Mdh, Wd, Mtf, Mts, Mtp, Mtd, Mtt, Mtg, Mth, Wt, Mgf, Mgs, Mgp, Mgd, Mgt, Mgg, Mgh, Wg, Mhf, Mhs, Mhp, Mhd, Mht, Mhg, Mhh, Wh, mS_mm, mN_mm, mI_mm0, mI_mm1, mI_mm2, mI_mm3, mI_mm4, mI_mm5, mJ_mm, mm_mm, rd_mm, wR_mm0, wR_mm1, wR_mm2, wR_mm3, wR_mm4, wR_mm5, wL_mm, MoS_mm, obX9_mm, iA_mm, List.length_nil, List.length_cons, ll0, ll1, ll2, ll3, ll4, Nat.le_refl, and_true]
              by_cases g : inL m.s 31 (m.f 11)
              · have gd : decide (inL m.s 31 (m.f 11)) = true := decide_eq_true g
                simp only [if_pos g, if_pos gd, one0, eq_self, or_true, true_or, not_true_eq_false, not_false_eq_true, true_imp_iff, false_imp_iff, true_and, and_true, Classical.not_not]
              · have gd : ¬ decide (inL m.s 31 (m.f 11)) = true := fun z => g (of_decide_eq_true z)
                simp only [if_neg g, if_neg gd, one0, eq_self, or_true, true_or, not_true_eq_false, not_false_eq_true, true_imp_iff, false_imp_iff, true_and, and_true, Classical.not_not]
theorem xX9_isOrder_l3 (o b n : Nat) (a1 a2 a3 : Option Value) (ν : qMM) (m : Mod) (h0 : MoS ν o) (hb : b ≤ 200) (hn : n ≤ 100) (h9 : m.f 9 = nI b) (h5 : m.f 5 = nI n) (R : Option Value → qMM → Nat × Nat → Prop) (X : String → qMM → Nat × Nat → Prop) (hR1 : b < n → m.t b = 59 → R (some (.int 1)) (mm ν o (m.wf (upd m.f 9 (nI (b + 1))))) (0, 0)) (hR0 : ¬ (b < n ∧ m.t b = 59) → R (some (.int 0)) (mm ν o m) (0, 0)) : EX (SX9_isOrder R X) 180 [some (.ref o), a1, a2, a3] [] [] (mm ν o m) (0, 0) := by
  obtain ⟨h1, -, -, -, h5', -⟩ := id h0
  have hlt : (nI b < nI n) ↔ b < n := nI_ltI (by omega) (by omega)
  simp only [eX9_isOrder_180, eX9_isOrder_181, eX9_isOrder_184, eX9_isOrder_185, eX9_isOrder_188, eX9_isOrder_191, eX9_isOrder_192, eX9_isOrder_195, eX9_isOrder_196, eX9_isOrder_199, eX9_isOrder_200, eX9_isOrder_202, eX9_isOrder_205, eX9_isOrder_206, eX9_isOrder_207, eX9_isOrder_208r, eX9_isOrder_209, eX9_isOrder_212, eX9_isOrder_213, eX9_isOrder_214, eX9_isOrder_217, eX9_isOrder_218, gX9_4, gX9_5, gX9_9, pX9_9, qA100, h1, h5', h9, h5, nIC (show b < 1000000 by omega), nI_1, wI_def, qOk, true_and, Swsf, Swpf, Swdf, Swtf, Swgf, Swhf, Swps, Swds, Swts, Swgs, Swhs, Swdp, Swtp, Swgp, Swhp, Swtd, Swgd, Swhd, Swgt, Swht, Swhg, Mff, Mfs, Mfp, Mfd, Mft, Mfg, Mfh, Wf, Msf, Mss, Msp, Msd, Mst, Msg, Msh, Ws, Mpf, Mps, Mpp, Mpd, Mpt, Mpg, Mph, Wp, Mdf, Mds, Mdp, Mdd, Mdt, Mdg, Mdh, Wd, Mtf, Mts, Mtp, Mtd, Mtt, Mtg, Mth, Wt, Mgf, Mgs, Mgp, Mgd, Mgt, Mgg, Mgh, Wg, Mhf, Mhs, Mhp, Mhd, Mht, Mhg, Mhh, Wh, mS_mm, mN_mm, mI_mm0, mI_mm1, mI_mm2, mI_mm3, mI_mm4, mI_mm5, mJ_mm, mm_mm, rd_mm, wR_mm0, wR_mm1, wR_mm2, wR_mm3, wR_mm4, wR_mm5, wL_mm, MoS_mm, obX9_mm, iA_mm]
  by_cases g : b < n
  · have g' := hlt.mpr g
    refine ⟨fun z => absurd g' (Int32.not_lt.mpr z), fun _ => ⟨vp100 (by omega), fun q => ⟨by simp, hR1 g q⟩, fun q => ⟨by simp, hR0 (fun z => q z.2)⟩⟩⟩
  · exact ⟨fun _ => ⟨by simp, hR0 (fun z => g z.1)⟩, fun z => absurd (Int32.not_lt.mp (fun y => g (hlt.mp y))) z⟩
theorem xX9_isOrder_l1 (o : Nat) (c : Int32) (a1 a2 a3 : Option Value) (ν : qMM) (m : Mod) (h0 : MoS ν o) (hc : m.f 10 = c) (R : Option Value → qMM → Nat × Nat → Prop) (X : String → qMM → Nat × Nat → Prop) (hR : EX (SX9_isOrder R X) 64 [some (.ref o), some (.int (if isNum c then 1 else 0)), a2, a3] [] [] (mm ν o m) (0, 0)) : EX (SX9_isOrder R X) 13 [some (.ref o), a1, a2, a3] [] [] (mm ν o m) (0, 0) := by
  obtain ⟨h1, -⟩ := id h0
  simp only [eX9_isOrder_13, eX9_isOrder_14, eX9_isOrder_17, eX9_isOrder_19, eX9_isOrder_22, eX9_isOrder_23, eX9_isOrder_26, eX9_isOrder_28, eX9_isOrder_31, eX9_isOrder_32, eX9_isOrder_35, eX9_isOrder_37, eX9_isOrder_40, eX9_isOrder_41, eX9_isOrder_44, eX9_isOrder_46, eX9_isOrder_49, eX9_isOrder_50, eX9_isOrder_53, eX9_isOrder_55, eX9_isOrder_58, eX9_isOrder_59, eX9_isOrder_62, eX9_isOrder_63, gX9_10, h1, hc, Swsf, Swpf, Swdf, Swtf, Swgf, Swhf, Swps, Swds, Swts, Swgs, Swhs, Swdp, Swtp, Swgp, Swhp, Swtd, Swgd, Swhd, Swgt, Swht, Swhg, Mff, Mfs, Mfp, Mfd, Mft, Mfg, Mfh, Wf, Msf, Mss, Msp, Msd, Mst, Msg, Msh, Ws, Mpf, Mps, Mpp, Mpd, Mpt, Mpg, Mph, Wp, Mdf, Mds, Mdp, Mdd, Mdt, Mdg, Mdh, Wd, Mtf, Mts, Mtp, Mtd, Mtt, Mtg, Mth, Wt, Mgf, Mgs, Mgp, Mgd, Mgt, Mgg, Mgh, Wg, Mhf, Mhs, Mhp, Mhd, Mht, Mhg, Mhh, Wh, mS_mm, mN_mm, mI_mm0, mI_mm1, mI_mm2, mI_mm3, mI_mm4, mI_mm5, mJ_mm, mm_mm, rd_mm, wR_mm0, wR_mm1, wR_mm2, wR_mm3, wR_mm4, wR_mm5, wL_mm, MoS_mm, obX9_mm, iA_mm]
  by_cases g : isNum c
  · rw [if_pos g] at hR
    refine ⟨fun _ => hR, fun g1 => ⟨fun _ => hR, fun g2 => ⟨fun _ => hR, fun g3 => ⟨fun _ => hR, fun g4 => ⟨fun g5 => ?_, fun _ => hR⟩⟩⟩⟩⟩
    rcases g with q | q | q | q | q
    · exact absurd q g1
    · exact absurd q g2
    · exact absurd q g3
    · exact absurd q g4
    · exact absurd q g5
  · rw [if_neg g] at hR
    exact ⟨fun q => absurd (Or.inl q) g, fun g1 => ⟨fun q => absurd (Or.inr (Or.inl q)) g, fun g2 => ⟨fun q => absurd (Or.inr (Or.inr (Or.inl q))) g, fun g3 => ⟨fun q => absurd (Or.inr (Or.inr (Or.inr (Or.inl q)))) g, fun g4 => ⟨fun g5 => hR, fun q => absurd (Or.inr (Or.inr (Or.inr (Or.inr (Classical.not_not.mp q))))) g⟩⟩⟩⟩⟩
/-- one digit is read -/
theorem xX9_isOrder_l2 (o b n : Nat) (k num : Int32) (a3 : Option Value) (ν : qMM) (m : Mod) (h0 : MoS ν o) (ht : ∃ t, mS ν o = some (Sum.inl (8, t))) (hb : b ≤ 200) (hn : n ≤ 100) (h9 : m.f 9 = nI b) (h5 : m.f 5 = nI n) (h11 : m.f 11 = num) (hk : k < 2) (R : Option Value → qMM → Nat × Nat → Prop) (X : String → qMM → Nat × Nat → Prop) (hR0 : dgF m.t n b = -1 → k = 0 → R (some (.int 0)) (mm ν o m) (0, 0)) (hR1 : dgF m.t n b = -1 → ¬ k = 0 → ∀ a, EX (SX9_isOrder R X) 105 [some (.ref o), some (.int 1), some (.int (k + 1)), a] [] [] (mm ν o m) (0, 0)) (hR2 : ¬ dgF m.t n b = -1 → ∀ a, EX (SX9_isOrder R X) 105 [some (.ref o), some (.int 1), some (.int (k + 1)), a] [] [] (mm ν o (m.wf (upd (upd m.f 11 (10 * num + dgF m.t n b)) 9 (nI (b + 1))))) (0, 0)) : EX (SX9_isOrder R X) 105 [some (.ref o), some (.int 1), some (.int k), a3] [] [] (mm ν o m) (0, 0) := by
  obtain ⟨h1, -, -, -, h5', -⟩ := id h0
  have es : upd m.f 11 num = m.f := by
    funext j
    rw [updE]
    split
    · rename_i e
      rw [e, h11]
    · rfl
  have es9 : upd m.f 9 (nI b + 0) = m.f := by
    funext j
    rw [updE]
    split
    · rename_i e
      rw [e, h9]
      simp
    · rfl
  have ew : m.wf m.f = m := by cases m; rfl
  rw [eX9_isOrder_105]
  simp only [eX9_isOrder_106, eX9_isOrder_107, eX9_isOrder_110, eX9_isOrder_111, eX9_isOrder_114, eX9_isOrder_115, eX9_isOrder_118, eX9_isOrder_119, eX9_isOrder_120, eX9_isOrder_121, eX9_isOrder_124, eX9_isOrder_125, eX9_isOrder_128, eX9_isOrder_129, eX9_isOrder_130, eX9_isOrder_131, eX9_isOrder_132, eX9_isOrder_133, eX9_isOrder_136, eX9_isOrder_137, eX9_isOrder_140, eX9_isOrder_143, eX9_isOrder_145, eX9_isOrder_146, eX9_isOrder_149, eX9_isOrder_150, eX9_isOrder_151, eX9_isOrder_152, eX9_isOrder_155, eX9_isOrder_156r, eX9_isOrder_157, eX9_isOrder_160, eX9_isOrder_161, eX9_isOrder_162, eX9_isOrder_165, eX9_isOrder_166, eX9_isOrder_169, eX9_isOrder_170, eX9_isOrder_171, eX9_isOrder_174, eX9_isOrder_177, gX9_9, gX9_11, pX9_9, pX9_11, h0, h1, ht, tX9, obX9_wR, PX9_digitHere, QX9_digitHere, txOK, qa2, forall_eq, h9, h5, h11, nIC (show b < 1000000 by omega), nIC (show n < 1000000 by omega), wI_def, qOk, true_and, Swsf, Swpf, Swdf, Swtf, Swgf, Swhf, Swps, Swds, Swts, Swgs, Swhs, Swdp, Swtp, Swgp, Swhp, Swtd, Swgd, Swhd, Swgt, Swht, Swhg, Mff, Mfs, Mfp, Mfd, Mft, Mfg, Mfh, Wf, Msf, Mss, Msp, Msd, Mst, Msg, Msh, Ws, Mpf, Mps, Mpp, Mpd, Mpt, Mpg, Mph, Wp, Mdf, Mds, Mdp, Mdd, Mdt, Mdg, Mdh, Wd, Mtf, Mts, Mtp, Mtd, Mtt, Mtg, Mth, Wt, Mgf, Mgs, Mgp, Mgd, Mgt, Mgg, Mgh, Wg, Mhf, Mhs, Mhp, Mhd, Mht, Mhg, Mhh, Wh, mS_mm, mN_mm, mI_mm0, mI_mm1, mI_mm2, mI_mm3, mI_mm4, mI_mm5, mJ_mm, mm_mm, rd_mm, wR_mm0, wR_mm1, wR_mm2, wR_mm3, wR_mm4, wR_mm5, wL_mm, MoS_mm, obX9_mm, iA_mm, List.length_nil, List.length_cons, ll0, ll1, ll2, ll3, ll4, Nat.le_refl, and_true, one0, eq_self, not_true_eq_false, not_false_eq_true, true_imp_iff, false_imp_iff, true_and, and_true, Classical.not_not]
  have e11 : ∀ v, upd m.f 11 v 9 = nI b := fun v => by rw [upd_n (by decide), h9]
  refine ⟨fun z => absurd hk (Int32.not_lt.mpr z), fun _ => ⟨⟨b, n, hb, rfl, rfl, hn⟩, fun g => ?_, fun g => ⟨fun q => ?_, fun q => ?_⟩⟩⟩
  · simp only [g, one0, eq_self, not_true_eq_false, not_false_eq_true, true_imp_iff, false_imp_iff, true_and, and_true, Classical.not_not, e11, nI_1]
    exact hR2 g _
  · simp only [es, es9, ew, g, h9, one0, eq_self, not_true_eq_false, not_false_eq_true, true_imp_iff, false_imp_iff, true_and, and_true, Classical.not_not]
    exact hR1 g q _
  · exact ⟨by simp, hR0 g q⟩
theorem xX9_isOrder_p {ν : qMM} {o a n : Nat} {m : Mod} {r : Int32} {μ' : qMM} (hk : txOK m a n) (han : a < n) (hr : r = (if ordG m.t n a then 1 else 0)) (hf : ∃ f', scr m.f f' ∧ f' 9 = nI (ordA m.t n a) ∧ (ordG m.t n a → f' 10 = m.t a ∧ f' 11 = ordN m.t n a) ∧ μ' = mm ν o (m.wf f')) : QX9_isOrder o (mm ν o m) r μ' := by
  intro a' n' h1 h2
  simp only [Swsf, Swpf, Swdf, Swtf, Swgf, Swhf, Swps, Swds, Swts, Swgs, Swhs, Swdp, Swtp, Swgp, Swhp, Swtd, Swgd, Swhd, Swgt, Swht, Swhg, Mff, Mfs, Mfp, Mfd, Mft, Mfg, Mfh, Wf, Msf, Mss, Msp, Msd, Mst, Msg, Msh, Ws, Mpf, Mps, Mpp, Mpd, Mpt, Mpg, Mph, Wp, Mdf, Mds, Mdp, Mdd, Mdt, Mdg, Mdh, Wd, Mtf, Mts, Mtp, Mtd, Mtt, Mtg, Mth, Wt, Mgf, Mgs, Mgp, Mgd, Mgt, Mgg, Mgh, Wg, Mhf, Mhs, Mhp, Mhd, Mht, Mhg, Mhh, Wh, mS_mm, mN_mm, mI_mm0, mI_mm1, mI_mm2, mI_mm3, mI_mm4, mI_mm5, mJ_mm, mm_mm, rd_mm, wR_mm0, wR_mm1, wR_mm2, wR_mm3, wR_mm4, wR_mm5, wL_mm, MoS_mm, obX9_mm, iA_mm] at h2
  obtain ⟨k9, k5, kn⟩ := hk
  obtain ⟨l9, l5, ln⟩ := h2
  have e1 : n' = n := (nI_eq (by omega) (by omega)).mp (l5.symm.trans k5)
  have e2 : a' = a := (nI_eq (by omega) (by omega)).mp (l9.symm.trans k9)
  subst e1 e2
  simp only [Swsf, Swpf, Swdf, Swtf, Swgf, Swhf, Swps, Swds, Swts, Swgs, Swhs, Swdp, Swtp, Swgp, Swhp, Swtd, Swgd, Swhd, Swgt, Swht, Swhg, Mff, Mfs, Mfp, Mfd, Mft, Mfg, Mfh, Wf, Msf, Mss, Msp, Msd, Mst, Msg, Msh, Ws, Mpf, Mps, Mpp, Mpd, Mpt, Mpg, Mph, Wp, Mdf, Mds, Mdp, Mdd, Mdt, Mdg, Mdh, Wd, Mtf, Mts, Mtp, Mtd, Mtt, Mtg, Mth, Wt, Mgf, Mgs, Mgp, Mgd, Mgt, Mgg, Mgh, Wg, Mhf, Mhs, Mhp, Mhd, Mht, Mhg, Mhh, Wh, mS_mm, mN_mm, mI_mm0, mI_mm1, mI_mm2, mI_mm3, mI_mm4, mI_mm5, mJ_mm, mm_mm, rd_mm, wR_mm0, wR_mm1, wR_mm2, wR_mm3, wR_mm4, wR_mm5, wL_mm, MoS_mm, obX9_mm, iA_mm]
  exact ⟨hr, hf⟩
theorem xX9_isOrder (o : Nat) (μ : qMM) (ht : ∃ t, mS μ o = some (.inl (8, t))) (hp : PX9_isOrder o μ) : EX (SX9_isOrder (rti 0 0 (QX9_isOrder o μ)) (fun _ _ _ => False)) 0 [some (.ref o), none, none, none] [] [] μ (0, 0) := by
  obtain ⟨ν, m, rfl⟩ := mm_ex μ o
  obtain ⟨h0, a, n, han, hk⟩ := hp
  obtain ⟨h1, h2, h3, h4, h5, h6⟩ := id h0
  have ht : ∃ t, mS ν o = some (Sum.inl (8, t)) := ht
  simp only [Swsf, Swpf, Swdf, Swtf, Swgf, Swhf, Swps, Swds, Swts, Swgs, Swhs, Swdp, Swtp, Swgp, Swhp, Swtd, Swgd, Swhd, Swgt, Swht, Swhg, Mff, Mfs, Mfp, Mfd, Mft, Mfg, Mfh, Wf, Msf, Mss, Msp, Msd, Mst, Msg, Msh, Ws, Mpf, Mps, Mpp, Mpd, Mpt, Mpg, Mph, Wp, Mdf, Mds, Mdp, Mdd, Mdt, Mdg, Mdh, Wd, Mtf, Mts, Mtp, Mtd, Mtt, Mtg, Mth, Wt, Mgf, Mgs, Mgp, Mgd, Mgt, Mgg, Mgh, Wg, Mhf, Mhs, Mhp, Mhd, Mht, Mhg, Mhh, Wh, mS_mm, mN_mm, mI_mm0, mI_mm1, mI_mm2, mI_mm3, mI_mm4, mI_mm5, mJ_mm, mm_mm, rd_mm, wR_mm0, wR_mm1, wR_mm2, wR_mm3, wR_mm4, wR_mm5, wL_mm, MoS_mm, obX9_mm, iA_mm] at hk h0 h1 h2 h3 h4 h5 h6
  obtain ⟨k9, k5, hn⟩ := id hk
  have fin : ∀ (r : Int32) (f' : Nat → Int32), r = (if ordG m.t n a then 1 else 0) → (∀ k, k ≠ 8 → k ≠ 9 → k ≠ 10 → k ≠ 11 → f' k = m.f k) → f' 9 = nI (ordA m.t n a) → (ordG m.t n a → f' 10 = m.t a ∧ f' 11 = ordN m.t n a) → rti 0 0 (QX9_isOrder o (mm ν o m)) (some (.int r)) (mm ν o (m.wf f')) (0, 0) := by
    intro r f' e1 e2 e3 e4
    rw [rti_at]
    exact ⟨xX9_isOrder_p hk han e1 ⟨f', e2, e3, e4, rfl⟩, by simp⟩
  simp only [eX9_isOrder_0, eX9_isOrder_1, eX9_isOrder_2, eX9_isOrder_5, eX9_isOrder_6, eX9_isOrder_9, eX9_isOrder_10, gX9_4, gX9_9, pX9_10, h1, h5, qA100, k9, vp100 (show a < 100 by omega), nIC (show a < 1000000 by omega), wI_def, true_and, Swsf, Swpf, Swdf, Swtf, Swgf, Swhf, Swps, Swds, Swts, Swgs, Swhs, Swdp, Swtp, Swgp, Swhp, Swtd, Swgd, Swhd, Swgt, Swht, Swhg, Mff, Mfs, Mfp, Mfd, Mft, Mfg, Mfh, Wf, Msf, Mss, Msp, Msd, Mst, Msg, Msh, Ws, Mpf, Mps, Mpp, Mpd, Mpt, Mpg, Mph, Wp, Mdf, Mds, Mdp, Mdd, Mdt, Mdg, Mdh, Wd, Mtf, Mts, Mtp, Mtd, Mtt, Mtg, Mth, Wt, Mgf, Mgs, Mgp, Mgd, Mgt, Mgg, Mgh, Wg, Mhf, Mhs, Mhp, Mhd, Mht, Mhg, Mhh, Wh, mS_mm, mN_mm, mI_mm0, mI_mm1, mI_mm2, mI_mm3, mI_mm4, mI_mm5, mJ_mm, mm_mm, rd_mm, wR_mm0, wR_mm1, wR_mm2, wR_mm3, wR_mm4, wR_mm5, wL_mm, MoS_mm, obX9_mm, iA_mm]
  refine xX9_isOrder_l1 o (m.t a) none none none ν (m.wf (upd m.f 10 (m.t a))) h0 (by rw [Mff, upd_s]) _ _ ?_
  have e9 : upd m.f 10 (m.t a) 9 = nI a := by rw [upd_n (by decide), k9]
  -- behind the letter
  have next : ∀ a1, EX (SX9_isOrder (rti 0 0 (QX9_isOrder o (mm ν o m))) (fun _ _ _ => False)) 105 [some (.ref o), some (.int a1), some (.int 0), none] [] [] (mm ν o (m.wf (upd (upd (upd m.f 10 (m.t a)) 9 (nI (a + 1))) 11 0))) (0, 0) → EX (SX9_isOrder (rti 0 0 (QX9_isOrder o (mm ν o m))) (fun _ _ _ => False)) 88 [some (.ref o), some (.int a1), none, none] [] [] (mm ν o (m.wf (upd m.f 10 (m.t a)))) (0, 0) := by
    intro a1 h
    simp only [eX9_isOrder_88, eX9_isOrder_89r, eX9_isOrder_90, eX9_isOrder_93, eX9_isOrder_94, eX9_isOrder_95, eX9_isOrder_98, eX9_isOrder_99, eX9_isOrder_100, eX9_isOrder_103, eX9_isOrder_104, gX9_9, pX9_9, pX9_11, h1, e9, nI_1, wI_def, Swsf, Swpf, Swdf, Swtf, Swgf, Swhf, Swps, Swds, Swts, Swgs, Swhs, Swdp, Swtp, Swgp, Swhp, Swtd, Swgd, Swhd, Swgt, Swht, Swhg, Mff, Mfs, Mfp, Mfd, Mft, Mfg, Mfh, Wf, Msf, Mss, Msp, Msd, Mst, Msg, Msh, Ws, Mpf, Mps, Mpp, Mpd, Mpt, Mpg, Mph, Wp, Mdf, Mds, Mdp, Mdd, Mdt, Mdg, Mdh, Wd, Mtf, Mts, Mtp, Mtd, Mtt, Mtg, Mth, Wt, Mgf, Mgs, Mgp, Mgd, Mgt, Mgg, Mgh, Wg, Mhf, Mhs, Mhp, Mhd, Mht, Mhg, Mhh, Wh, mS_mm, mN_mm, mI_mm0, mI_mm1, mI_mm2, mI_mm3, mI_mm4, mI_mm5, mJ_mm, mm_mm, rd_mm, wR_mm0, wR_mm1, wR_mm2, wR_mm3, wR_mm4, wR_mm5, wL_mm, MoS_mm, obX9_mm, iA_mm]
    exact h
  have d9 : upd (upd (upd m.f 10 (m.t a)) 9 (nI (a + 1))) 11 0 9 = nI (a + 1) := by rw [upd_n (by decide), upd_s]
  have d5 : upd (upd (upd m.f 10 (m.t a)) 9 (nI (a + 1))) 11 0 5 = nI n := by rw [upd_n (by decide), upd_n (by decide), upd_n (by decide), k5]
  have d11 : upd (upd (upd m.f 10 (m.t a)) 9 (nI (a + 1))) 11 0 11 = 0 := upd_s
  have o3 : ∀ (f : Nat → Int32) (u v w : Int32) (k : Nat), k ≠ 9 → k ≠ 10 → k ≠ 11 → upd (upd (upd f 10 u) 9 v) 11 w k = f k := fun f u v w k q9 q10 q11 => by rw [upd_n q11, upd_n q9, upd_n q10]
  by_cases g : isNum (m.t a)
  · simp only [if_pos g, eX9_isOrder_64, eX9_isOrder_65]
    refine ⟨fun _ => next 1 ?_, fun z => absurd (by decide) z⟩
    have sA : semA m.t n a = if dgF m.t n (a + 1) = -1 then a + 1 else if dgF m.t n (a + 2) = -1 then a + 2 else a + 3 := by unfold semA; rw [if_pos g]
    have sN : ordN m.t n a = if dgF m.t n (a + 1) = -1 then 0 else if dgF m.t n (a + 2) = -1 then dgF m.t n (a + 1) else 10 * dgF m.t n (a + 1) + dgF m.t n (a + 2) := by unfold ordN; rw [if_pos g]
    have hnp : ¬ isPla (m.t a) := by
      rcases g with q | q | q | q | q <;> rw [q] <;> decide
    have sE : ordE m.t n a = semA m.t n a := by unfold ordE; rw [if_pos (Or.inl g)]
    -- the end: the sign at b
    have last : ∀ (b : Nat) (num : Int32) (f' : Nat → Int32) (a2 a3 : Option Value), b = semA m.t n a → b ≤ 200 → num = ordN m.t n a → ¬ dgF m.t n (a + 1) = -1 → f' 9 = nI b → f' 5 = nI n → f' 10 = m.t a → f' 11 = num → (∀ k, k ≠ 8 → k ≠ 9 → k ≠ 10 → k ≠ 11 → f' k = m.f k) → EX (SX9_isOrder (rti 0 0 (QX9_isOrder o (mm ν o m))) (fun _ _ _ => False)) 180 [some (.ref o), some (.int 1), a2, a3] [] [] (mm ν o (m.wf f')) (0, 0) := by
      intro b num f' a2 a3 eb hb en hd f9 f5 f10 f11 fo
      have e0 : (m.wf f').wf (upd f' 9 (nI (b + 1))) = m.wf (upd f' 9 (nI (b + 1))) := by cases m; rfl
      refine xX9_isOrder_l3 o b n _ _ _ ν (m.wf f') h0 hb hn (by rw [Mff]; exact f9) (by rw [Mff]; exact f5) _ _ (fun q1 q2 => ?_) (fun q => ?_)
      · rw [Mft] at q2
        have G : ordG m.t n a := ⟨Or.inr ⟨g, hd⟩, by rw [← eb]; exact q1, by rw [← eb]; exact q2⟩
        rw [Mff, e0]
        refine fin 1 _ (by rw [if_pos G]) (fun k k8 k9 k10 k11 => by rw [upd_n k9, fo k k8 k9 k10 k11]) ?_ (fun _ => ⟨by rw [upd_n (by decide), f10], by rw [upd_n (by decide), f11, en]⟩)
        unfold ordA
        rw [if_pos G, upd_s, ← eb]
      · rw [Mft] at q
        have G : ¬ ordG m.t n a := fun z => q (by rw [eb]; exact z.2)
        refine fin 0 f' (by rw [if_neg G]) fo ?_ (fun z => absurd z G)
        unfold ordA
        rw [if_neg G, sE, ← eb, f9]
    refine xX9_isOrder_l2 o (a + 1) n 0 0 none ν _ h0 ht (by omega) hn (by rw [Mff]; exact d9) (by rw [Mff]; exact d5) (by rw [Mff]; exact d11) (by decide) _ _ (fun q _ => ?_) (fun _ z => absurd rfl z) (fun q a3 => ?_)
    · rw [Mft] at q
      have G : ¬ ordG m.t n a := fun z => z.1.elim hnp (fun y => y.2 q)
      refine fin 0 _ (by rw [if_neg G]) (fun k k8 k9 k10 k11 => o3 _ _ _ _ _ k9 k10 k11) ?_ (fun z => absurd z G)
      unfold ordA
      rw [if_neg G, sE, sA, if_pos q, d9]
    · rw [Mft] at q
      simp only [Mff, Mft, Wf]
      refine xX9_isOrder_l2 o (a + 2) n 1 (10 * 0 + dgF m.t n (a + 1)) a3 ν _ h0 ht (by omega) hn (by rw [Mff, upd_s]) (by rw [Mff, upd_n (by decide), upd_n (by decide), d5]) (by rw [Mff, upd_n (by decide), upd_s]) (by decide) _ _ (fun _ z => absurd z (by decide)) (fun q2 _ a4 => ?_) (fun q2 a4 => ?_)
      · rw [Mft] at q2
        rw [eX9_isOrder_105]
        simp only [eX9_isOrder_106, eX9_isOrder_107]
        refine ⟨fun _ => ?_, fun z => absurd (by decide) z⟩
        refine last (a + 2) (dgF m.t n (a + 1)) _ _ _ (by rw [sA, if_neg q, if_pos q2]) (by omega) (by rw [sN, if_neg q, if_pos q2]) q upd_s (by rw [upd_n (by decide), upd_n (by decide), d5]) (by rw [upd_n (by decide), upd_n (by decide), upd_n (by decide), upd_n (by decide), upd_s]) (by rw [upd_n (by decide), upd_s]; simp) (fun k k8 k9 k10 k11 => by rw [upd_n k9, upd_n k11, o3 _ _ _ _ _ k9 k10 k11])
      · rw [Mft] at q2
        simp only [Mff, Mft, Wf]
        rw [eX9_isOrder_105]
        simp only [eX9_isOrder_106, eX9_isOrder_107]
        refine ⟨fun _ => ?_, fun z => absurd (by decide) z⟩
        refine last (a + 3) (10 * dgF m.t n (a + 1) + dgF m.t n (a + 2)) _ _ _ (by rw [sA, if_neg q, if_neg q2]) (by omega) (by rw [sN, if_neg q, if_neg q2]) q upd_s (by rw [upd_n (by decide), upd_n (by decide), upd_n (by decide), upd_n (by decide), d5]) (by rw [upd_n (by decide), upd_n (by decide), upd_n (by decide), upd_n (by decide), upd_n (by decide), upd_n (by decide), upd_s]) (by rw [upd_n (by decide), upd_s]; simp) (fun k k8 k9 k10 k11 => by rw [upd_n k9, upd_n k11, upd_n k9, upd_n k11, o3 _ _ _ _ _ k9 k10 k11])
  · have sA : semA m.t n a = a + 1 := by unfold semA; rw [if_neg g]
    have sN : ordN m.t n a = 0 := by unfold ordN; rw [if_neg g]
    have plain : isPla (m.t a) → EX (SX9_isOrder (rti 0 0 (QX9_isOrder o (mm ν o m))) (fun _ _ _ => False)) 88 [some (.ref o), some (.int 0), none, none] [] [] (mm ν o (m.wf (upd m.f 10 (m.t a)))) (0, 0) := by
      intro pl
      have sE : ordE m.t n a = semA m.t n a := by unfold ordE; rw [if_pos (Or.inr pl)]
      refine next 0 ?_
      rw [eX9_isOrder_105]
      simp only [eX9_isOrder_106, eX9_isOrder_107, eX9_isOrder_110, eX9_isOrder_111]
      refine ⟨fun z => absurd z (by decide), fun _ => ⟨fun _ => ?_, fun z => absurd trivial z⟩⟩
      refine xX9_isOrder_l3 o (a + 1) n _ _ _ ν _ h0 (by omega) hn (by rw [Mff]; exact d9) (by rw [Mff]; exact d5) _ _ (fun q1 q2 => ?_) (fun q => ?_)
      · rw [Mft] at q2
        have G : ordG m.t n a := ⟨Or.inl pl, by rw [sA]; exact q1, by rw [sA]; exact q2⟩
        simp only [Mff, Wf]
        refine fin 1 _ (by rw [if_pos G]) (fun k k8 k9 k10 k11 => by rw [upd_n k9, o3 _ _ _ _ _ k9 k10 k11]) ?_ (fun _ => ⟨by rw [upd_n (by decide), upd_n (by decide), upd_n (by decide), upd_s], by rw [upd_n (by decide), d11, sN]⟩)
        unfold ordA
        rw [if_pos G, upd_s, sA]
      · rw [Mft] at q
        have G : ¬ ordG m.t n a := fun z => q (by rw [← sA]; exact z.2)
        refine fin 0 _ (by rw [if_neg G]) (fun k k8 k9 k10 k11 => o3 _ _ _ _ _ k9 k10 k11) ?_ (fun z => absurd z G)
        unfold ordA
        rw [if_neg G, sE, sA, d9]
    have e10 : upd m.f 10 (m.t a) 10 = m.t a := upd_s
    simp only [if_neg g, eX9_isOrder_64, eX9_isOrder_65, eX9_isOrder_68, eX9_isOrder_69, eX9_isOrder_72, eX9_isOrder_74, eX9_isOrder_77, eX9_isOrder_78, eX9_isOrder_81, eX9_isOrder_83, eX9_isOrder_86, eX9_isOrder_87, gX9_10, h1, e10, qOk, Swsf, Swpf, Swdf, Swtf, Swgf, Swhf, Swps, Swds, Swts, Swgs, Swhs, Swdp, Swtp, Swgp, Swhp, Swtd, Swgd, Swhd, Swgt, Swht, Swhg, Mff, Mfs, Mfp, Mfd, Mft, Mfg, Mfh, Wf, Msf, Mss, Msp, Msd, Mst, Msg, Msh, Ws, Mpf, Mps, Mpp, Mpd, Mpt, Mpg, Mph, Wp, Mdf, Mds, Mdp, Mdd, Mdt, Mdg, Mdh, Wd, Mtf, Mts, Mtp, Mtd, Mtt, Mtg, Mth, Wt, Mgf, Mgs, Mgp, Mgd, Mgt, Mgg, Mgh, Wg, Mhf, Mhs, Mhp, Mhd, Mht, Mhg, Mhh, Wh, mS_mm, mN_mm, mI_mm0, mI_mm1, mI_mm2, mI_mm3, mI_mm4, mI_mm5, mJ_mm, mm_mm, rd_mm, wR_mm0, wR_mm1, wR_mm2, wR_mm3, wR_mm4, wR_mm5, wL_mm, MoS_mm, obX9_mm, iA_mm]
    refine ⟨fun z => absurd trivial z, fun _ => ⟨fun q => plain (Or.inl q), fun q1 => ⟨fun q => plain (Or.inr q), fun q2 => ⟨by simp, ?_⟩⟩⟩⟩
    have hnp : ¬ isPla (m.t a) := fun z => z.elim q1 q2
    have G : ¬ ordG m.t n a := fun z => z.1.elim hnp (fun y => g y.1)
    refine fin 0 _ (by rw [if_neg G]) (fun k k8 k9 k10 k11 => by rw [upd_n k10]) ?_ (fun z => absurd z G)
    unfold ordA ordE
    rw [if_neg G, if_neg (fun z => z.elim g hnp), e9]
