/-! ===== bodies: the reference's calls within ===== -/
theorem xX9_mix (o : Nat) (x1 : Int32) (μ : qMM) (ht : ∃ t, mS μ o = some (.inl (8, t))) (hp : PX9_mix o x1 μ) : EX (SX9_mix (rtv 0 0 (QX9_mix o x1 μ)) (fun _ _ _ => False)) 0 [some (.ref o), some (.int x1)] [] [] μ (0, 0) := by
  obtain ⟨ν, m, rfl⟩ := mm_ex μ o
  obtain ⟨h1, h2⟩ := hp
  simp only [eX9_mix_0, eX9_mix_1, eX9_mix_4, eX9_mix_5, eX9_mix_8, eX9_mix_9, eX9_mix_10, eX9_mix_11, eX9_mix_12, eX9_mix_15, rtv_at, rti_at, rtj_at, rtd_at, rta_at, qOk, qOkR, gX9_12, pX9_12, h1, QX9_mix, Swsf, Swpf, Swdf, Swtf, Swgf, Swhf, Swps, Swds, Swts, Swgs, Swhs, Swdp, Swtp, Swgp, Swhp, Swtd, Swgd, Swhd, Swgt, Swht, Swhg, Mff, Mfs, Mfp, Mfd, Mft, Mfg, Mfh, Wf, Msf, Mss, Msp, Msd, Mst, Msg, Msh, Ws, Mpf, Mps, Mpp, Mpd, Mpt, Mpg, Mph, Wp, Mdf, Mds, Mdp, Mdd, Mdt, Mdg, Mdh, Wd, Mtf, Mts, Mtp, Mtd, Mtt, Mtg, Mth, Wt, Mgf, Mgs, Mgp, Mgd, Mgt, Mgg, Mgh, Wg, Mhf, Mhs, Mhp, Mhd, Mht, Mhg, Mhh, Wh, mS_mm, mN_mm, mI_mm0, mI_mm1, mI_mm2, mI_mm3, mI_mm4, mI_mm5, mJ_mm, mm_mm, rd_mm, wR_mm0, wR_mm1, wR_mm2, wR_mm3, wR_mm4, wR_mm5, wL_mm, MoS_mm, obX9_mm, iA_mm, true_and, mixF]
  simp
theorem xX9_mixAll_l (o a n : Nat) (ν : qMM) (m : Mod) (h0 : MoS ν o) (hn : a + n ≤ 5514) (ht : ∃ t, mS ν o = some (Sum.inl (8, t))) (R : Option Value → qMM → Nat × Nat → Prop) (X : String → qMM → Nat × Nat → Prop) (hR : R none (mm ν o (m.wh (mixL m.s a m.h n))) (0, 0)) : ∀ c k : Nat, k + c = n → EX (SX9_mixAll R X) 2 [some (.ref o), some (.int (nI a)), some (.int (nI n)), some (.int (nI k))] [] [] (mm ν o (m.wh (mixL m.s a m.h k))) (0, 0) := by
  obtain ⟨h1, h2, h3⟩ := id h0
  intro c
  induction c with
  | zero =>
    intro k hk
    have : k = n := by omega
    subst this
    rw [eX9_mixAll_2]
    simp only [eX9_mixAll_3, eX9_mixAll_4, eX9_mixAll_25]
    exact ⟨fun _ => hR, fun h => absurd (Int32.le_refl _) h⟩
  | succ c ih =>
    intro k hk
    have ih := ih (k + 1) (by omega)
    unfold mixL at ih
    have e : nI a + nI k = nI (a + k) := nI_add _ _
    rw [eX9_mixAll_2]
    simp only [eX9_mixAll_3, eX9_mixAll_4, eX9_mixAll_7, eX9_mixAll_8, eX9_mixAll_9, eX9_mixAll_12, eX9_mixAll_13, eX9_mixAll_14, eX9_mixAll_15, eX9_mixAll_16, eX9_mixAll_19, eX9_mixAll_22, gX9_0, h0, h1, h2, ht, tX9, qA5514, e, PX9_mix, QX9_mix, qa2, forall_eq, vpS (show a + k < 5514 by omega), nIC (show a + k < 1000000 by omega), nI_1, true_and, Swsf, Swpf, Swdf, Swtf, Swgf, Swhf, Swps, Swds, Swts, Swgs, Swhs, Swdp, Swtp, Swgp, Swhp, Swtd, Swgd, Swhd, Swgt, Swht, Swhg, Mff, Mfs, Mfp, Mfd, Mft, Mfg, Mfh, Wf, Msf, Mss, Msp, Msd, Mst, Msg, Msh, Ws, Mpf, Mps, Mpp, Mpd, Mpt, Mpg, Mph, Wp, Mdf, Mds, Mdp, Mdd, Mdt, Mdg, Mdh, Wd, Mtf, Mts, Mtp, Mtd, Mtt, Mtg, Mth, Wt, Mgf, Mgs, Mgp, Mgd, Mgt, Mgg, Mgh, Wg, Mhf, Mhs, Mhp, Mhd, Mht, Mhg, Mhh, Wh, mS_mm, mN_mm, mI_mm0, mI_mm1, mI_mm2, mI_mm3, mI_mm4, mI_mm5, mJ_mm, mm_mm, rd_mm, wR_mm0, wR_mm1, wR_mm2, wR_mm3, wR_mm4, wR_mm5, wL_mm, MoS_mm, obX9_mm, iA_mm, List.length_nil, List.length_cons, ll0, ll1, ll2, ll3, ll4, Nat.le_refl, and_true]
    exact ⟨fun h => absurd h (nI_ge (by omega) (by omega)), fun _ => ih⟩
theorem xX9_mixAll (o : Nat) (x1 : Int32) (x2 : Int32) (μ : qMM) (ht : ∃ t, mS μ o = some (.inl (8, t))) (hp : PX9_mixAll o x1 x2 μ) : EX (SX9_mixAll (rtv 0 0 (QX9_mixAll o x1 x2 μ)) (fun _ _ _ => False)) 0 [some (.ref o), some (.int x1), some (.int x2), none] [] [] μ (0, 0) := by
  obtain ⟨ν, m, rfl⟩ := mm_ex μ o
  obtain ⟨h0, a, n, hn, rfl, rfl⟩ := hp
  have h := xX9_mixAll_l o a n ν m h0 hn ht (rtv 0 0 (QX9_mixAll o (nI a) (nI n) (mm ν o m))) (fun _ _ _ => False) (by simp only [rtv_at, QX9_mixAll, Swsf, Swpf, Swdf, Swtf, Swgf, Swhf, Swps, Swds, Swts, Swgs, Swhs, Swdp, Swtp, Swgp, Swhp, Swtd, Swgd, Swhd, Swgt, Swht, Swhg, Mff, Mfs, Mfp, Mfd, Mft, Mfg, Mfh, Wf, Msf, Mss, Msp, Msd, Mst, Msg, Msh, Ws, Mpf, Mps, Mpp, Mpd, Mpt, Mpg, Mph, Wp, Mdf, Mds, Mdp, Mdd, Mdt, Mdg, Mdh, Wd, Mtf, Mts, Mtp, Mtd, Mtt, Mtg, Mth, Wt, Mgf, Mgs, Mgp, Mgd, Mgt, Mgg, Mgh, Wg, Mhf, Mhs, Mhp, Mhd, Mht, Mhg, Mhh, Wh, mS_mm, mN_mm, mI_mm0, mI_mm1, mI_mm2, mI_mm3, mI_mm4, mI_mm5, mJ_mm, mm_mm, rd_mm, wR_mm0, wR_mm1, wR_mm2, wR_mm3, wR_mm4, wR_mm5, wL_mm, MoS_mm, obX9_mm, iA_mm, nIC (show a < 1000000 by omega), nIC (show n < 1000000 by omega)]; simp) n 0 (by omega)
  simp only [eX9_mixAll_0, eX9_mixAll_1]
  exact h
theorem xX9_keptMany_l (o : Nat) (μ : qMM) (h0 : MoS μ o) (R : Option Value → qMM → Nat × Nat → Prop) (X : String → qMM → Nat × Nat → Prop) (hR : R (some (.int (manyL (mI μ (o + 1)) 64))) μ (0, 0)) : ∀ c k : Nat, k + c = 64 → EX (SX9_keptMany R X) 4 [some (.ref o), some (.int (manyL (mI μ (o + 1)) k)), some (.int (nI k))] [] [] μ (0, 0) := by
  obtain ⟨h1, h2, h3⟩ := id h0
  intro c
  induction c with
  | zero =>
    intro k hk
    have : k = 64 := by omega
    subst this
    rw [eX9_keptMany_4]
    simp only [eX9_keptMany_5, eX9_keptMany_7, eX9_keptMany_40, eX9_keptMany_41, qOk, true_and]
    exact ⟨fun _ => hR, fun h => absurd (by decide) h⟩
  | succ c ih =>
    intro k hk
    have ih := ih (k + 1) (by omega)
    unfold manyL at ih
    have e : (66 : Int32) + 7 * nI k = nI (66 + 7 * k) := by
      show nI 66 + nI 7 * nI k = _
      rw [pk_mul, nI_add]
    rw [eX9_keptMany_4]
    simp only [eX9_keptMany_5, eX9_keptMany_7, eX9_keptMany_10, eX9_keptMany_11, eX9_keptMany_12, eX9_keptMany_15, eX9_keptMany_17, eX9_keptMany_19, eX9_keptMany_20, eX9_keptMany_21, eX9_keptMany_22, eX9_keptMany_23, eX9_keptMany_24, eX9_keptMany_27, eX9_keptMany_28, eX9_keptMany_31, eX9_keptMany_32, eX9_keptMany_33, eX9_keptMany_34, eX9_keptMany_37, gX9_0, h1, h2, qA5514, e, vpS (show 66 + 7 * k < 5514 by omega), nIC (show 66 + 7 * k < 1000000 by omega), nI_1, true_and]
    refine ⟨fun h => absurd h (nI_ge (b := 64) (by omega) (by decide)), fun _ => ⟨fun g => ?_, fun g => ?_⟩⟩
    · rw [if_neg g] at ih
      exact ih
    · rw [if_pos (Classical.not_not.mp g)] at ih
      exact ih
theorem xX9_keptMany (o : Nat) (μ : qMM) (ht : ∃ t, mS μ o = some (.inl (8, t))) (hp : PX9_keptMany o μ) : EX (SX9_keptMany (rti 0 0 (QX9_keptMany o μ)) (fun _ _ _ => False)) 0 [some (.ref o), none, none] [] [] μ (0, 0) := by
  have h := xX9_keptMany_l o μ hp (rti 0 0 (QX9_keptMany o μ)) (fun _ _ _ => False) (by simp [rti_at, QX9_keptMany]) 64 0 rfl
  simp only [eX9_keptMany_0, eX9_keptMany_1, eX9_keptMany_2, eX9_keptMany_3]
  exact h
theorem xX9_done (o : Nat) (x1 : Int32) (μ : qMM) (ht : ∃ t, mS μ o = some (.inl (8, t))) (hp : PX9_done o x1 μ) : EX (SX9_done (rti 0 0 (QX9_done o x1 μ)) (fun _ _ _ => False)) 0 [some (.ref o), some (.int x1)] [] [] μ (0, 0) := by
  obtain ⟨ν, m, rfl⟩ := mm_ex μ o
  obtain ⟨h0, c, hc, hl⟩ := hp
  obtain ⟨h1, h2⟩ := id h0
  have ht : ∃ t, mS ν o = some (Sum.inl (8, t)) := ht
  simp only [Swsf, Swpf, Swdf, Swtf, Swgf, Swhf, Swps, Swds, Swts, Swgs, Swhs, Swdp, Swtp, Swgp, Swhp, Swtd, Swgd, Swhd, Swgt, Swht, Swhg, Mff, Mfs, Mfp, Mfd, Mft, Mfg, Mfh, Wf, Msf, Mss, Msp, Msd, Mst, Msg, Msh, Ws, Mpf, Mps, Mpp, Mpd, Mpt, Mpg, Mph, Wp, Mdf, Mds, Mdp, Mdd, Mdt, Mdg, Mdh, Wd, Mtf, Mts, Mtp, Mtd, Mtt, Mtg, Mth, Wt, Mgf, Mgs, Mgp, Mgd, Mgt, Mgg, Mgh, Wg, Mhf, Mhs, Mhp, Mhd, Mht, Mhg, Mhh, Wh, mS_mm, mN_mm, mI_mm0, mI_mm1, mI_mm2, mI_mm3, mI_mm4, mI_mm5, mJ_mm, mm_mm, rd_mm, wR_mm0, wR_mm1, wR_mm2, wR_mm3, wR_mm4, wR_mm5, wL_mm, MoS_mm, obX9_mm, iA_mm] at hl h0
  simp only [eX9_done_0, eX9_done_1, eX9_done_4, eX9_done_5, eX9_done_6, eX9_done_9, eX9_done_12, eX9_done_13, eX9_done_14, eX9_done_17, eX9_done_20, rtv_at, rti_at, rtj_at, rtd_at, rta_at, qOk, qOkR, gX9_8, h0, h1, ht, tX9, PX9_fails, QX9_fails, PX9_ends, QX9_ends, QX9_done, qa2, true_and, Swsf, Swpf, Swdf, Swtf, Swgf, Swhf, Swps, Swds, Swts, Swgs, Swhs, Swdp, Swtp, Swgp, Swhp, Swtd, Swgd, Swhd, Swgt, Swht, Swhg, Mff, Mfs, Mfp, Mfd, Mft, Mfg, Mfh, Wf, Msf, Mss, Msp, Msd, Mst, Msg, Msh, Ws, Mpf, Mps, Mpp, Mpd, Mpt, Mpg, Mph, Wp, Mdf, Mds, Mdp, Mdd, Mdt, Mdg, Mdh, Wd, Mtf, Mts, Mtp, Mtd, Mtt, Mtg, Mth, Wt, Mgf, Mgs, Mgp, Mgd, Mgt, Mgg, Mgh, Wg, Mhf, Mhs, Mhp, Mhd, Mht, Mhg, Mhh, Wh, mS_mm, mN_mm, mI_mm0, mI_mm1, mI_mm2, mI_mm3, mI_mm4, mI_mm5, mJ_mm, mm_mm, rd_mm, wR_mm0, wR_mm1, wR_mm2, wR_mm3, wR_mm4, wR_mm5, wL_mm, MoS_mm, obX9_mm, iA_mm, List.length_nil, List.length_cons, ll0, ll1, ll2, ll3, ll4, Nat.le_refl, and_true]
  by_cases g : 0 < x1
  · simp only [if_pos g, faiM]
    exact ⟨fun h => absurd g (Int32.not_lt.mpr h), fun _ => by simp⟩
  · simp only [if_neg g]
    refine ⟨fun _ => ⟨⟨c, hc, hl⟩, ?_⟩, fun h => absurd (Int32.not_lt.mp g) h⟩
    rintro r μ' ⟨rfl, h⟩
    refine ⟨rfl, ?_⟩
    rw [h c hc hl]
    have : (m.f 3 = 4) ↔ c = 4 := by
      rw [hl]
      exact nI_eq (b := 4) (by omega) (by decide)
    simp only [endM, this, hl, nIC (show c < 1000000 by omega)]
    rw [hl] at this
    by_cases g4 : c = 4
    · rw [if_pos g4, if_pos (this.mpr g4)]
      rfl
    · rw [if_neg g4, if_neg (fun z => g4 (this.mp z)), nI_1]
theorem inL_idx {s : Nat → Int32} {k n : Nat} {i : Int32} (hn : n ≤ 20) (h : s k = nI n) (hi : inL s k i) : ∃ j : Nat, j < n ∧ i = nI j := by
  obtain ⟨h1, h2⟩ := hi
  rw [h] at h2
  have e : (nI n - 1).toInt = (n : Int) - 1 := by
    show (nI n - nI 1).toInt = _
    rw [pk_sub_toInt (by omega) (by decide)]
    rfl
  have h1' : (0 : Int) ≤ i.toInt := by
    have := Int32.le_iff_toInt_le.mp h1
    simpa using this
  have h2' := Int32.le_iff_toInt_le.mp h2
  rw [e] at h2'
  refine ⟨i.toInt.toNat, by omega, ?_⟩
  apply Int32.toInt_inj.mp
  rw [nI_toInt (by omega)]
  omega
theorem xX9_loses (o : Nat) (x1 : Int32) (x2 : Int32) (μ : qMM) (ht : ∃ t, mS μ o = some (.inl (8, t))) (hp : PX9_loses o x1 x2 μ) : EX (SX9_loses (rti 0 0 (QX9_loses o x1 x2 μ)) (fun _ _ _ => False)) 0 [some (.ref o), some (.int x1), some (.int x2)] [] [] μ (0, 0) := by
  obtain ⟨ν, m, rfl⟩ := mm_ex μ o
  obtain ⟨h0, k, n, hk, hn, rfl, hl⟩ := hp
  obtain ⟨h1, h2⟩ := id h0
  have ht : ∃ t, mS ν o = some (Sum.inl (8, t)) := ht
  have hc := nIC (show k < 1000000 by omega)
  simp only [Swsf, Swpf, Swdf, Swtf, Swgf, Swhf, Swps, Swds, Swts, Swgs, Swhs, Swdp, Swtp, Swgp, Swhp, Swtd, Swgd, Swhd, Swgt, Swht, Swhg, Mff, Mfs, Mfp, Mfd, Mft, Mfg, Mfh, Wf, Msf, Mss, Msp, Msd, Mst, Msg, Msh, Ws, Mpf, Mps, Mpp, Mpd, Mpt, Mpg, Mph, Wp, Mdf, Mds, Mdp, Mdd, Mdt, Mdg, Mdh, Wd, Mtf, Mts, Mtp, Mtd, Mtt, Mtg, Mth, Wt, Mgf, Mgs, Mgp, Mgd, Mgt, Mgg, Mgh, Wg, Mhf, Mhs, Mhp, Mhd, Mht, Mhg, Mhh, Wh, mS_mm, mN_mm, mI_mm0, mI_mm1, mI_mm2, mI_mm3, mI_mm4, mI_mm5, mJ_mm, mm_mm, rd_mm, wR_mm0, wR_mm1, wR_mm2, wR_mm3, wR_mm4, wR_mm5, wL_mm, MoS_mm, obX9_mm, iA_mm] at hl h0 h1
  have hk2 : nI k = 10 ∨ nI k = 31 := by
    rcases hk with rfl | rfl
    · exact Or.inl rfl
    · exact Or.inr rfl
  simp only [eX9_loses_0, eX9_loses_1, eX9_loses_2, eX9_loses_3, eX9_loses_6, eX9_loses_9, eX9_loses_10, eX9_loses_11, eX9_loses_12, eX9_loses_13, eX9_loses_14, eX9_loses_15, eX9_loses_18, eX9_loses_21, eX9_loses_22, rtv_at, rti_at, rtj_at, rtd_at, rta_at, qOk, qOkR, h0, h1, ht, hk2, tX9, obX9_wR, pX9_8, PX9_isIn, QX9_isIn, PX9_takes, QX9_takes, QX9_loses, losM, takeM, qa2, hc, wI_def, true_and, Swsf, Swpf, Swdf, Swtf, Swgf, Swhf, Swps, Swds, Swts, Swgs, Swhs, Swdp, Swtp, Swgp, Swhp, Swtd, Swgd, Swhd, Swgt, Swht, Swhg, Mff, Mfs, Mfp, Mfd, Mft, Mfg, Mfh, Wf, Msf, Mss, Msp, Msd, Mst, Msg, Msh, Ws, Mpf, Mps, Mpp, Mpd, Mpt, Mpg, Mph, Wp, Mdf, Mds, Mdp, Mdd, Mdt, Mdg, Mdh, Wd, Mtf, Mts, Mtp, Mtd, Mtt, Mtg, Mth, Wt, Mgf, Mgs, Mgp, Mgd, Mgt, Mgg, Mgh, Wg, Mhf, Mhs, Mhp, Mhd, Mht, Mhg, Mhh, Wh, mS_mm, mN_mm, mI_mm0, mI_mm1, mI_mm2, mI_mm3, mI_mm4, mI_mm5, mJ_mm, mm_mm, rd_mm, wR_mm0, wR_mm1, wR_mm2, wR_mm3, wR_mm4, wR_mm5, wL_mm, MoS_mm, obX9_mm, iA_mm, List.length_nil, List.length_cons, ll0, ll1, ll2, ll3, ll4, Nat.le_refl, and_true]
  by_cases g : inL m.s k x2
  · obtain ⟨j, hj, rfl⟩ := inL_idx hn hl g
    simp only [if_pos g, nIC (show j < 1000000 by omega), one0, eq_self, not_true_eq_false, not_false_eq_true, true_imp_iff, false_imp_iff, true_and, and_true, Classical.not_not]
    exact ⟨k, n, j, hk, hn, hj, rfl, rfl, hl⟩
  · simp only [if_neg g, one0, eq_self, not_true_eq_false, not_false_eq_true, true_imp_iff, false_imp_iff, true_and, and_true, Classical.not_not]
theorem xX9_copies (o : Nat) (x1 : Int32) (μ : qMM) (ht : ∃ t, mS μ o = some (.inl (8, t))) (hp : PX9_copies o x1 μ) : EX (SX9_copies (rti 0 0 (QX9_copies o x1 μ)) (fun _ _ _ => False)) 0 [some (.ref o), some (.int x1)] [] [] μ (0, 0) := by
  obtain ⟨ν, m, rfl⟩ := mm_ex μ o
  obtain ⟨h0, n, hn, hl⟩ := hp
  obtain ⟨h1, h2, h3⟩ := id h0
  have ht : ∃ t, mS ν o = some (Sum.inl (8, t)) := ht
  simp only [Swsf, Swpf, Swdf, Swtf, Swgf, Swhf, Swps, Swds, Swts, Swgs, Swhs, Swdp, Swtp, Swgp, Swhp, Swtd, Swgd, Swhd, Swgt, Swht, Swhg, Mff, Mfs, Mfp, Mfd, Mft, Mfg, Mfh, Wf, Msf, Mss, Msp, Msd, Mst, Msg, Msh, Ws, Mpf, Mps, Mpp, Mpd, Mpt, Mpg, Mph, Wp, Mdf, Mds, Mdp, Mdd, Mdt, Mdg, Mdh, Wd, Mtf, Mts, Mtp, Mtd, Mtt, Mtg, Mth, Wt, Mgf, Mgs, Mgp, Mgd, Mgt, Mgg, Mgh, Wg, Mhf, Mhs, Mhp, Mhd, Mht, Mhg, Mhh, Wh, mS_mm, mN_mm, mI_mm0, mI_mm1, mI_mm2, mI_mm3, mI_mm4, mI_mm5, mJ_mm, mm_mm, rd_mm, wR_mm0, wR_mm1, wR_mm2, wR_mm3, wR_mm4, wR_mm5, wL_mm, MoS_mm, obX9_mm, iA_mm] at hl h0 h1 h2
  simp only [eX9_copies_0, eX9_copies_1, eX9_copies_3, eX9_copies_4, eX9_copies_7, eX9_copies_10, eX9_copies_11, eX9_copies_12, eX9_copies_13, eX9_copies_16, eX9_copies_18, eX9_copies_19, eX9_copies_21, eX9_copies_24, eX9_copies_25, eX9_copies_26, eX9_copies_27, eX9_copies_29, eX9_copies_30, eX9_copies_33, eX9_copies_35, eX9_copies_36, eX9_copies_37, eX9_copies_38, eX9_copies_41, eX9_copies_42, eX9_copies_43, eX9_copies_46, eX9_copies_48, eX9_copies_49, eX9_copies_52, eX9_copies_53, rtv_at, rti_at, rtj_at, rtd_at, rta_at, qOk, qOkR, gX9_0, pX9_8, h0, h1, h2, ht, tX9, obX9_wR, qA5514, PX9_isIn, QX9_isIn, PX9_joins, QX9_joins, QX9_copies, cpyR, cpyM, qa2, forall_eq, vpl 10 5514 (by decide +kernel), show (10 : Int32).toNatClampNeg = 10 from rfl, wI_def, true_and, Swsf, Swpf, Swdf, Swtf, Swgf, Swhf, Swps, Swds, Swts, Swgs, Swhs, Swdp, Swtp, Swgp, Swhp, Swtd, Swgd, Swhd, Swgt, Swht, Swhg, Mff, Mfs, Mfp, Mfd, Mft, Mfg, Mfh, Wf, Msf, Mss, Msp, Msd, Mst, Msg, Msh, Ws, Mpf, Mps, Mpp, Mpd, Mpt, Mpg, Mph, Wp, Mdf, Mds, Mdp, Mdd, Mdt, Mdg, Mdh, Wd, Mtf, Mts, Mtp, Mtd, Mtt, Mtg, Mth, Wt, Mgf, Mgs, Mgp, Mgd, Mgt, Mgg, Mgh, Wg, Mhf, Mhs, Mhp, Mhd, Mht, Mhg, Mhh, Wh, mS_mm, mN_mm, mI_mm0, mI_mm1, mI_mm2, mI_mm3, mI_mm4, mI_mm5, mJ_mm, mm_mm, rd_mm, wR_mm0, wR_mm1, wR_mm2, wR_mm3, wR_mm4, wR_mm5, wL_mm, MoS_mm, obX9_mm, iA_mm, List.length_nil, List.length_cons, ll0, ll1, ll2, ll3, ll4, Nat.le_refl, and_true]
  by_cases g : inL m.s 10 x1
  · obtain ⟨j, hj, rfl⟩ := inL_idx hn hl g
    have e : (11 : Int32) + nI j = nI (11 + j) := nI_add 11 j
    simp only [if_pos g, e, nIC (show j < 1000000 by omega), nIC (show 11 + j < 1000000 by omega), one0, eq_self, not_true_eq_false, not_false_eq_true, true_imp_iff, false_imp_iff, true_and, and_true, Classical.not_not]
    refine ⟨by simp, fun g2 => ?_, fun g2 => ?_⟩
    · simp only [if_neg g2, one0, eq_self, not_true_eq_false, not_false_eq_true, true_imp_iff, false_imp_iff, true_and, and_true, Classical.not_not]
      exact ⟨vpS (by omega), ⟨by simp, n, hn, hl⟩, rfl⟩
    · simp [if_pos g2]
  · simp only [if_neg g, one0, eq_self, not_true_eq_false, not_false_eq_true, true_imp_iff, false_imp_iff, true_and, and_true, Classical.not_not]
    simp
theorem take_o {s : Nat → Int32} {k i j : Nat} (h : j < k ∨ k + (s k).toNatClampNeg < j) : takeF s k i j = s j := by
  unfold takeF
  rcases h with h | h
  · rw [if_neg (by omega), if_neg (by omega), if_neg (by omega)]
  · rw [if_neg (by omega), if_neg (by omega), if_neg (by omega)]
theorem xX9_returns (o : Nat) (x1 : Int32) (μ : qMM) (ht : ∃ t, mS μ o = some (.inl (8, t))) (hp : PX9_returns o x1 μ) : EX (SX9_returns (rti 0 0 (QX9_returns o x1 μ)) (fun _ _ _ => False)) 0 [some (.ref o), some (.int x1)] [] [] μ (0, 0) := by
  obtain ⟨ν, m, rfl⟩ := mm_ex μ o
  obtain ⟨h0, ⟨a, ha, hs⟩, n, hn, hl, hi⟩ := hp
  obtain ⟨h1, h2, h3⟩ := id h0
  have ht : ∃ t, mS ν o = some (Sum.inl (8, t)) := ht
  simp only [Swsf, Swpf, Swdf, Swtf, Swgf, Swhf, Swps, Swds, Swts, Swgs, Swhs, Swdp, Swtp, Swgp, Swhp, Swtd, Swgd, Swhd, Swgt, Swht, Swhg, Mff, Mfs, Mfp, Mfd, Mft, Mfg, Mfh, Wf, Msf, Mss, Msp, Msd, Mst, Msg, Msh, Ws, Mpf, Mps, Mpp, Mpd, Mpt, Mpg, Mph, Wp, Mdf, Mds, Mdp, Mdd, Mdt, Mdg, Mdh, Wd, Mtf, Mts, Mtp, Mtd, Mtt, Mtg, Mth, Wt, Mgf, Mgs, Mgp, Mgd, Mgt, Mgg, Mgh, Wg, Mhf, Mhs, Mhp, Mhd, Mht, Mhg, Mhh, Wh, mS_mm, mN_mm, mI_mm0, mI_mm1, mI_mm2, mI_mm3, mI_mm4, mI_mm5, mJ_mm, mm_mm, rd_mm, wR_mm0, wR_mm1, wR_mm2, wR_mm3, wR_mm4, wR_mm5, wL_mm, MoS_mm, obX9_mm, iA_mm] at hl h0 h1 h2 hs hi
  have h31 : nI 31 = 31 := rfl
  simp only [eX9_returns_0, eX9_returns_1, eX9_returns_3, eX9_returns_4, eX9_returns_7, eX9_returns_10, eX9_returns_11, eX9_returns_12, eX9_returns_13, eX9_returns_14, eX9_returns_16, eX9_returns_17, eX9_returns_20, eX9_returns_23, eX9_returns_24, eX9_returns_27, eX9_returns_28, eX9_returns_31, eX9_returns_32, eX9_returns_35, eX9_returns_37, eX9_returns_38, eX9_returns_39, eX9_returns_42, eX9_returns_43, eX9_returns_46, eX9_returns_47, eX9_returns_50, eX9_returns_52, eX9_returns_53, eX9_returns_56, eX9_returns_57, eX9_returns_58, eX9_returns_61, eX9_returns_63, eX9_returns_64, eX9_returns_67, eX9_returns_68, rtv_at, rti_at, rtj_at, rtd_at, rta_at, qOk, qOkR, gX9_0, gX9_8, pX9_8, h0, h1, h2, ht, tX9, obX9_wR, qA5514, PX9_isIn, QX9_isIn, PX9_takes, QX9_takes, PX9_puts, QX9_puts, QX9_returns, retM, hearF, qa2, forall_eq, vpl 8 5514 (by decide +kernel), vpl 9 5514 (by decide +kernel), show (31 : Int32).toNatClampNeg = 31 from rfl, show (8 : Int32).toNatClampNeg = 8 from rfl, show (9 : Int32).toNatClampNeg = 9 from rfl, wI_def, true_and, Swsf, Swpf, Swdf, Swtf, Swgf, Swhf, Swps, Swds, Swts, Swgs, Swhs, Swdp, Swtp, Swgp, Swhp, Swtd, Swgd, Swhd, Swgt, Swht, Swhg, Mff, Mfs, Mfp, Mfd, Mft, Mfg, Mfh, Wf, Msf, Mss, Msp, Msd, Mst, Msg, Msh, Ws, Mpf, Mps, Mpp, Mpd, Mpt, Mpg, Mph, Wp, Mdf, Mds, Mdp, Mdd, Mdt, Mdg, Mdh, Wd, Mtf, Mts, Mtp, Mtd, Mtt, Mtg, Mth, Wt, Mgf, Mgs, Mgp, Mgd, Mgt, Mgg, Mgh, Wg, Mhf, Mhs, Mhp, Mhd, Mht, Mhg, Mhh, Wh, mS_mm, mN_mm, mI_mm0, mI_mm1, mI_mm2, mI_mm3, mI_mm4, mI_mm5, mJ_mm, mm_mm, rd_mm, wR_mm0, wR_mm1, wR_mm2, wR_mm3, wR_mm4, wR_mm5, wL_mm, MoS_mm, obX9_mm, iA_mm, List.length_nil, List.length_cons, ll0, ll1, ll2, ll3, ll4, Nat.le_refl, and_true]
  by_cases g : inL m.s 31 x1
  · obtain ⟨j, hj, rfl⟩ := inL_idx hn hl g
    have e9 : takeF m.s 31 j 9 = m.s 9 := take_o (Or.inl (by decide))
    have eu : ∀ (f : Nat → Int32) v, upd f 8 v 8 = v := fun f v => by unfold upd; simp
    simp only [if_pos g, nIC (show j < 1000000 by omega), e9, eu, show 31 + 1 + j = 32 + j by omega, one0, eq_self, not_true_eq_false, not_false_eq_true, true_imp_iff, false_imp_iff, true_and, and_true, Classical.not_not]
    refine ⟨by simp, ⟨31, n, j, Or.inr rfl, hn, hj, rfl, rfl, hl⟩, ?_⟩
    refine ⟨fun g1 => ⟨fun g2 => ?_, fun g2 => ?_⟩, fun g1 => ?_⟩
    · rw [if_neg g1, if_neg (Int32.not_lt.mpr g2)]
    · rw [if_neg g1, if_pos (Int32.not_le.mp g2)]
      obtain ⟨x, hx, hv⟩ := (hi j hj).resolve_left g1
      refine ⟨⟨x, 9, ?_, by decide, hv, rfl⟩, rfl⟩
      have := Int32.not_le.mp g2
      rw [hv, hs] at this
      have := (nI_ltI hx (by omega)).mp this
      omega
    · rw [if_pos g1]
  · simp only [if_neg g, one0, eq_self, not_true_eq_false, not_false_eq_true, true_imp_iff, false_imp_iff, true_and, and_true, Classical.not_not]
    simp
theorem xX9_receives_l1 (o p : Nat) (x : Int32) (a2 a3 a6 : Option Value) (ν : qMM) (m : Mod) (h0 : MoS ν o) (hp : p < 500) (ht : ∃ t, mS ν o = some (Sum.inl (8, t))) (R : Option Value → qMM → Nat × Nat → Prop) (X : String → qMM → Nat × Nat → Prop) (hR : EX (SX9_receives R X) 175 [some (.ref o), some (.int (nI p)), a2, a3, some (.int x), some (.int (nI 6)), a6] [] [] (mm ν o (m.wg (cpyG m.s p m.g 6))) (0, 0)) : ∀ c k : Nat, k + c = 6 → EX (SX9_receives R X) 103 [some (.ref o), some (.int (nI p)), a2, a3, some (.int x), some (.int (nI k)), a6] [] [] (mm ν o (m.wg (cpyG m.s p m.g k))) (0, 0) := by
  obtain ⟨h1, h2, h3, h4, h5, h6⟩ := id h0
  intro c
  induction c with
  | zero =>
    intro k hk
    have : k = 6 := by omega
    subst this
    rw [eX9_receives_103]
    simp only [eX9_receives_105, eX9_receives_107, eX9_receives_130]
    exact ⟨fun _ => hR, fun h => absurd (by decide) h⟩
  | succ c ih =>
    intro k hk
    have ih := ih (k + 1) (by omega)
    unfold cpyG at ih
    rw [eX9_receives_103]
    simp only [eX9_receives_105, eX9_receives_107, eX9_receives_110, eX9_receives_111, eX9_receives_114, eX9_receives_116, eX9_receives_117, eX9_receives_118, eX9_receives_120, eX9_receives_123, eX9_receives_124, eX9_receives_127, gX9_7, h0, h1, h6, ht, tX9, qA6, PX9_of, QX9_of, qa2, forall_eq, vp6 (show k < 6 by omega), nIC (show k < 1000000 by omega), nIC (show p < 1000000 by omega), nI_1, wI_def, true_and, Swsf, Swpf, Swdf, Swtf, Swgf, Swhf, Swps, Swds, Swts, Swgs, Swhs, Swdp, Swtp, Swgp, Swhp, Swtd, Swgd, Swhd, Swgt, Swht, Swhg, Mff, Mfs, Mfp, Mfd, Mft, Mfg, Mfh, Wf, Msf, Mss, Msp, Msd, Mst, Msg, Msh, Ws, Mpf, Mps, Mpp, Mpd, Mpt, Mpg, Mph, Wp, Mdf, Mds, Mdp, Mdd, Mdt, Mdg, Mdh, Wd, Mtf, Mts, Mtp, Mtd, Mtt, Mtg, Mth, Wt, Mgf, Mgs, Mgp, Mgd, Mgt, Mgg, Mgh, Wg, Mhf, Mhs, Mhp, Mhd, Mht, Mhg, Mhh, Wh, mS_mm, mN_mm, mI_mm0, mI_mm1, mI_mm2, mI_mm3, mI_mm4, mI_mm5, mJ_mm, mm_mm, rd_mm, wR_mm0, wR_mm1, wR_mm2, wR_mm3, wR_mm4, wR_mm5, wL_mm, MoS_mm, obX9_mm, iA_mm, List.length_nil, List.length_cons, ll0, ll1, ll2, ll3, ll4, Nat.le_refl, and_true]
    exact ⟨fun h => absurd h (nI_ge (b := 6) (by omega) (by decide)), fun _ => ⟨⟨p, k, hp, by omega, rfl, rfl⟩, ih⟩⟩
theorem xX9_receives_l2 (o p : Nat) (x : Int32) (a2 a3 : Option Value) (ν : qMM) (m : Mod) (h0 : MoS ν o) (hp : p < 500) (ht : ∃ t, mS ν o = some (Sum.inl (8, t))) (R : Option Value → qMM → Nat × Nat → Prop) (X : String → qMM → Nat × Nat → Prop) (hR : EX (SX9_receives R X) 232 [some (.ref o), some (.int (nI p)), a2, a3, some (.int x), some (.int (rightL m.s m.g p x 4)), some (.int (nI 4))] [] [] (mm ν o m) (0, 0)) : ∀ c k : Nat, k + c = 4 → EX (SX9_receives R X) 191 [some (.ref o), some (.int (nI p)), a2, a3, some (.int x), some (.int (rightL m.s m.g p x k)), some (.int (nI k))] [] [] (mm ν o m) (0, 0) := by
  obtain ⟨h1, h2, h3, h4, h5, h6⟩ := id h0
  intro c
  induction c with
  | zero =>
    intro k hk
    have : k = 4 := by omega
    subst this
    rw [eX9_receives_191]
    simp only [eX9_receives_193, eX9_receives_194]
    exact ⟨fun _ => hR, fun h => absurd (by decide) h⟩
  | succ c ih =>
    intro k hk
    have ih := ih (k + 1) (by omega)
    unfold rightL at ih
    rw [eX9_receives_191]
    simp only [eX9_receives_193, eX9_receives_194, eX9_receives_197, eX9_receives_199, eX9_receives_202, eX9_receives_203, eX9_receives_206, eX9_receives_208, eX9_receives_209, eX9_receives_210, eX9_receives_211, eX9_receives_213, eX9_receives_216, eX9_receives_219, eX9_receives_220, eX9_receives_223, eX9_receives_224, eX9_receives_226, eX9_receives_229, gX9_7, h0, h1, h6, ht, tX9, qA6, PX9_of, QX9_of, qa2, forall_eq, vp6 (show k < 6 by omega), nIC (show k < 1000000 by omega), nIC (show p < 1000000 by omega), nI_1, true_and, Swsf, Swpf, Swdf, Swtf, Swgf, Swhf, Swps, Swds, Swts, Swgs, Swhs, Swdp, Swtp, Swgp, Swhp, Swtd, Swgd, Swhd, Swgt, Swht, Swhg, Mff, Mfs, Mfp, Mfd, Mft, Mfg, Mfh, Wf, Msf, Mss, Msp, Msd, Mst, Msg, Msh, Ws, Mpf, Mps, Mpp, Mpd, Mpt, Mpg, Mph, Wp, Mdf, Mds, Mdp, Mdd, Mdt, Mdg, Mdh, Wd, Mtf, Mts, Mtp, Mtd, Mtt, Mtg, Mth, Wt, Mgf, Mgs, Mgp, Mgd, Mgt, Mgg, Mgh, Wg, Mhf, Mhs, Mhp, Mhd, Mht, Mhg, Mhh, Wh, mS_mm, mN_mm, mI_mm0, mI_mm1, mI_mm2, mI_mm3, mI_mm4, mI_mm5, mJ_mm, mm_mm, rd_mm, wR_mm0, wR_mm1, wR_mm2, wR_mm3, wR_mm4, wR_mm5, wL_mm, MoS_mm, obX9_mm, iA_mm, List.length_nil, List.length_cons, ll0, ll1, ll2, ll3, ll4, Nat.le_refl, and_true]
    refine ⟨fun h => absurd h (nI_ge (b := 4) (by omega) (by decide)), fun _ => ⟨fun g => ?_, fun g => ⟨⟨p, k, hp, by omega, rfl, rfl⟩, fun g2 => ?_, fun g2 => ?_⟩⟩⟩
    · rw [if_pos g] at ih
      exact ih
    · rw [if_neg g, if_neg g2] at ih
      exact ih
    · rw [if_neg g, if_pos (Classical.not_not.mp g2)] at ih
      exact ih
theorem keep_o {s g : Nat → Int32} {x : Int32} {j : Nat} (h : j < 66) (h2 : j ≠ 55) : keepF s g x j = s j := by
  have hz : ∀ (t : Nat → Int32) (a k : Nat), 66 ≤ a → zeroL t a k j = t j := by
    intro t a k ha
    induction k with
    | zero => unfold zeroL upd; rw [if_neg (by omega)]
    | succ k ih => unfold zeroL upd; rw [if_neg (by omega), ih]
  have hd : ∀ (t : Nat → Int32) (k : Nat), dropL t k j = t j := by
    intro t k
    induction k with
    | zero => rfl
    | succ k ih =>
      unfold dropL
      split
      · rw [hz _ _ _ (by omega), ih]
      · exact ih
  have hr : ∀ (t : Nat → Int32) (a k : Nat), 66 ≤ a → putR t g a k j = t j := by
    intro t a k ha
    induction k with
    | zero => rfl
    | succ k ih => unfold putR upd; rw [if_neg (by omega), ih]
  simp only [keepF]
  generalize (if s 55 < x then x else s 55) = w
  split
  · rw [hr _ _ _ (by omega), updE, if_neg (by omega), hd, updE, if_neg h2]
  · rw [hd, updE, if_neg h2]
theorem xX9_receives_l3 (o p : Nat) (x rv : Int32) (a2 a3 a6 : Option Value) (ν : qMM) (m : Mod) (h0 : MoS ν o) (hb : ∃ n : Nat, n ≤ 20 ∧ m.s 31 = nI n) (h53 : ¬ m.s 53 = 0) (ht : ∃ t, mS ν o = some (Sum.inl (8, t))) (R : Option Value → qMM → Nat × Nat → Prop) (X : String → qMM → Nat × Nat → Prop) (hR : R (some (.int (if rv = 0 then 1 else 0))) (mm ν o (m.ws (tellF (keepF m.s m.g x) x (if rv = 0 then 1 else 0)))) (0, 0)) : EX (SX9_receives R X) 232 [some (.ref o), some (.int (nI p)), a2, a3, some (.int x), some (.int rv), a6] [] [] (mm ν o m) (0, 0) := by
  obtain ⟨h1, h2, h3, h4, h5, h6⟩ := id h0
  simp only [eX9_receives_232, eX9_receives_233, eX9_receives_235, h0, ht, tX9, PX9_keeps, QX9_keeps, qa2, forall_eq, true_and, Swsf, Swpf, Swdf, Swtf, Swgf, Swhf, Swps, Swds, Swts, Swgs, Swhs, Swdp, Swtp, Swgp, Swhp, Swtd, Swgd, Swhd, Swgt, Swht, Swhg, Mff, Mfs, Mfp, Mfd, Mft, Mfg, Mfh, Wf, Msf, Mss, Msp, Msd, Mst, Msg, Msh, Ws, Mpf, Mps, Mpp, Mpd, Mpt, Mpg, Mph, Wp, Mdf, Mds, Mdp, Mdd, Mdt, Mdg, Mdh, Wd, Mtf, Mts, Mtp, Mtd, Mtt, Mtg, Mth, Wt, Mgf, Mgs, Mgp, Mgd, Mgt, Mgg, Mgh, Wg, Mhf, Mhs, Mhp, Mhd, Mht, Mhg, Mhh, Wh, mS_mm, mN_mm, mI_mm0, mI_mm1, mI_mm2, mI_mm3, mI_mm4, mI_mm5, mJ_mm, mm_mm, rd_mm, wR_mm0, wR_mm1, wR_mm2, wR_mm3, wR_mm4, wR_mm5, wL_mm, MoS_mm, obX9_mm, iA_mm, List.length_nil, List.length_cons, ll0, ll1, ll2, ll3, ll4, Nat.le_refl, and_true]
  rw [← keep_o (s := m.s) (g := m.g) (x := x) (j := 31) (by decide) (by decide)] at hb
  rw [← keep_o (s := m.s) (g := m.g) (x := x) (j := 53) (by decide) (by decide)] at h53
  generalize keepF m.s m.g x = t at hb h53 hR ⊢
  obtain ⟨n, hn, hl⟩ := hb
  have fin : ∀ (t3 : Nat → Int32), t3 31 = t 31 → t3 53 = t 53 → (R (some (.int (if rv = 0 then 1 else 0))) (mm ν o (m.ws (if upd t3 56 0 57 - upd t3 56 0 57 / upd t3 56 0 53 * upd t3 56 0 53 = 0 then joinF 31 x (upd t3 56 0) else upd t3 56 0))) (0, 0)) → EX (SX9_receives R X) 270 [some (.ref o), some (.int (nI p)), a2, a3, some (.int x), some (.int rv), a6] [] [] (mm ν o (m.ws t3)) (0, 0) := by
    intro t3 e31 e53 hR
    have f53 : upd t3 56 0 53 = t 53 := by rw [updE, if_neg (by decide), e53]
    have f31 : upd t3 56 0 31 = nI n := by rw [updE, if_neg (by decide), e31, hl]
    have fin2 : ∀ t4 : Nat → Int32, (R (some (.int (if rv = 0 then 1 else 0))) (mm ν o (m.ws t4)) (0, 0)) → EX (SX9_receives R X) 304 [some (.ref o), some (.int (nI p)), a2, a3, some (.int x), some (.int rv), a6] [] [] (mm ν o (m.ws t4)) (0, 0) := by
      intro t4 hR
      simp only [eX9_receives_304, eX9_receives_306, eX9_receives_309, eX9_receives_310, eX9_receives_313, eX9_receives_314, qOk, true_and]
      by_cases g : rv = 0
      · simp only [if_pos g] at hR
        exact ⟨fun _ => hR, fun h => absurd g h⟩
      · simp only [if_neg g] at hR
        exact ⟨fun h => absurd h g, fun _ => hR⟩
    simp only [eX9_receives_270, eX9_receives_271, eX9_receives_274, eX9_receives_276, eX9_receives_277, eX9_receives_278, eX9_receives_279, eX9_receives_282, eX9_receives_284, eX9_receives_285, eX9_receives_286, eX9_receives_289, eX9_receives_291, eX9_receives_292, eX9_receives_293, eX9_receives_296, eX9_receives_297, eX9_receives_299, eX9_receives_301, gX9_0, h0, h1, h2, ht, tX9, qA5514, PX9_joins, QX9_joins, qa2, forall_eq, vpl 56 5514 (by decide +kernel), vpl 57 5514 (by decide +kernel), vpl 53 5514 (by decide +kernel), show (56 : Int32).toNatClampNeg = 56 from rfl, show (57 : Int32).toNatClampNeg = 57 from rfl, show (53 : Int32).toNatClampNeg = 53 from rfl, show (31 : Int32).toNatClampNeg = 31 from rfl, wI_def, f53, true_and, Swsf, Swpf, Swdf, Swtf, Swgf, Swhf, Swps, Swds, Swts, Swgs, Swhs, Swdp, Swtp, Swgp, Swhp, Swtd, Swgd, Swhd, Swgt, Swht, Swhg, Mff, Mfs, Mfp, Mfd, Mft, Mfg, Mfh, Wf, Msf, Mss, Msp, Msd, Mst, Msg, Msh, Ws, Mpf, Mps, Mpp, Mpd, Mpt, Mpg, Mph, Wp, Mdf, Mds, Mdp, Mdd, Mdt, Mdg, Mdh, Wd, Mtf, Mts, Mtp, Mtd, Mtt, Mtg, Mth, Wt, Mgf, Mgs, Mgp, Mgd, Mgt, Mgg, Mgh, Wg, Mhf, Mhs, Mhp, Mhd, Mht, Mhg, Mhh, Wh, mS_mm, mN_mm, mI_mm0, mI_mm1, mI_mm2, mI_mm3, mI_mm4, mI_mm5, mJ_mm, mm_mm, rd_mm, wR_mm0, wR_mm1, wR_mm2, wR_mm3, wR_mm4, wR_mm5, wL_mm, MoS_mm, obX9_mm, iA_mm, List.length_nil, List.length_cons, ll0, ll1, ll2, ll3, ll4, Nat.le_refl, and_true] at hR ⊢
    refine ⟨h53, fun g => ?_, fun g => ?_⟩
    · rw [if_neg g] at hR
      exact fin2 _ hR
    · rw [if_pos (Classical.not_not.mp g)] at hR
      exact ⟨⟨by simp, n, hn, f31⟩, fin2 _ hR⟩
  simp only [eX9_receives_238, eX9_receives_239, eX9_receives_242, eX9_receives_244, eX9_receives_245, eX9_receives_246, eX9_receives_247, eX9_receives_248, eX9_receives_249, eX9_receives_250, eX9_receives_253, eX9_receives_255, eX9_receives_258, eX9_receives_260, eX9_receives_263, eX9_receives_265, eX9_receives_266, eX9_receives_267, eX9_receives_268, eX9_receives_269, gX9_0, h1, h2, qA5514, vpl 57 5514 (by decide +kernel), vpl 58 5514 (by decide +kernel), vpl 59 5514 (by decide +kernel), show (57 : Int32).toNatClampNeg = 57 from rfl, show (58 : Int32).toNatClampNeg = 58 from rfl, show (59 : Int32).toNatClampNeg = 59 from rfl, wI_def, true_and, Swsf, Swpf, Swdf, Swtf, Swgf, Swhf, Swps, Swds, Swts, Swgs, Swhs, Swdp, Swtp, Swgp, Swhp, Swtd, Swgd, Swhd, Swgt, Swht, Swhg, Mff, Mfs, Mfp, Mfd, Mft, Mfg, Mfh, Wf, Msf, Mss, Msp, Msd, Mst, Msg, Msh, Ws, Mpf, Mps, Mpp, Mpd, Mpt, Mpg, Mph, Wp, Mdf, Mds, Mdp, Mdd, Mdt, Mdg, Mdh, Wd, Mtf, Mts, Mtp, Mtd, Mtt, Mtg, Mth, Wt, Mgf, Mgs, Mgp, Mgd, Mgt, Mgg, Mgh, Wg, Mhf, Mhs, Mhp, Mhd, Mht, Mhg, Mhh, Wh, mS_mm, mN_mm, mI_mm0, mI_mm1, mI_mm2, mI_mm3, mI_mm4, mI_mm5, mJ_mm, mm_mm, rd_mm, wR_mm0, wR_mm1, wR_mm2, wR_mm3, wR_mm4, wR_mm5, wL_mm, MoS_mm, obX9_mm, iA_mm]
  simp only [tellF] at hR
  have z : ∀ (u : Nat → Int32) (k : Nat) (v : Int32) (j : Nat), j ≠ k → upd u k v j = u j := fun u k v j h => by rw [updE, if_neg h]
  by_cases g : rv = 0
  · simp only [if_pos g, if_neg (show ¬ (1 : Int32) = 0 by decide)] at hR fin
    exact ⟨fun _ => fin _ (by rw [z _ _ _ _ (by decide), z _ _ _ _ (by decide)]) (by rw [z _ _ _ _ (by decide), z _ _ _ _ (by decide)]) hR, fun h => absurd g h⟩
  · simp only [if_neg g, if_pos] at hR fin
    exact ⟨fun h => absurd h g, fun _ => fin _ (by rw [z _ _ _ _ (by decide), z _ _ _ _ (by decide)]) (by rw [z _ _ _ _ (by decide), z _ _ _ _ (by decide)]) hR⟩
theorem xX9_receives_l4 (o p : Nat) (x : Int32) (a2 a3 a5 a6 : Option Value) (ν : qMM) (m : Mod) (h0 : MoS ν o) (hp : p < 500) (hb : ∃ n : Nat, n ≤ 20 ∧ m.s 31 = nI n) (h53 : ¬ m.s 53 = 0) (ht : ∃ t, mS ν o = some (Sum.inl (8, t))) (R : Option Value → qMM → Nat × Nat → Prop) (X : String → qMM → Nat × Nat → Prop) (hR : R (some (.int (if rightL m.s m.g p x 4 = 0 then 1 else 0))) (mm ν o (m.ws (tellF (keepF m.s m.g x) x (if rightL m.s m.g p x 4 = 0 then 1 else 0)))) (0, 0)) : EX (SX9_receives R X) 175 [some (.ref o), some (.int (nI p)), a2, a3, some (.int x), a5, a6] [] [] (mm ν o m) (0, 0) := by
  have h := xX9_receives_l2 o p x a2 a3 ν m h0 hp ht R X (xX9_receives_l3 o p x _ a2 a3 _ ν m h0 hb h53 ht R X hR) 4 0 rfl
  unfold rightL at h
  simp only [eX9_receives_175, eX9_receives_177, eX9_receives_178, eX9_receives_181, eX9_receives_182, eX9_receives_185, eX9_receives_186, eX9_receives_188, eX9_receives_189]
  by_cases g : x = nI p
  · rw [if_pos g] at h
    exact ⟨fun z => absurd g z, fun _ => h⟩
  · rw [if_neg g] at h
    exact ⟨fun _ => h, fun z => absurd g z⟩
theorem place_ex {s : Nat → Int32} {x : Int32} (h : ¬ placeF s x = -1) : ∃ a : Nat, placeF s x = nI a ∧ a = 66 + 7 * slotOf x ∧ a + 6 < 5514 := by
  have := slot_lt x
  unfold placeF at h ⊢
  by_cases g : 0 ≤ x ∧ s (66 + 7 * slotOf x) = x
  · rw [if_pos g]
    exact ⟨_, rfl, rfl, by omega⟩
  · rw [if_neg g] at h
    exact absurd rfl h
theorem xX9_receives_l6 (o p : Nat) (fl x : Int32) (a2 a5 a6 : Option Value) (ν : qMM) (m : Mod) (h0 : MoS ν o) (hp : p < 500) (hb : ∃ n : Nat, n ≤ 20 ∧ m.s 31 = nI n) (h53 : ¬ m.s 53 = 0) (hf : m.s (514 + 10 * p + 7) = 0 ∨ ∃ r : Nat, r < 500 ∧ m.s (514 + 10 * p + 8) = nI r) (ht : ∃ t, mS ν o = some (Sum.inl (8, t))) (R : Option Value → qMM → Nat × Nat → Prop) (X : String → qMM → Nat × Nat → Prop) (hx : x = xF m.s p) (hfl : (m.s (514 + 10 * p + 7) = 0 → fl = 1) ∧ (¬ m.s (514 + 10 * p + 7) = 0 → fl = 0)) (hR : R (some (.int (outF m.s m.g p))) (mm ν o ((m.ws (recS1 m.s m.g p)).wg (if outF m.s m.g p = 3 ∨ outF m.s m.g p = 2 then m.g else gotF m.s m.g p))) (0, 0)) : EX (SX9_receives R X) 73 [some (.ref o), some (.int (nI p)), a2, some (.int fl), some (.int x), a5, a6] [] [] (mm ν o m) (0, 0) := by
  subst hx
  obtain ⟨h1, h2, h3, h4, h5, h6⟩ := id h0
  simp only [eX9_receives_73, eX9_receives_74, eX9_receives_76, eX9_receives_79, eX9_receives_80, h0, ht, tX9, PX9_placeOf, QX9_placeOf, qa2, forall_eq, true_and, Swsf, Swpf, Swdf, Swtf, Swgf, Swhf, Swps, Swds, Swts, Swgs, Swhs, Swdp, Swtp, Swgp, Swhp, Swtd, Swgd, Swhd, Swgt, Swht, Swhg, Mff, Mfs, Mfp, Mfd, Mft, Mfg, Mfh, Wf, Msf, Mss, Msp, Msd, Mst, Msg, Msh, Ws, Mpf, Mps, Mpp, Mpd, Mpt, Mpg, Mph, Wp, Mdf, Mds, Mdp, Mdd, Mdt, Mdg, Mdh, Wd, Mtf, Mts, Mtp, Mtd, Mtt, Mtg, Mth, Wt, Mgf, Mgs, Mgp, Mgd, Mgt, Mgg, Mgh, Wg, Mhf, Mhs, Mhp, Mhd, Mht, Mhg, Mhh, Wh, mS_mm, mN_mm, mI_mm0, mI_mm1, mI_mm2, mI_mm3, mI_mm4, mI_mm5, mJ_mm, mm_mm, rd_mm, wR_mm0, wR_mm1, wR_mm2, wR_mm3, wR_mm4, wR_mm5, wL_mm, MoS_mm, obX9_mm, iA_mm, List.length_nil, List.length_cons, ll0, ll1, ll2, ll3, ll4, Nat.le_refl, and_true]
  refine ⟨fun g => ?_, fun g => ?_⟩
  · have e : outF m.s m.g p = if ¬ m.s (514 + 10 * p + 7) = 0 ∧ placeF m.s (xF m.s p - dF m.s p) = -1 then 2 else if rightL m.s (gotF m.s m.g p) p (xF m.s p) 4 = 0 then 1 else 0 := by
      unfold outF
      rw [if_neg (fun z => z g)]
    by_cases full : m.s (514 + 10 * p + 7) = 0
    · rw [if_neg (fun z => z.1 full)] at e
      have eg : gotF m.s m.g p = cpyG m.s p m.g 6 := by
        unfold gotF
        rw [if_pos full]
      rw [eg] at e
      have e2 : ¬ (outF m.s m.g p = 3 ∨ outF m.s m.g p = 2) := by
        rw [e]
        split <;> decide
      have e3 : recS1 m.s m.g p = tellF (keepF m.s (cpyG m.s p m.g 6) (xF m.s p)) (xF m.s p) (outF m.s m.g p) := by
        unfold recS1
        rw [if_neg (fun z => e2 (Or.inl z)), if_neg (fun z => e2 (Or.inr z)), eg]
      rw [if_neg e2, eg, e3, e] at hR
      have hc : EX (SX9_receives R X) 103 [some (.ref o), some (.int (nI p)), a2, some (.int 1), some (.int (xF m.s p)), some (.int (nI 0)), a6] [] [] (mm ν o (m.wg (cpyG m.s p m.g 0))) (0, 0) := by
        refine xX9_receives_l1 o p (xF m.s p) a2 (some (.int 1)) a6 ν m h0 hp ht R X ?_ 6 0 rfl
        refine xX9_receives_l4 o p (xF m.s p) a2 (some (.int 1)) _ a6 ν (m.wg (cpyG m.s p m.g 6)) h0 hp hb h53 ht R X ?_
        simp only [Swsf, Swpf, Swdf, Swtf, Swgf, Swhf, Swps, Swds, Swts, Swgs, Swhs, Swdp, Swtp, Swgp, Swhp, Swtd, Swgd, Swhd, Swgt, Swht, Swhg, Mff, Mfs, Mfp, Mfd, Mft, Mfg, Mfh, Wf, Msf, Mss, Msp, Msd, Mst, Msg, Msh, Ws, Mpf, Mps, Mpp, Mpd, Mpt, Mpg, Mph, Wp, Mdf, Mds, Mdp, Mdd, Mdt, Mdg, Mdh, Wd, Mtf, Mts, Mtp, Mtd, Mtt, Mtg, Mth, Wt, Mgf, Mgs, Mgp, Mgd, Mgt, Mgg, Mgh, Wg, Mhf, Mhs, Mhp, Mhd, Mht, Mhg, Mhh, Wh, mS_mm, mN_mm, mI_mm0, mI_mm1, mI_mm2, mI_mm3, mI_mm4, mI_mm5, mJ_mm, mm_mm, rd_mm, wR_mm0, wR_mm1, wR_mm2, wR_mm3, wR_mm4, wR_mm5, wL_mm, MoS_mm, obX9_mm, iA_mm]
        exact hR
      simp only [hfl.1 full, eX9_receives_96, eX9_receives_97, eX9_receives_100, eX9_receives_101, one0, one0, eq_self, not_true_eq_false, not_false_eq_true, true_imp_iff, false_imp_iff, true_and, and_true, Classical.not_not]
      exact hc
    · obtain ⟨r, hr, hr8⟩ := hf.resolve_left full
      simp only [hfl.2 full, eX9_receives_96, eX9_receives_97, eX9_receives_133, eX9_receives_134, eX9_receives_135, eX9_receives_136, eX9_receives_138, eX9_receives_141, eX9_receives_142, eX9_receives_144, eX9_receives_145, eX9_receives_147, eX9_receives_149, eX9_receives_150, eX9_receives_153, eX9_receives_155, eX9_receives_157, eX9_receives_158, eX9_receives_161, eX9_receives_162, eX9_receives_165, eX9_receives_166, eX9_receives_167, eX9_receives_168, eX9_receives_170, eX9_receives_172, h0, ht, tX9, PX9_of, QX9_of, PX9_placeOf, QX9_placeOf, PX9_fails2, QX9_fails2, PX9_decodes, QX9_decodes, qa2, forall_eq, true_and, nIC (show p < 1000000 by omega), show (8 : Int32).toNatClampNeg = 8 from rfl, one0, eq_self, not_true_eq_false, not_false_eq_true, true_imp_iff, false_imp_iff, true_and, and_true, Classical.not_not, Swsf, Swpf, Swdf, Swtf, Swgf, Swhf, Swps, Swds, Swts, Swgs, Swhs, Swdp, Swtp, Swgp, Swhp, Swtd, Swgd, Swhd, Swgt, Swht, Swhg, Mff, Mfs, Mfp, Mfd, Mft, Mfg, Mfh, Wf, Msf, Mss, Msp, Msd, Mst, Msg, Msh, Ws, Mpf, Mps, Mpp, Mpd, Mpt, Mpg, Mph, Wp, Mdf, Mds, Mdp, Mdd, Mdt, Mdg, Mdh, Wd, Mtf, Mts, Mtp, Mtd, Mtt, Mtg, Mth, Wt, Mgf, Mgs, Mgp, Mgd, Mgt, Mgg, Mgh, Wg, Mhf, Mhs, Mhp, Mhd, Mht, Mhg, Mhh, Wh, mS_mm, mN_mm, mI_mm0, mI_mm1, mI_mm2, mI_mm3, mI_mm4, mI_mm5, mJ_mm, mm_mm, rd_mm, wR_mm0, wR_mm1, wR_mm2, wR_mm3, wR_mm4, wR_mm5, wL_mm, MoS_mm, obX9_mm, iA_mm, List.length_nil, List.length_cons, ll0, ll1, ll2, ll3, ll4, Nat.le_refl, and_true]
      refine ⟨⟨p, 8, hp, by decide, rfl, rfl⟩, fun g2 => ?_, fun g2 => ?_⟩
      · have eg : gotF m.s m.g p = decF m.s p (placeF m.s (xF m.s p - dF m.s p)).toNatClampNeg (dF m.s p) m.g := by
          unfold gotF
          rw [if_neg full]
        rw [if_neg (fun z => g2 z.2)] at e
        have e2 : ¬ (outF m.s m.g p = 3 ∨ outF m.s m.g p = 2) := by
          rw [e]
          split <;> decide
        obtain ⟨a, ha, -, ha2⟩ := place_ex g2
        refine ⟨⟨p, a, r, hp, ha2, hr, rfl, ha, hr8⟩, ?_⟩
        have eg' := eg
        simp only [dF] at eg'
        rw [← eg']
        refine xX9_receives_l4 o p (xF m.s p) a2 _ _ _ ν (m.wg (gotF m.s m.g p)) h0 hp hb h53 ht R X ?_
        rw [if_neg e2] at hR
        have e3 : recS1 m.s m.g p = tellF (keepF m.s (gotF m.s m.g p) (xF m.s p)) (xF m.s p) (outF m.s m.g p) := by
          unfold recS1
          rw [if_neg (fun z => e2 (Or.inl z)), if_neg (fun z => e2 (Or.inr z))]
        rw [e3, e] at hR
        simp only [Swsf, Swpf, Swdf, Swtf, Swgf, Swhf, Swps, Swds, Swts, Swgs, Swhs, Swdp, Swtp, Swgp, Swhp, Swtd, Swgd, Swhd, Swgt, Swht, Swhg, Mff, Mfs, Mfp, Mfd, Mft, Mfg, Mfh, Wf, Msf, Mss, Msp, Msd, Mst, Msg, Msh, Ws, Mpf, Mps, Mpp, Mpd, Mpt, Mpg, Mph, Wp, Mdf, Mds, Mdp, Mdd, Mdt, Mdg, Mdh, Wd, Mtf, Mts, Mtp, Mtd, Mtt, Mtg, Mth, Wt, Mgf, Mgs, Mgp, Mgd, Mgt, Mgg, Mgh, Wg, Mhf, Mhs, Mhp, Mhd, Mht, Mhg, Mhh, Wh, mS_mm, mN_mm, mI_mm0, mI_mm1, mI_mm2, mI_mm3, mI_mm4, mI_mm5, mJ_mm, mm_mm, rd_mm, wR_mm0, wR_mm1, wR_mm2, wR_mm3, wR_mm4, wR_mm5, wL_mm, MoS_mm, obX9_mm, iA_mm]
        exact hR
      · rw [if_pos ⟨full, g2⟩] at e
        have e3 : recS1 m.s m.g p = failF m.s := by
          unfold recS1
          rw [e, if_neg (by decide), if_pos rfl]
        rw [e, e3, if_pos (Or.inr rfl)] at hR
        exact ⟨hb, by simp [qOk], hR⟩
  · have e : outF m.s m.g p = 3 := by
      unfold outF
      rw [if_pos (fun z => g z)]
    have e3 : recS1 m.s m.g p = upd m.s 61 (m.s 61 + 1) := by
      unfold recS1
      rw [if_pos e]
    rw [e, e3, if_pos (Or.inl rfl)] at hR
    simp only [eX9_receives_83, eX9_receives_84, eX9_receives_87, eX9_receives_89, eX9_receives_90, eX9_receives_91, eX9_receives_92, eX9_receives_93, eX9_receives_94, eX9_receives_95, gX9_0, h1, h2, qA5514, vpl 61 5514 (by decide +kernel), show (61 : Int32).toNatClampNeg = 61 from rfl, wI_def, qOk, true_and, Swsf, Swpf, Swdf, Swtf, Swgf, Swhf, Swps, Swds, Swts, Swgs, Swhs, Swdp, Swtp, Swgp, Swhp, Swtd, Swgd, Swhd, Swgt, Swht, Swhg, Mff, Mfs, Mfp, Mfd, Mft, Mfg, Mfh, Wf, Msf, Mss, Msp, Msd, Mst, Msg, Msh, Ws, Mpf, Mps, Mpp, Mpd, Mpt, Mpg, Mph, Wp, Mdf, Mds, Mdp, Mdd, Mdt, Mdg, Mdh, Wd, Mtf, Mts, Mtp, Mtd, Mtt, Mtg, Mth, Wt, Mgf, Mgs, Mgp, Mgd, Mgt, Mgg, Mgh, Wg, Mhf, Mhs, Mhp, Mhd, Mht, Mhg, Mhh, Wh, mS_mm, mN_mm, mI_mm0, mI_mm1, mI_mm2, mI_mm3, mI_mm4, mI_mm5, mJ_mm, mm_mm, rd_mm, wR_mm0, wR_mm1, wR_mm2, wR_mm3, wR_mm4, wR_mm5, wL_mm, MoS_mm, obX9_mm, iA_mm]
    exact hR
theorem xX9_receives (o : Nat) (x1 : Int32) (μ : qMM) (ht : ∃ t, mS μ o = some (.inl (8, t))) (hp : PX9_receives o x1 μ) : EX (SX9_receives (rti 0 0 (QX9_receives o x1 μ)) (fun _ _ _ => False)) 0 [some (.ref o), some (.int x1), none, none, none, none, none] [] [] μ (0, 0) := by
  obtain ⟨ν, m, rfl⟩ := mm_ex μ o
  obtain ⟨h0, p, hp, rfl, hb, h53, hf⟩ := hp
  obtain ⟨h1, h2, h3⟩ := id h0
  have ht : ∃ t, mS ν o = some (Sum.inl (8, t)) := ht
  simp only [Swsf, Swpf, Swdf, Swtf, Swgf, Swhf, Swps, Swds, Swts, Swgs, Swhs, Swdp, Swtp, Swgp, Swhp, Swtd, Swgd, Swhd, Swgt, Swht, Swhg, Mff, Mfs, Mfp, Mfd, Mft, Mfg, Mfh, Wf, Msf, Mss, Msp, Msd, Mst, Msg, Msh, Ws, Mpf, Mps, Mpp, Mpd, Mpt, Mpg, Mph, Wp, Mdf, Mds, Mdp, Mdd, Mdt, Mdg, Mdh, Wd, Mtf, Mts, Mtp, Mtd, Mtt, Mtg, Mth, Wt, Mgf, Mgs, Mgp, Mgd, Mgt, Mgg, Mgh, Wg, Mhf, Mhs, Mhp, Mhd, Mht, Mhg, Mhh, Wh, mS_mm, mN_mm, mI_mm0, mI_mm1, mI_mm2, mI_mm3, mI_mm4, mI_mm5, mJ_mm, mm_mm, rd_mm, wR_mm0, wR_mm1, wR_mm2, wR_mm3, wR_mm4, wR_mm5, wL_mm, MoS_mm, obX9_mm, iA_mm] at h0 h1 h2 hb h53 hf
  have z : ∀ j, j ≠ 65 → lateF m.s p j = m.s j := fun j hj => by unfold lateF; rw [updE, if_neg hj]
  rw [← z _ (by decide)] at hb
  rw [← z _ (by decide)] at h53
  rw [← z _ (by omega), ← z (514 + 10 * p + 8) (by omega)] at hf
  have e7 := z (514 + 10 * p + 7) (by omega)
  have l6 := fun fl x hx hfl => xX9_receives_l6 o p fl x (some (.int (m.s 55 - nI p))) none none ν (m.ws (lateF m.s p)) h0 hp hb h53 hf ht (rti 0 0 (QX9_receives o (nI p) (mm ν o m))) (fun _ _ _ => False) hx hfl (by
    simp only [rti_at, QX9_receives, recA, recM, recS, recG, nIC (show p < 1000000 by omega), Swsf, Swpf, Swdf, Swtf, Swgf, Swhf, Swps, Swds, Swts, Swgs, Swhs, Swdp, Swtp, Swgp, Swhp, Swtd, Swgd, Swhd, Swgt, Swht, Swhg, Mff, Mfs, Mfp, Mfd, Mft, Mfg, Mfh, Wf, Msf, Mss, Msp, Msd, Mst, Msg, Msh, Ws, Mpf, Mps, Mpp, Mpd, Mpt, Mpg, Mph, Wp, Mdf, Mds, Mdp, Mdd, Mdt, Mdg, Mdh, Wd, Mtf, Mts, Mtp, Mtd, Mtt, Mtg, Mth, Wt, Mgf, Mgs, Mgp, Mgd, Mgt, Mgg, Mgh, Wg, Mhf, Mhs, Mhp, Mhd, Mht, Mhg, Mhh, Wh, mS_mm, mN_mm, mI_mm0, mI_mm1, mI_mm2, mI_mm3, mI_mm4, mI_mm5, mJ_mm, mm_mm, rd_mm, wR_mm0, wR_mm1, wR_mm2, wR_mm3, wR_mm4, wR_mm5, wL_mm, MoS_mm, obX9_mm, iA_mm]
    simp)
  have mid : EX (SX9_receives (rti 0 0 (QX9_receives o (nI p) (mm ν o m))) (fun _ _ _ => False)) 39 [some (.ref o), some (.int (nI p)), some (.int (m.s 55 - nI p)), none, none, none, none] [] [] (mm ν o (m.ws (lateF m.s p))) (0, 0) := by
    simp only [eX9_receives_39, eX9_receives_40, eX9_receives_41, eX9_receives_43, eX9_receives_46, eX9_receives_49, eX9_receives_50, eX9_receives_53, eX9_receives_54, eX9_receives_55, eX9_receives_56, eX9_receives_59, eX9_receives_60, eX9_receives_63, eX9_receives_64, eX9_receives_65, eX9_receives_67, eX9_receives_68, eX9_receives_71, h0, h1, ht, tX9, PX9_of, QX9_of, PX9_numberOf, QX9_numberOf, qa2, forall_eq, nIC (show p < 1000000 by omega), show (7 : Int32).toNatClampNeg = 7 from rfl, true_and, Swsf, Swpf, Swdf, Swtf, Swgf, Swhf, Swps, Swds, Swts, Swgs, Swhs, Swdp, Swtp, Swgp, Swhp, Swtd, Swgd, Swhd, Swgt, Swht, Swhg, Mff, Mfs, Mfp, Mfd, Mft, Mfg, Mfh, Wf, Msf, Mss, Msp, Msd, Mst, Msg, Msh, Ws, Mpf, Mps, Mpp, Mpd, Mpt, Mpg, Mph, Wp, Mdf, Mds, Mdp, Mdd, Mdt, Mdg, Mdh, Wd, Mtf, Mts, Mtp, Mtd, Mtt, Mtg, Mth, Wt, Mgf, Mgs, Mgp, Mgd, Mgt, Mgg, Mgh, Wg, Mhf, Mhs, Mhp, Mhd, Mht, Mhg, Mhh, Wh, mS_mm, mN_mm, mI_mm0, mI_mm1, mI_mm2, mI_mm3, mI_mm4, mI_mm5, mJ_mm, mm_mm, rd_mm, wR_mm0, wR_mm1, wR_mm2, wR_mm3, wR_mm4, wR_mm5, wL_mm, MoS_mm, obX9_mm, iA_mm, List.length_nil, List.length_cons, ll0, ll1, ll2, ll3, ll4, Nat.le_refl, and_true]
    refine ⟨⟨p, 7, hp, by decide, rfl, rfl⟩, fun g => ⟨fun _ => ?_, fun h => absurd trivial h⟩, fun g => ⟨fun h => absurd h (by decide), fun _ => ?_⟩⟩
    · exact l6 _ _ (by unfold xF; exact (if_neg g).symm) ⟨fun z => absurd z g, fun _ => rfl⟩
    · have g := Classical.not_not.mp g
      exact l6 _ _ (by unfold xF; exact (if_pos g).symm) ⟨fun _ => rfl, fun z => absurd g z⟩
  simp only [eX9_receives_0, eX9_receives_1, eX9_receives_4, eX9_receives_6, eX9_receives_7, eX9_receives_8, eX9_receives_9, eX9_receives_10, eX9_receives_11, eX9_receives_14, eX9_receives_16, eX9_receives_17, eX9_receives_18, eX9_receives_21, eX9_receives_23, eX9_receives_24, eX9_receives_27, eX9_receives_28, eX9_receives_31, eX9_receives_32, eX9_receives_35, eX9_receives_37, eX9_receives_38, gX9_0, h1, h2, qA5514, vpl 55 5514 (by decide +kernel), vpl 65 5514 (by decide +kernel), show (55 : Int32).toNatClampNeg = 55 from rfl, show (65 : Int32).toNatClampNeg = 65 from rfl, wI_def, true_and, Swsf, Swpf, Swdf, Swtf, Swgf, Swhf, Swps, Swds, Swts, Swgs, Swhs, Swdp, Swtp, Swgp, Swhp, Swtd, Swgd, Swhd, Swgt, Swht, Swhg, Mff, Mfs, Mfp, Mfd, Mft, Mfg, Mfh, Wf, Msf, Mss, Msp, Msd, Mst, Msg, Msh, Ws, Mpf, Mps, Mpp, Mpd, Mpt, Mpg, Mph, Wp, Mdf, Mds, Mdp, Mdd, Mdt, Mdg, Mdh, Wd, Mtf, Mts, Mtp, Mtd, Mtt, Mtg, Mth, Wt, Mgf, Mgs, Mgp, Mgd, Mgt, Mgg, Mgh, Wg, Mhf, Mhs, Mhp, Mhd, Mht, Mhg, Mhh, Wh, mS_mm, mN_mm, mI_mm0, mI_mm1, mI_mm2, mI_mm3, mI_mm4, mI_mm5, mJ_mm, mm_mm, rd_mm, wR_mm0, wR_mm1, wR_mm2, wR_mm3, wR_mm4, wR_mm5, wL_mm, MoS_mm, obX9_mm, iA_mm]
  unfold lateF at mid
  by_cases g : m.s 65 < m.s 55 - nI p
  · rw [if_pos g] at mid
    exact ⟨fun h => absurd g (Int32.not_lt.mpr h), fun _ => mid⟩
  · rw [if_neg g] at mid
    exact ⟨fun _ => mid, fun h => absurd (Int32.not_lt.mp g) h⟩
theorem xX9_delivers (o : Nat) (x1 : Int32) (μ : qMM) (ht : ∃ t, mS μ o = some (.inl (8, t))) (hp : PX9_delivers o x1 μ) : EX (SX9_delivers (rti 0 0 (QX9_delivers o x1 μ)) (fun _ _ _ => False)) 0 [some (.ref o), some (.int x1)] [] [] μ (0, 0) := by
  obtain ⟨ν, m, rfl⟩ := mm_ex μ o
  obtain ⟨h0, n, hn, hl, hi⟩ := hp
  obtain ⟨h1, h2, h3⟩ := id h0
  have ht : ∃ t, mS ν o = some (Sum.inl (8, t)) := ht
  simp only [Swsf, Swpf, Swdf, Swtf, Swgf, Swhf, Swps, Swds, Swts, Swgs, Swhs, Swdp, Swtp, Swgp, Swhp, Swtd, Swgd, Swhd, Swgt, Swht, Swhg, Mff, Mfs, Mfp, Mfd, Mft, Mfg, Mfh, Wf, Msf, Mss, Msp, Msd, Mst, Msg, Msh, Ws, Mpf, Mps, Mpp, Mpd, Mpt, Mpg, Mph, Wp, Mdf, Mds, Mdp, Mdd, Mdt, Mdg, Mdh, Wd, Mtf, Mts, Mtp, Mtd, Mtt, Mtg, Mth, Wt, Mgf, Mgs, Mgp, Mgd, Mgt, Mgg, Mgh, Wg, Mhf, Mhs, Mhp, Mhd, Mht, Mhg, Mhh, Wh, mS_mm, mN_mm, mI_mm0, mI_mm1, mI_mm2, mI_mm3, mI_mm4, mI_mm5, mJ_mm, mm_mm, rd_mm, wR_mm0, wR_mm1, wR_mm2, wR_mm3, wR_mm4, wR_mm5, wL_mm, MoS_mm, obX9_mm, iA_mm] at hl h0 h1 h2 hi
  simp only [eX9_delivers_0, eX9_delivers_1, eX9_delivers_3, eX9_delivers_4, eX9_delivers_7, eX9_delivers_10, eX9_delivers_11, eX9_delivers_12, eX9_delivers_13, eX9_delivers_14, eX9_delivers_15, eX9_delivers_17, eX9_delivers_18, eX9_delivers_21, eX9_delivers_24, eX9_delivers_27, eX9_delivers_28, rtv_at, rti_at, rtj_at, rtd_at, rta_at, qOk, qOkR, pX9_8, h0, h1, h2, ht, tX9, obX9_wR, PX9_isIn, QX9_isIn, PX9_takes, QX9_takes, PX9_receives, QX9_receives, QX9_delivers, recA, recM, dlvM, takeM, qa2, forall_eq, show (10 : Int32).toNatClampNeg = 10 from rfl, wI_def, true_and, Swsf, Swpf, Swdf, Swtf, Swgf, Swhf, Swps, Swds, Swts, Swgs, Swhs, Swdp, Swtp, Swgp, Swhp, Swtd, Swgd, Swhd, Swgt, Swht, Swhg, Mff, Mfs, Mfp, Mfd, Mft, Mfg, Mfh, Wf, Msf, Mss, Msp, Msd, Mst, Msg, Msh, Ws, Mpf, Mps, Mpp, Mpd, Mpt, Mpg, Mph, Wp, Mdf, Mds, Mdp, Mdd, Mdt, Mdg, Mdh, Wd, Mtf, Mts, Mtp, Mtd, Mtt, Mtg, Mth, Wt, Mgf, Mgs, Mgp, Mgd, Mgt, Mgg, Mgh, Wg, Mhf, Mhs, Mhp, Mhd, Mht, Mhg, Mhh, Wh, mS_mm, mN_mm, mI_mm0, mI_mm1, mI_mm2, mI_mm3, mI_mm4, mI_mm5, mJ_mm, mm_mm, rd_mm, wR_mm0, wR_mm1, wR_mm2, wR_mm3, wR_mm4, wR_mm5, wL_mm, MoS_mm, obX9_mm, iA_mm, List.length_nil, List.length_cons, ll0, ll1, ll2, ll3, ll4, Nat.le_refl, and_true]
  by_cases g : inL m.s 10 x1
  · obtain ⟨j, hj, rfl⟩ := inL_idx hn hl g
    obtain ⟨p, hp, hv, hb, h53, hf⟩ := hi j hj
    have e : ∀ q, q < 10 ∨ 30 < q → takeF m.s 10 j q = m.s q := fun q hq => take_o (by rw [hl, nIC (by omega)]; omega)
    simp only [if_pos g, nIC (show j < 1000000 by omega), show 10 + 1 + j = 11 + j by omega, one0, eq_self, not_true_eq_false, not_false_eq_true, true_imp_iff, false_imp_iff, true_and, and_true, Classical.not_not]
    refine ⟨by simp, ⟨10, n, j, Or.inl rfl, hn, hj, rfl, rfl, hl⟩, p, hp, hv, ?_⟩
    unfold rcvOK
    rw [e _ (by omega), e _ (by omega), e _ (by omega), e _ (by omega)]
    exact ⟨hb, h53, hf⟩
  · simp only [if_neg g, one0, eq_self, not_true_eq_false, not_false_eq_true, true_imp_iff, false_imp_iff, true_and, and_true, Classical.not_not]
    simp
