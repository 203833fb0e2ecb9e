/-! ===== bodies: a State ===== -/
theorem xX6_hasRoomFor (o : Nat) (x1 : Int32) (μ : qMM) (ht : ∃ t, mS μ o = some (.inl (5, t))) (hp : PX6_hasRoomFor o x1 μ) : EX (SX6_hasRoomFor (rti 0 0 (QX6_hasRoomFor o x1 μ)) (fun _ _ _ => False)) 0 [some (.ref o), some (.int x1)] [] [] μ (0, 0) := by
  obtain ⟨lg, h1, h2, h3, h4, h5⟩ := hp
  simp only [eX6_hasRoomFor_0, eX6_hasRoomFor_1, eX6_hasRoomFor_4, eX6_hasRoomFor_7, eX6_hasRoomFor_8, eX6_hasRoomFor_9, eX6_hasRoomFor_12, eX6_hasRoomFor_15, eX6_hasRoomFor_16, eX6_hasRoomFor_19, eX6_hasRoomFor_22, eX6_hasRoomFor_23, eX6_hasRoomFor_24, eX6_hasRoomFor_26, eX6_hasRoomFor_29, eX6_hasRoomFor_30, eX6_hasRoomFor_33, eX6_hasRoomFor_34, rtv_at, rti_at, rtj_at, rtd_at, rta_at, qOk, qOkR, gX6_0, gX6_2, gX5_5 lg, gX0_1, h1, h2.1, h4.1, QX6_hasRoomFor, qOk, List.length_nil, List.length_cons, ll0, ll1, ll2, ll3, ll4, Nat.le_refl, and_true, one0, eq_self, or_true, true_or, not_true_eq_false, not_false_eq_true, true_imp_iff, false_imp_iff, true_and, and_true, Classical.not_not]
  by_cases g1 : mI μ (o + 5) 5 + x1 ≤ 500 <;> by_cases g2 : mI μ (o + 1) 1 + x1 ≤ 20 <;> simp [g1, g2, Int32.not_lt]
theorem xX6_countOf (o : Nat) (x1 : Int32) (μ : qMM) (ht : ∃ t, mS μ o = some (.inl (5, t))) (hp : PX6_countOf o x1 μ) : EX (SX6_countOf (rti 0 0 (QX6_countOf o x1 μ)) (fun _ _ _ => False)) 0 [some (.ref o), some (.int x1)] [] [] μ (0, 0) := by
  obtain ⟨⟨lg, h1, h2, h3, h4, h5⟩, w, hw, rfl⟩ := hp
  have ht2 := tX2 lg h3.1
  have pd : PX2_decodedPackets (o + 10) μ := ⟨lg, h3⟩
  have key : ∀ r, (∀ s, CsR μ o s → r = couF s (nI w)) → rti 0 0 (QX6_countOf o (nI w) μ) (some (.int r)) μ (0, 0) := fun r h => by
    rw [rti_at]
    exact ⟨⟨h, rfl⟩, by decide, by decide⟩
  rcases (by omega : w = 0 ∨ w = 1 ∨ w = 2 ∨ w = 3 ∨ w = 4 ∨ w = 5 ∨ w = 6 ∨ w = 7) with rfl | rfl | rfl | rfl | rfl | rfl | rfl | rfl
  all_goals simp only [eX6_countOf_0, eX6_countOf_1]
  · rw [show qSwT 1 107 0 6 #[43, 51, 59, 69, 79, 89, 99] (nI 0) = some 44 from by decide]
    simp only [qGo, eX6_countOf_44, eX6_countOf_45, eX6_countOf_48, eX6_countOf_51, eX6_countOf_52, eX6_countOf_53, eX6_countOf_56, eX6_countOf_59, eX6_countOf_60, eX6_countOf_61, eX6_countOf_64, eX6_countOf_67, eX6_countOf_68, eX6_countOf_69, eX6_countOf_70, eX6_countOf_71, eX6_countOf_74, eX6_countOf_77, eX6_countOf_78, eX6_countOf_79, eX6_countOf_80, eX6_countOf_81, eX6_countOf_84, eX6_countOf_87, eX6_countOf_88, eX6_countOf_89, eX6_countOf_90, eX6_countOf_91, eX6_countOf_94, eX6_countOf_97, eX6_countOf_98, eX6_countOf_99, eX6_countOf_100, eX6_countOf_101, eX6_countOf_104, eX6_countOf_107, eX6_countOf_108, eX6_countOf_109, eX6_countOf_112, eX6_countOf_115, gX6_0, gX5_5 lg, h1, h2.1, qOk, List.length_nil, List.length_cons, ll0, ll1, ll2, ll3, ll4, Nat.le_refl, and_true, one0, eq_self, or_true, true_or, not_true_eq_false, not_false_eq_true, true_imp_iff, false_imp_iff, true_and, and_true, Classical.not_not]
    exact key _ fun s hs => hs.1.2.2.2.2.1
  · rw [show qSwT 1 107 0 6 #[43, 51, 59, 69, 79, 89, 99] (nI 1) = some 52 from by decide]
    simp only [qGo, eX6_countOf_44, eX6_countOf_45, eX6_countOf_48, eX6_countOf_51, eX6_countOf_52, eX6_countOf_53, eX6_countOf_56, eX6_countOf_59, eX6_countOf_60, eX6_countOf_61, eX6_countOf_64, eX6_countOf_67, eX6_countOf_68, eX6_countOf_69, eX6_countOf_70, eX6_countOf_71, eX6_countOf_74, eX6_countOf_77, eX6_countOf_78, eX6_countOf_79, eX6_countOf_80, eX6_countOf_81, eX6_countOf_84, eX6_countOf_87, eX6_countOf_88, eX6_countOf_89, eX6_countOf_90, eX6_countOf_91, eX6_countOf_94, eX6_countOf_97, eX6_countOf_98, eX6_countOf_99, eX6_countOf_100, eX6_countOf_101, eX6_countOf_104, eX6_countOf_107, eX6_countOf_108, eX6_countOf_109, eX6_countOf_112, eX6_countOf_115, gX6_1, h1, ht2, pd, QX2_decodedPackets, qa2, qOk, List.length_nil, List.length_cons, ll0, ll1, ll2, ll3, ll4, Nat.le_refl, and_true, one0, eq_self, or_true, true_or, not_true_eq_false, not_false_eq_true, true_imp_iff, false_imp_iff, true_and, and_true, Classical.not_not]
    refine key _ fun s hs => ?_
    rw [hs.2.1.2.1.1, hs.2.1.2.1.2.1]
    exact hs.2.1.2.1.2.2.2.2.symm
  · rw [show qSwT 1 107 0 6 #[43, 51, 59, 69, 79, 89, 99] (nI 2) = some 60 from by decide]
    simp only [qGo, eX6_countOf_44, eX6_countOf_45, eX6_countOf_48, eX6_countOf_51, eX6_countOf_52, eX6_countOf_53, eX6_countOf_56, eX6_countOf_59, eX6_countOf_60, eX6_countOf_61, eX6_countOf_64, eX6_countOf_67, eX6_countOf_68, eX6_countOf_69, eX6_countOf_70, eX6_countOf_71, eX6_countOf_74, eX6_countOf_77, eX6_countOf_78, eX6_countOf_79, eX6_countOf_80, eX6_countOf_81, eX6_countOf_84, eX6_countOf_87, eX6_countOf_88, eX6_countOf_89, eX6_countOf_90, eX6_countOf_91, eX6_countOf_94, eX6_countOf_97, eX6_countOf_98, eX6_countOf_99, eX6_countOf_100, eX6_countOf_101, eX6_countOf_104, eX6_countOf_107, eX6_countOf_108, eX6_countOf_109, eX6_countOf_112, eX6_countOf_115, gX6_1, gX2_8 lg, h1, h3.1, h3.2.1, qA4, v04, ci0, qOk, List.length_nil, List.length_cons, ll0, ll1, ll2, ll3, ll4, Nat.le_refl, and_true, one0, eq_self, or_true, true_or, not_true_eq_false, not_false_eq_true, true_imp_iff, false_imp_iff, true_and, and_true, Classical.not_not]
    exact key _ fun s hs => hs.2.1.2.1.1
  · rw [show qSwT 1 107 0 6 #[43, 51, 59, 69, 79, 89, 99] (nI 3) = some 70 from by decide]
    simp only [qGo, eX6_countOf_44, eX6_countOf_45, eX6_countOf_48, eX6_countOf_51, eX6_countOf_52, eX6_countOf_53, eX6_countOf_56, eX6_countOf_59, eX6_countOf_60, eX6_countOf_61, eX6_countOf_64, eX6_countOf_67, eX6_countOf_68, eX6_countOf_69, eX6_countOf_70, eX6_countOf_71, eX6_countOf_74, eX6_countOf_77, eX6_countOf_78, eX6_countOf_79, eX6_countOf_80, eX6_countOf_81, eX6_countOf_84, eX6_countOf_87, eX6_countOf_88, eX6_countOf_89, eX6_countOf_90, eX6_countOf_91, eX6_countOf_94, eX6_countOf_97, eX6_countOf_98, eX6_countOf_99, eX6_countOf_100, eX6_countOf_101, eX6_countOf_104, eX6_countOf_107, eX6_countOf_108, eX6_countOf_109, eX6_countOf_112, eX6_countOf_115, gX6_1, gX2_8 lg, h1, h3.1, h3.2.1, qA4, v14, ci1, qOk, List.length_nil, List.length_cons, ll0, ll1, ll2, ll3, ll4, Nat.le_refl, and_true, one0, eq_self, or_true, true_or, not_true_eq_false, not_false_eq_true, true_imp_iff, false_imp_iff, true_and, and_true, Classical.not_not]
    exact key _ fun s hs => hs.2.1.2.1.2.1
  · rw [show qSwT 1 107 0 6 #[43, 51, 59, 69, 79, 89, 99] (nI 4) = some 80 from by decide]
    simp only [qGo, eX6_countOf_44, eX6_countOf_45, eX6_countOf_48, eX6_countOf_51, eX6_countOf_52, eX6_countOf_53, eX6_countOf_56, eX6_countOf_59, eX6_countOf_60, eX6_countOf_61, eX6_countOf_64, eX6_countOf_67, eX6_countOf_68, eX6_countOf_69, eX6_countOf_70, eX6_countOf_71, eX6_countOf_74, eX6_countOf_77, eX6_countOf_78, eX6_countOf_79, eX6_countOf_80, eX6_countOf_81, eX6_countOf_84, eX6_countOf_87, eX6_countOf_88, eX6_countOf_89, eX6_countOf_90, eX6_countOf_91, eX6_countOf_94, eX6_countOf_97, eX6_countOf_98, eX6_countOf_99, eX6_countOf_100, eX6_countOf_101, eX6_countOf_104, eX6_countOf_107, eX6_countOf_108, eX6_countOf_109, eX6_countOf_112, eX6_countOf_115, gX6_1, gX2_8 lg, h1, h3.1, h3.2.1, qA4, v24, ci2, qOk, List.length_nil, List.length_cons, ll0, ll1, ll2, ll3, ll4, Nat.le_refl, and_true, one0, eq_self, or_true, true_or, not_true_eq_false, not_false_eq_true, true_imp_iff, false_imp_iff, true_and, and_true, Classical.not_not]
    exact key _ fun s hs => hs.2.1.2.1.2.2.1
  · rw [show qSwT 1 107 0 6 #[43, 51, 59, 69, 79, 89, 99] (nI 5) = some 90 from by decide]
    simp only [qGo, eX6_countOf_44, eX6_countOf_45, eX6_countOf_48, eX6_countOf_51, eX6_countOf_52, eX6_countOf_53, eX6_countOf_56, eX6_countOf_59, eX6_countOf_60, eX6_countOf_61, eX6_countOf_64, eX6_countOf_67, eX6_countOf_68, eX6_countOf_69, eX6_countOf_70, eX6_countOf_71, eX6_countOf_74, eX6_countOf_77, eX6_countOf_78, eX6_countOf_79, eX6_countOf_80, eX6_countOf_81, eX6_countOf_84, eX6_countOf_87, eX6_countOf_88, eX6_countOf_89, eX6_countOf_90, eX6_countOf_91, eX6_countOf_94, eX6_countOf_97, eX6_countOf_98, eX6_countOf_99, eX6_countOf_100, eX6_countOf_101, eX6_countOf_104, eX6_countOf_107, eX6_countOf_108, eX6_countOf_109, eX6_countOf_112, eX6_countOf_115, gX6_1, gX2_8 lg, h1, h3.1, h3.2.1, qA4, v34, ci3, qOk, List.length_nil, List.length_cons, ll0, ll1, ll2, ll3, ll4, Nat.le_refl, and_true, one0, eq_self, or_true, true_or, not_true_eq_false, not_false_eq_true, true_imp_iff, false_imp_iff, true_and, and_true, Classical.not_not]
    exact key _ fun s hs => hs.2.1.2.1.2.2.2.1
  · rw [show qSwT 1 107 0 6 #[43, 51, 59, 69, 79, 89, 99] (nI 6) = some 100 from by decide]
    simp only [qGo, eX6_countOf_44, eX6_countOf_45, eX6_countOf_48, eX6_countOf_51, eX6_countOf_52, eX6_countOf_53, eX6_countOf_56, eX6_countOf_59, eX6_countOf_60, eX6_countOf_61, eX6_countOf_64, eX6_countOf_67, eX6_countOf_68, eX6_countOf_69, eX6_countOf_70, eX6_countOf_71, eX6_countOf_74, eX6_countOf_77, eX6_countOf_78, eX6_countOf_79, eX6_countOf_80, eX6_countOf_81, eX6_countOf_84, eX6_countOf_87, eX6_countOf_88, eX6_countOf_89, eX6_countOf_90, eX6_countOf_91, eX6_countOf_94, eX6_countOf_97, eX6_countOf_98, eX6_countOf_99, eX6_countOf_100, eX6_countOf_101, eX6_countOf_104, eX6_countOf_107, eX6_countOf_108, eX6_countOf_109, eX6_countOf_112, eX6_countOf_115, gX6_1, gX2_6 lg, h1, h3.1, qOk, List.length_nil, List.length_cons, ll0, ll1, ll2, ll3, ll4, Nat.le_refl, and_true, one0, eq_self, or_true, true_or, not_true_eq_false, not_false_eq_true, true_imp_iff, false_imp_iff, true_and, and_true, Classical.not_not]
    exact key _ fun s hs => hs.2.1.1.2.2.2.2.2.1
  · rw [show qSwT 1 107 0 6 #[43, 51, 59, 69, 79, 89, 99] (nI 7) = some 108 from by decide]
    simp only [qGo, eX6_countOf_44, eX6_countOf_45, eX6_countOf_48, eX6_countOf_51, eX6_countOf_52, eX6_countOf_53, eX6_countOf_56, eX6_countOf_59, eX6_countOf_60, eX6_countOf_61, eX6_countOf_64, eX6_countOf_67, eX6_countOf_68, eX6_countOf_69, eX6_countOf_70, eX6_countOf_71, eX6_countOf_74, eX6_countOf_77, eX6_countOf_78, eX6_countOf_79, eX6_countOf_80, eX6_countOf_81, eX6_countOf_84, eX6_countOf_87, eX6_countOf_88, eX6_countOf_89, eX6_countOf_90, eX6_countOf_91, eX6_countOf_94, eX6_countOf_97, eX6_countOf_98, eX6_countOf_99, eX6_countOf_100, eX6_countOf_101, eX6_countOf_104, eX6_countOf_107, eX6_countOf_108, eX6_countOf_109, eX6_countOf_112, eX6_countOf_115, gX6_0, gX5_6 lg, h1, h2.1, qOk, List.length_nil, List.length_cons, ll0, ll1, ll2, ll3, ll4, Nat.le_refl, and_true, one0, eq_self, or_true, true_or, not_true_eq_false, not_false_eq_true, true_imp_iff, false_imp_iff, true_and, and_true, Classical.not_not]
    exact key _ fun s hs => hs.1.2.2.2.2.2.1
theorem xX6_sendNext (o : Nat) (μ : qMM) (ht : ∃ t, mS μ o = some (.inl (5, t))) (hp : PX6_sendNext o μ) : EX (SX6_sendNext (rti 0 0 (QX6_sendNext o μ)) (fun _ _ _ => False)) 0 [some (.ref o), none] [] [] μ (0, 0) := by
  obtain ⟨lg, H, s, hP, n, hn, h9⟩ := hp
  obtain ⟨h0, hl, hd, hC, hL, hN, iv⟩ := id hP
  obtain ⟨h1, h2, h3, h4, h5⟩ := id h0
  have ht5 := tX5 lg h2.1
  have seP : ∀ s H, StP μ lg o H s → SeP μ lg (o + 5) s := fun s H h => ⟨h.1.2.1, h.2.1, by have := h.2.2.1; omega, h.2.2.2.1.1, h.2.2.2.2.1, h.2.2.2.2.2.2.2.1, h.2.2.2.2.2.2.2.2.2.2, h.2.2.2.2.2.1⟩
  have ps : PX5_sendPresent (o + 5) μ := ⟨lg, s, seP s H hP, n, hn, h9⟩
  obtain ⟨-, -, -, -, f, hf, hf1, -⟩ := id iv.2.1
  simp only [eX6_sendNext_0, eX6_sendNext_1, eX6_sendNext_4, gX6_0, h1, ht5, ps, List.length_nil, List.length_cons, ll0, ll1, ll2, ll3, ll4, Nat.le_refl, and_true, one0, eq_self, or_true, true_or, not_true_eq_false, not_false_eq_true, true_imp_iff, false_imp_iff, true_and, and_true, Classical.not_not]
  intro r μ1 q1
  obtain ⟨rfl, qS, qn, ql, qu⟩ := q1 lg s (seP s H hP) ⟨n, hn, h9⟩
  have h1' : obX6 μ1 o := (StS_Sm qS h0).1
  have tk : ∃ t, mS μ1 (o + 1) = some (Sum.inl (0, t)) := tX0 (StS_Sm qS h0).2.2.2.1.1
  have m1 : mI μ1 (o + 1) = mI μ (o + 1) := qu.1 _ (by omega) (by omega)
  have m2 : mI μ1 (o + 1 + 1) = mI μ (o + 1 + 1) := qu.1 _ (by omega) (by omega)
  have pp : PX0_put (o + 1) (s 9) μ1 := ⟨(StS_Sm qS h0).2.2.2.1, f, hf, by rw [m1, hC.2.2.1.1, hf1]⟩
  simp only [eX6_sendNext_7, eX6_sendNext_8, eX6_sendNext_9, eX6_sendNext_12, eX6_sendNext_13, eX6_sendNext_16, eX6_sendNext_17, rtv_at, rti_at, rtj_at, rtd_at, rta_at, qOk, qOkR, gX6_2, h1', tk, pp, put_Q, forall_eq, qOk, List.length_nil, List.length_cons, ll0, ll1, ll2, ll3, ll4, Nat.le_refl, and_true, one0, eq_self, or_true, true_or, not_true_eq_false, not_false_eq_true, true_imp_iff, false_imp_iff, true_and, and_true, Classical.not_not]
  intro lg' H' s' hP' hn'
  have hlg := SeS_lg h2 hP'.1.2.1
  subst hlg
  obtain ⟨h0', hl', hd', hC', hL', hN', iv'⟩ := id hP'
  obtain ⟨e9, -, qn', ql', qu'⟩ := q1 _ s' (seP s' H' hP') hn'
  obtain ⟨n', hn1, h9'⟩ := hn'
  have en : nOf s' = n' := by unfold nOf; rw [h9', nI_clamp (by omega)]
  obtain ⟨-, -, -, -, f', hf', hf1', -⟩ := id iv'.2.1
  obtain ⟨r1, r2, r3, r4⟩ := hC'
  obtain ⟨b, hb, hb1, -⟩ := iv'.2.2.1
  have hsf : sendF s' = joinF 10 (nI (nOf s')) (sndS s') := rfl
  obtain ⟨q1', q2', q3'⟩ := ref_ok h9' (show n' ≤ 500 by omega)
  have hr' : formF s' = 0 ∨ (refF s').toNatClampNeg < n' := by
    rcases q3' with h | ⟨-, h⟩
    · exact Or.inl h
    · obtain ⟨r, hr, -, h⟩ := q2'.resolve_left h
      right
      rw [h, nIc (by omega)]
      exact hr
  obtain ⟨-, -, -, -, -, -, a7, a8, a9, a10, a11⟩ := send_at (size := sizeF s' (formF s') (refF s')) h9' hr'
  have es : sndS s' = sendG s' n' (refF s') (formF s') (sizeF s' (formF s') (refF s')) := by unfold sndS; rw [q1']
  rw [← es] at a7 a8 a9 a10 a11
  have h10 : sndS s' 10 = nI f' := by rw [a11 10 (by decide) (by decide) (by decide) (by decide) (by omega), hf1']
  have jo : ∀ j, j < 10 ∨ 30 < j → sendF s' j = sndS s' j := fun j hj => by
    rw [hsf]
    exact join_o hf' h10 (by omega)
  have hnn : nOf (sendF s') = nOf (sndS s') := by unfold nOf; rw [jo 9 (by omega)]
  have e9' : s 9 = nI (nOf s') := by rw [e9, en, h9']
  refine ⟨e9, Sm_putK2 qS, ⟨?_, ?_, ?_, ?_⟩, ?_, ?_, ?_⟩
  · exact SnR_congr (fun j hj => jo j (by omega)) (fun p hp => jo _ (by omega)) (SnR_mem (fun b b1 b2 => putK2_o (by omega) (by omega)) qn')
  · refine RcR_congr (fun j j1 j2 j3 j4 => ?_) (RcR_mem (fun b b1 b2 => ?_) r2)
    · rw [jo j (by omega), a11 j (by omega) (by omega) (by omega) (by omega) (by omega)]
    · rw [putK2_o (by omega) (by omega), qu'.1 b (by omega) (by omega)]
  · rw [hsf, e9']
    refine LkR_put h10 hf' ?_
    exact LkR_congr hf1' hf' (fun j j1 j2 => a11 j (by omega) (by omega) (by omega) (by omega) (by omega)) (LkR_mem m1 m2 r3)
  · refine LkR_congr hb1 hb (fun j j1 j2 => ?_) (LkR_mem ?_ ?_ r4)
    · rw [jo j (by omega), a11 j (by omega) (by omega) (by omega) (by omega) (by omega)]
    · rw [putK2_o (by omega) (by omega), qu'.1 _ (by omega) (by omega)]
    · rw [putK2_o (by omega) (by omega), qu'.1 _ (by omega) (by omega)]
  · intro p hp
    rw [hnn] at hp
    have hl := ql' p hp
    have hp500 : p < 501 := by
      unfold nOf at hp
      rw [a10, nI_clamp (by omega)] at hp
      omega
    unfold LgR1 at hl ⊢
    rw [putK2_o (by omega) (by omega), putK2_o (by omega) (by omega), putK2_o (by omega) (by omega), putK2_o (by omega) (by omega), putK2_o (by omega) (by omega)]
    have hrow : ∀ q, rowF (sendF s') q = rowF (sndS s') q := fun q => funext fun j => jo _ (Or.inr (by omega))
    have hcar : ∀ j, carF (sendF s') p j = carF (sndS s') p j := fun j => by
      unfold carF
      rw [jo (514 + 10 * p + 7) (by omega), jo (514 + 10 * p + 8) (by omega), hrow, hrow]
    rw [jo _ (by omega), jo _ (by omega), jo _ (by omega)]
    refine ⟨fun j hj => by rw [jo _ (by omega)]; exact hl.1 j hj, hl.2.1, hl.2.2.1, hl.2.2.2.1, fun z j hj => by rw [hcar]; exact hl.2.2.2.2 z j hj⟩
  · intro b b1 b2
    rw [putK2_o (by omega) (by omega)]
    exact qu'.1 b (by omega) b2
  · intro p hp
    have := qu'.2 p hp
    rw [en] at hp
    rw [putK2_o (by omega) (by omega), putK2_o (by omega) (by omega), putK2_o (by omega) (by omega), putK2_o (by omega) (by omega), putK2_o (by omega) (by omega)]
    exact this
theorem rec_9 {H : Nat} {s g : Nat → Int32} {p j : Nat} (iv : Iv H s) (h : j < 31 ∨ (52 ≤ j ∧ j ≤ 54) ∨ 514 ≤ j) : recS s g p j = s j := rec_o iv.2.2.1 h
theorem fail_f {H : Nat} {s : Nat → Int32} {j : Nat} (iv : IvB H s) (h : j = 63 ∨ j = 64) : failF s j = s j := by
  obtain ⟨b, hb, hb1, -⟩ := iv
  unfold failF
  try simp only []
  split
  · rw [upd_n (by omega), upd_n (by omega)]
  · rw [join_o (n := b) hb (by rw [upd_n (by decide), upd_n (by decide), upd_n (by decide), upd_n (by decide), hb1]) (Or.inr (by omega)), upd_n (by omega), upd_n (by omega), upd_n (by omega), upd_n (by omega)]
theorem tell_f {H : Nat} {s : Nat → Int32} {x out : Int32} {j : Nat} (iv : IvB H s) (h : j = 63 ∨ j = 64) : tellF s x out j = s j := by
  obtain ⟨b, hb, hb1, -⟩ := iv
  have key : ∀ t : Nat → Int32, t 31 = s 31 → t j = s j → (if upd t 56 0 57 - upd t 56 0 57 / upd t 56 0 53 * upd t 56 0 53 = 0 then joinF 31 x (upd t 56 0) else upd t 56 0) j = s j := fun t t1 t2 => by
    split
    · rw [join_o (n := b) hb (by rw [upd_n (by decide), t1, hb1]) (Or.inr (by omega)), upd_n (by omega), t2]
    · rw [upd_n (by omega), t2]
  unfold tellF
  try simp only []
  apply key
  · split <;> rw [upd_n (by decide), upd_n (by decide)]
  · split <;> rw [upd_n (by omega), upd_n (by omega)]
theorem rec_f {H : Nat} {s g : Nat → Int32} {p j : Nat} (iv : IvB H s) (h : j = 63 ∨ j = 64) : recS s g p j = s j := by
  have iv' : IvB H (lateF s p) := IvB_congr (fun j hj => late_at (by omega)) iv
  have e : lateF s p j = s j := late_at (by omega)
  show recS1 (lateF s p) g p j = s j
  rw [← e]
  generalize lateF s p = t at iv'
  unfold recS1
  split
  · rw [upd_n (by omega)]
  · split
    · exact fail_f iv' h
    · rw [tell_f (IvB_congr (fun j hj => keep_o2 (by omega)) iv') h, keep_o2 (by omega)]
/-- what a packet's coming asks -/
theorem St_del {μ : qMM} {lg o H i : Nat} {s : Nat → Int32} (hP : StP μ lg o H s) (hH : H + 15 < 2 ^ 30) (hi : i < (s 10).toNatClampNeg) : ∃ f p : Nat, f ≤ 20 ∧ s 10 = nI f ∧ i < f ∧ p < nOf s ∧ s (11 + i) = nI p ∧ p < 500 ∧ ReP (takC μ (o + 1) i) lg (o + 10) (o + 3) (takeF s 10 i) p := by
  obtain ⟨h0, hl, hd, hC, hL, hN, iv⟩ := hP
  obtain ⟨h1, h2, h3, h4, h5⟩ := id h0
  obtain ⟨n, hn, hn9, hpk, f, hf, hf1, hfp⟩ := id iv.2.1
  have en : nOf s = n := by unfold nOf; rw [hn9, nI_clamp (by omega)]
  rw [hf1, nI_clamp (by omega)] at hi
  obtain ⟨p, hp, hp1⟩ := hfp i hi
  have to : ∀ j, j < 10 ∨ 30 < j → takeF s 10 i j = s j := fun j hj => take_o (by rw [hf1, nI_clamp (by omega)]; omega)
  have et : nOf (takeF s 10 i) = nOf s := by unfold nOf; rw [to 9 (by omega)]
  obtain ⟨b, hb, hb1, -⟩ := iv.2.2.1
  refine ⟨f, p, hf, hf1, hi, by rw [en]; exact hp, hp1, by omega, h3, hl, by omega, by omega, ?_, ?_, h5, ?_, hN, ⟨H, hH, Iv_take10 hf1 hf hi iv⟩, by rw [et, en]; exact hp⟩
  · exact RcR_congr (fun j j1 j2 j3 j4 => to j (by omega)) (RcR_mem (fun b b1 b2 => takC_o (by omega) (by omega)) hC.2.1)
  · exact LgR_keep iv.2.1 (to 9 (by omega)) (fun p hp j hj => to _ (by omega)) (fun p hp => by rw [takC_o (by omega) (by omega), takC_o (by omega) (by omega), takC_o (by omega) (by omega), takC_o (by omega) (by omega), takC_o (by omega) (by omega)]; exact ⟨rfl, rfl, rfl, rfl, rfl⟩) hL
  · exact LkR_congr hb1 hb (fun j j1 j2 => to j (by omega)) (LkR_mem (takC_o (by omega) (by omega)) (takC_o (by omega) (by omega)) hC.2.2.2)
theorem xX6_deliverPacket (o : Nat) (x1 : Int32) (μ : qMM) (ht : ∃ t, mS μ o = some (.inl (5, t))) (hp : PX6_deliverPacket o x1 μ) : EX (SX6_deliverPacket (rti 0 0 (QX6_deliverPacket o x1 μ)) (fun _ _ _ => False)) 0 [some (.ref o), some (.int x1)] [] [] μ (0, 0) := by
  obtain ⟨lg, H, s, i, hP, hH, rfl, hi⟩ := hp
  obtain ⟨f, p, hf, hf1, hif, hp, hp1, hp5, hRe⟩ := St_del hP hH hi
  obtain ⟨h0, hl, hd, hC, hL, hN, iv⟩ := id hP
  obtain ⟨h1, h2, h3, h4, h5⟩ := id h0
  have ht2 := tX2 lg h3.1
  have tk := tX0 h4.1
  have pt : PX0_takeOut (o + 1) (nI i) μ := take_P h4 hN hf1 hf hif hC.2.2.1
  have ei : (nI i).toNatClampNeg = i := nI_clamp (by omega)
  have ev : mI μ (o + 1 + 1) i = nI p := by rw [hC.2.2.1.2 i hi, show 10 + 1 + i = 11 + i by omega, hp1]
  have h1' : obX6 (takC μ (o + 1) i) o := h1
  have ht2' : ∃ t, mS (takC μ (o + 1) i) (o + 10) = some (Sum.inl (2, t)) := ht2
  have pr : PX2_receive (o + 10) (nI p) (o + 3) (takC μ (o + 1) i) := ⟨lg, _, p, rfl, hRe⟩
  simp only [eX6_deliverPacket_0, eX6_deliverPacket_1, eX6_deliverPacket_4, eX6_deliverPacket_5, eX6_deliverPacket_8, eX6_deliverPacket_9, eX6_deliverPacket_12, eX6_deliverPacket_13, eX6_deliverPacket_16, eX6_deliverPacket_19, rtv_at, rti_at, rtj_at, rtd_at, rta_at, qOk, qOkR, gX6_1, gX6_2, gX6_3, h1, tk, pt, takeOut_Q ei, ev, qa2, h1', ht2', pr, qOk, List.length_nil, List.length_cons, ll0, ll1, ll2, ll3, ll4, Nat.le_refl, and_true, one0, eq_self, or_true, true_or, not_true_eq_false, not_false_eq_true, true_imp_iff, false_imp_iff, true_and, and_true, Classical.not_not]
  intro r μ' q lg' H' s' i' g hP' hH' ei' hi'
  have hlg := SeS_lg h2 hP'.1.2.1
  subst hlg
  obtain ⟨f', p', hf', hf1', hif', hp', hp1', hp5', hRe'⟩ := St_del hP' hH' hi'
  have : i' = i := (nI_eq (by omega) (by omega)).mp ei'.symm
  subst this
  obtain ⟨h0', hl', hd', hC', hL', hN', iv'⟩ := id hP'
  have hpp : p' = p := by
    have e1 := hC'.2.2.1.2 i' hi'
    rw [ev, show 10 + 1 + i' = 11 + i' by omega, hp1'] at e1
    exact ((nI_eq (by omega) (by omega)).mp e1).symm
  subst hpp
  obtain ⟨q1, q2, q3, q4, q5⟩ := q _ _ _ g rfl hRe'
  rw [hp1', nI_clamp (by omega)]
  have ivt : Iv H' (takeF s' 10 i') := Iv_take10 hf1' hf' hif' iv'
  have to : ∀ j, j < 10 ∨ 30 < j → takeF s' 10 i' j = s' j := fun j hj => take_o (by rw [hf1', nI_clamp (by omega)]; omega)
  have hb : ∀ b, b ≠ o + 1 → b ≠ o + 1 + 1 → b ≠ o + 3 → b ≠ o + 3 + 1 → ¬ (o + 10 ≤ b ∧ b < o + 80) → mI μ' b = mI μ b := fun b b1 b2 b3 b4 b5 => by rw [q5 b b3 b4 (by omega), takC_o b1 b2]
  refine ⟨q1, StQ_of hP' (Sm_trans Sm_takC q2) (fun b b1 => hb b (by omega) (by omega) (by omega) (by omega) (by omega)) ⟨?_, q3, ?_, q4⟩ ?_ (fun p hp j hj => ?_)⟩
  · refine SnR_congr (fun j hj => ?_) (fun p hp => ?_) (SnR_mem (fun b b1 b2 => hb b (by omega) (by omega) (by omega) (by omega) (by omega)) hC'.1)
    · rcases hj with hj | hj | hj
      · rw [rec_9 ivt (by omega), to j (by omega)]
      · rw [rec_f ivt.2.2.1 (Or.inl hj), to j (by omega)]
      · rw [rec_f ivt.2.2.1 (Or.inr hj), to j (by omega)]
    · rw [rec_9 ivt (by omega), to _ (by omega)]
  · have := LkR_take hf1' hf' hif' hC'.2.2.1
    obtain ⟨e1, -⟩ := take_in hf' hf1' hif'
    refine LkR_congr e1 (by omega) (fun j j1 j2 => rec_9 ivt (by omega)) (LkR_mem (q5 _ (by omega) (by omega) (by omega)) (q5 _ (by omega) (by omega) (by omega)) this)
  · rw [rec_9 ivt (by omega), to 9 (by omega)]
  · rw [rec_9 ivt (by omega), to _ (by omega)]
theorem xX6_deliverMessage (o : Nat) (x1 : Int32) (μ : qMM) (ht : ∃ t, mS μ o = some (.inl (5, t))) (hp : PX6_deliverMessage o x1 μ) : EX (SX6_deliverMessage (rti 0 0 (QX6_deliverMessage o x1 μ)) (fun _ _ _ => False)) 0 [some (.ref o), some (.int x1), none] [] [] μ (0, 0) := by
  obtain ⟨lg, H, s, i, hP, hH, rfl, hi⟩ := hp
  obtain ⟨h0, hl, hd, hC, hL, hN, iv⟩ := id hP
  obtain ⟨h1, h2, h3, h4, h5⟩ := id h0
  have ht5 := tX5 lg h2.1
  have tk := tX0 h5.1
  obtain ⟨b, hb, hb1, hbv⟩ := id iv.2.2.1
  have hi2 := hi
  rw [hb1, nI_clamp (by omega)] at hi2
  have pt : PX0_takeOut (o + 3) (nI i) μ := take_P h5 hN hb1 hb hi2 hC.2.2.2
  have ei : (nI i).toNatClampNeg = i := nI_clamp (by omega)
  have ev : mI μ (o + 3 + 1) i = s (32 + i) := by rw [hC.2.2.2.2 i hi, show 31 + 1 + i = 32 + i by omega]
  have h1' : obX6 (takC μ (o + 3) i) o := h1
  have ht5' : ∃ t, mS (takC μ (o + 3) i) (o + 5) = some (Sum.inl (4, t)) := ht5
  have e5 : mI (takC μ (o + 3) i) (o + 5) = mI μ (o + 5) := takC_o (by omega) (by omega)
  have e6 : mI (takC μ (o + 3) i) (o + 5 + 2) = mI μ (o + 5 + 2) := takC_o (by omega) (by omega)
  obtain ⟨n, hn, hn9, hpk, -⟩ := id iv.2.1
  have hv : s (32 + i) = -1 ∨ ∃ x : Nat, x < 2 ^ 31 ∧ s (32 + i) = nI x := (hbv i hi2).imp id (fun ⟨x, hx, e⟩ => ⟨x, by omega, e⟩)
  have ph : PX5_hear (o + 5) (s (32 + i)) (takC μ (o + 3) i) := ⟨⟨lg, h2⟩, ⟨n, hn, by rw [e5, hC.1.2.2.2.2.1, hn9]⟩, hv⟩
  simp only [eX6_deliverMessage_0, eX6_deliverMessage_1, eX6_deliverMessage_4, eX6_deliverMessage_5, eX6_deliverMessage_8, eX6_deliverMessage_9, eX6_deliverMessage_10, eX6_deliverMessage_13, eX6_deliverMessage_14, eX6_deliverMessage_17, eX6_deliverMessage_18, rtv_at, rti_at, rtj_at, rtd_at, rta_at, qOk, qOkR, gX6_0, gX6_3, h1, tk, pt, takeOut_Q ei, ev, qa2, h1', ht5', ph, QX5_hear, forall_eq, e5, e6, qOk, List.length_nil, List.length_cons, ll0, ll1, ll2, ll3, ll4, Nat.le_refl, and_true, one0, eq_self, or_true, true_or, not_true_eq_false, not_false_eq_true, true_imp_iff, false_imp_iff, true_and, and_true, Classical.not_not]
  intro lg' H' s' i' hP' hH' ei' hi'
  have hlg := SeS_lg h2 hP'.1.2.1
  subst hlg
  obtain ⟨h0', hl', hd', hC', hL', hN', iv'⟩ := id hP'
  obtain ⟨b', hb', hb1', hbv'⟩ := id iv'.2.2.1
  have hi2' := hi'
  rw [hb1', nI_clamp (by omega)] at hi2'
  have : i' = i := (nI_eq (by omega) (by omega)).mp ei'.symm
  subst this
  have es : s' (32 + i') = s (32 + i') := by
    have e1 := hC'.2.2.2.2 i' hi'
    rw [ev, show 31 + 1 + i' = 32 + i' by omega] at e1
    exact e1.symm
  obtain ⟨n', hn', hn9', hpk', f', hf', hf1', -⟩ := id iv'.2.1
  have en' : nOf s' = n' := by unfold nOf; rw [hn9', nI_clamp (by omega)]
  have to : ∀ j, j < 31 ∨ 51 < j → takeF s' 31 i' j = s' j := fun j hj => take_o (by rw [hb1', nI_clamp (by omega)]; omega)
  have hT := LkR_take hb1' hb' hi2' hC'.2.2.2
  rw [es]
  have hv' := hv
  generalize s (32 + i') = v at *
  have e9 : mI μ (o + 5) 5 = s' 9 := hC'.1.2.2.2.2.1
  have h0T : CsR (takC μ (o + 3) i') o (takeF s' 31 i') := CsR_bck iv' (fun b b1 b2 b3 b4 => takC_o b3 (by omega)) (fun j hj => to j (by omega)) hT hC'
  refine ⟨rfl, ?_⟩
  unfold hearF
  by_cases g1 : v = -1
  · rw [if_pos g1, if_pos g1]
    refine StQ_of hP' (Sm_wR Sm_takC) (fun b b1 => by rw [mI_wR_n (by omega), takC_o (by omega) (by omega)]) ?_ (by rw [upd_n (by decide), to 9 (by omega)]) (fun p hp j hj => by rw [upd_n (by omega), to _ (by omega)])
    obtain ⟨⟨c1, c2, c3, c4, c5, c6, c7, c8⟩, r2, r3, r4⟩ := h0T
    refine ⟨?_, ?_, ?_, ?_⟩
    · unfold SnR
      rw [mI_wR_n (show o + 5 + 1 ≠ o + 5 by omega), mI_wR_s, mI_wR_n (show o + 5 + 2 ≠ o + 5 by omega)]
      rw [e5] at c2 c3 c4 c5 c6 c7
      refine ⟨fun j hj => ?_, ?_, ?_, ?_, ?_, ?_, ?_, fun p hp => ?_⟩
      · rw [upd_n (by omega)]; exact c1 j hj
      · rw [upd_n (by decide), upd_n (by decide)]; exact c2
      · rw [upd_n (by decide), upd_n (by decide)]; exact c3
      · rw [upd_s, upd_s]
      · rw [upd_n (by decide), upd_n (by decide)]; exact c5
      · rw [upd_n (by decide), upd_n (by decide)]; exact c6
      · rw [upd_n (by decide), upd_n (by decide)]; exact c7
      · rw [upd_n (by omega)]
        refine c8 p ?_
        unfold nOf at hp ⊢
        rw [upd_n (by decide)] at hp
        exact hp
    · exact RcR_congr (fun j j1 j2 j3 j4 => upd_n (by omega)) (RcR_mem (fun b b1 b2 => mI_wR_n (by omega)) r2)
    · exact LkR_congr (n := f') (by rw [to 10 (by omega), hf1']) hf' (fun j j1 j2 => upd_n (by omega)) (LkR_mem (mI_wR_n (by omega)) (mI_wR_n (by omega)) r3)
    · obtain ⟨e1, -⟩ := take_in hb' hb1' hi2'
      exact LkR_congr e1 (by omega) (fun j j1 j2 => upd_n (by omega)) (LkR_mem (mI_wR_n (by omega)) (mI_wR_n (by omega)) r4)
  · rw [if_neg g1, if_neg g1]
    have e9t : takeF s' 31 i' 9 = s' 9 := to 9 (by omega)
    rw [e9, e9t]
    by_cases g2 : v < s' 9
    · rw [if_pos g2, if_pos g2]
      obtain ⟨x, hx, rfl⟩ := hv.resolve_left g1
      have hxn : x < n' := by
        rw [hn9'] at g2
        exact (nI_ltI (by omega) (by omega)).mp g2
      rw [nI_clamp hx]
      refine StQ_of hP' (Sm_wR Sm_takC) (fun b b1 => by rw [mI_wR_n (by omega), takC_o (by omega) (by omega)]) ?_ (by rw [upd_n (by omega), to 9 (by omega)]) (fun p hp j hj => by rw [upd_n (by omega), to _ (by omega)])
      obtain ⟨⟨c1, c2, c3, c4, c5, c6, c7, c8⟩, r2, r3, r4⟩ := h0T
      refine ⟨?_, ?_, ?_, ?_⟩
      · unfold SnR
        rw [mI_wR_n (show o + 5 + 1 ≠ o + 5 + 2 by omega), mI_wR_n (show o + 5 ≠ o + 5 + 2 by omega), mI_wR_s]
        refine ⟨fun j hj => ?_, ?_, ?_, ?_, ?_, ?_, ?_, fun p hp => ?_⟩
        · rw [upd_n (by omega)]; exact c1 j hj
        · rw [upd_n (by omega)]; exact c2
        · rw [upd_n (by omega)]; exact c3
        · rw [upd_n (by omega)]; exact c4
        · rw [upd_n (by omega)]; exact c5
        · rw [upd_n (by omega)]; exact c6
        · rw [upd_n (by omega)]; exact c7
        · by_cases q : p = x
          · subst q
            rw [upd_s, upd_s]
          · rw [upd_n q, upd_n (by omega), ← e6]
            refine c8 p ?_
            unfold nOf at hp ⊢
            rw [upd_n (by omega)] at hp
            exact hp
      · exact RcR_congr (fun j j1 j2 j3 j4 => upd_n (by omega)) (RcR_mem (fun b b1 b2 => mI_wR_n (by omega)) r2)
      · exact LkR_congr (n := f') (by rw [to 10 (by omega), hf1']) hf' (fun j j1 j2 => upd_n (by omega)) (LkR_mem (mI_wR_n (by omega)) (mI_wR_n (by omega)) r3)
      · obtain ⟨e1, -⟩ := take_in hb' hb1' hi2'
        exact LkR_congr e1 (by omega) (fun j j1 j2 => upd_n (by omega)) (LkR_mem (mI_wR_n (by omega)) (mI_wR_n (by omega)) r4)
    · rw [if_neg g2, if_neg g2]
      exact StQ_of hP' Sm_takC (fun b b1 => takC_o (by omega) (by omega)) h0T e9t (fun p hp j hj => to _ (by omega))
theorem has_in {μ : qMM} {k a n : Nat} {s : Nat → Int32} (r : LkR μ k s a) (x : Int32) : (0 ≤ x ∧ x ≤ mI μ k 1 - 1) ↔ inL s a x := by
  unfold inL
  rw [r.1]
theorem xX6_copyFrom (o : Nat) (x1 : Nat) (μ : qMM) (ht : ∃ t, mS μ o = some (.inl (5, t))) (hp : PX6_copyFrom o x1 μ) : EX (SX6_copyFrom (rtv 0 0 (QX6_copyFrom o x1 μ)) (fun _ _ _ => False)) 0 [some (.ref o), some (.ref x1)] [] [] μ (0, 0) := by
  obtain ⟨⟨lg, a0, b0⟩, hN, hd, H, s, hC, iv⟩ := hp
  obtain ⟨a1, a2, a3, a4, a5⟩ := id a0
  obtain ⟨b1, b2, b3, b4, b5⟩ := id b0
  obtain ⟨n, hn, hn9, hpk, f, hf, hf1, -⟩ := id iv.2.1
  obtain ⟨b, hb, hb1, -⟩ := id iv.2.2.1
  have t5 := tX5 lg a2.1
  have p5 : PX5_copyFrom (o + 5) (x1 + 5) μ := ⟨⟨lg, a2, b2⟩, ⟨n, hn, by rw [hC.1.2.2.2.2.1, hn9]⟩, by rw [hC.1.2.2.2.1]; exact iv.2.2.2.2.2.2.2.1, hN, by omega⟩
  simp only [eX6_copyFrom_0, eX6_copyFrom_1, eX6_copyFrom_4, eX6_copyFrom_5, eX6_copyFrom_8, gX6_0, a1, b1, t5, p5, List.length_nil, List.length_cons, ll0, ll1, ll2, ll3, ll4, Nat.le_refl, and_true, one0, eq_self, or_true, true_or, not_true_eq_false, not_false_eq_true, true_imp_iff, false_imp_iff, true_and, and_true, Classical.not_not]
  intro μ1 e1
  unfold QX5_copyFrom at e1
  have S1 : Sm μ μ1 := by rw [e1]; exact Sm_wR (Sm_wR (Sm_wR Sm_refl))
  have f1 : mI μ1 (o + 5) = cpS (mI μ (x1 + 5)) (mI μ (o + 5)) := by rw [e1, mI_wR_n (by omega), mI_wR_s]
  have f2 : mI μ1 (o + 5 + 1) = va_cpy (mI μ (x1 + 5 + 1)) (mI μ (o + 5 + 1)) 0 0 6 := by rw [e1, mI_wR_n (by omega), mI_wR_n (by omega), mI_wR_s]
  have f3 : mI μ1 (o + 5 + 2) = va_cpy (mI μ (x1 + 5 + 2)) (mI μ (o + 5 + 2)) 0 0 (mI μ (x1 + 5) 5).toNatClampNeg := by rw [e1, mI_wR_s]
  have f4 : ∀ b, ¬ (o + 5 ≤ b ∧ b < o + 8) → mI μ1 b = mI μ b := fun b hb => by rw [e1, mI_wR_n (by omega), mI_wR_n (by omega), mI_wR_n (by omega)]
  clear e1
  have a0' := StS_Sm S1 a0
  have b0' := StS_Sm S1 b0
  have t2 := tX2 lg a0'.2.2.1.1
  have p2 : PX2_copyFrom (o + 10) (x1 + 10) μ1 := ⟨⟨lg, a0'.2.2.1, b0'.2.2.1⟩, by rw [Sm_mN S1]; exact hN, by omega⟩
  simp only [eX6_copyFrom_11, eX6_copyFrom_12, eX6_copyFrom_15, eX6_copyFrom_16, eX6_copyFrom_19, gX6_1, a0'.1, b0'.1, t2, p2, List.length_nil, List.length_cons, ll0, ll1, ll2, ll3, ll4, Nat.le_refl, and_true, one0, eq_self, or_true, true_or, not_true_eq_false, not_false_eq_true, true_imp_iff, false_imp_iff, true_and, and_true, Classical.not_not]
  intro μ2 q
  obtain ⟨S2, r1, r2, r3, r4, r5⟩ := q
  have S12 := Sm_trans S1 S2
  have a0'' := StS_Sm S12 a0
  have b0'' := StS_Sm S12 b0
  have hxx : ∀ b, x1 ≤ b → b < x1 + 80 → mI μ2 b = mI μ b := fun b h1 h2 => by rw [r5 b (by omega), f4 b (by omega)]
  have t0 := tX0 a0''.2.2.2.1.1
  have pf : PX0_copyFrom (o + 1) (x1 + 1) μ2 := ⟨a0''.2.2.2.1, b0''.2.2.2.1, ⟨f, hf, by rw [hxx _ (by omega) (by omega), hC.2.2.1.1, hf1]⟩, by rw [Sm_mN S12]; exact hN, by omega, by omega, by omega⟩
  simp only [eX6_copyFrom_22, eX6_copyFrom_23, eX6_copyFrom_26, eX6_copyFrom_27, eX6_copyFrom_30, gX6_2, a0''.1, b0''.1, t0, pf, List.length_nil, List.length_cons, ll0, ll1, ll2, ll3, ll4, Nat.le_refl, and_true, one0, eq_self, or_true, true_or, not_true_eq_false, not_false_eq_true, true_imp_iff, false_imp_iff, true_and, and_true, Classical.not_not]
  intro μ3 e3
  unfold QX0_copyFrom at e3
  have S3 : Sm μ μ3 := by rw [e3]; exact Sm_wR (Sm_wR S12)
  have g1 : mI μ3 (o + 1) = upd (mI μ2 (o + 1)) 1 (mI μ2 (x1 + 1) 1) := by rw [e3, mI_wR_n (by omega), mI_wR_s]
  have g2 : mI μ3 (o + 1 + 1) = va_cpy (mI μ2 (x1 + 1 + 1)) (mI μ2 (o + 1 + 1)) 0 0 (mI μ2 (x1 + 1) 1).toNatClampNeg := by rw [e3, mI_wR_s]
  have g3 : ∀ b, b ≠ o + 1 → b ≠ o + 1 + 1 → mI μ3 b = mI μ2 b := fun b h1 h2 => by rw [e3, mI_wR_n h2, mI_wR_n h1]
  clear e3
  have a03 := StS_Sm S3 a0
  have b03 := StS_Sm S3 b0
  have t03 := tX0 a03.2.2.2.2.1
  have pb : PX0_copyFrom (o + 3) (x1 + 3) μ3 := ⟨a03.2.2.2.2, b03.2.2.2.2, ⟨b, hb, by rw [g3 _ (by omega) (by omega), hxx _ (by omega) (by omega), hC.2.2.2.1, hb1]⟩, by rw [Sm_mN S3]; exact hN, by omega, by omega, by omega⟩
  simp only [eX6_copyFrom_33, eX6_copyFrom_34, eX6_copyFrom_37, eX6_copyFrom_38, eX6_copyFrom_41, eX6_copyFrom_44, rtv_at, rti_at, rtj_at, rtd_at, rta_at, qOk, qOkR, gX6_3, a03.1, b03.1, t03, pb, List.length_nil, List.length_cons, ll0, ll1, ll2, ll3, ll4, Nat.le_refl, and_true, one0, eq_self, or_true, true_or, not_true_eq_false, not_false_eq_true, true_imp_iff, false_imp_iff, true_and, and_true, Classical.not_not]
  intro μ4 e4
  unfold QX0_copyFrom at e4
  have S4 : Sm μ μ4 := by rw [e4]; exact Sm_wR (Sm_wR S3)
  have k1 : mI μ4 (o + 3) = upd (mI μ3 (o + 3)) 1 (mI μ3 (x1 + 3) 1) := by rw [e4, mI_wR_n (by omega), mI_wR_s]
  have k2 : mI μ4 (o + 3 + 1) = va_cpy (mI μ3 (x1 + 3 + 1)) (mI μ3 (o + 3 + 1)) 0 0 (mI μ3 (x1 + 3) 1).toNatClampNeg := by rw [e4, mI_wR_s]
  have k3 : ∀ b, b ≠ o + 3 → b ≠ o + 3 + 1 → mI μ4 b = mI μ3 b := fun b h1 h2 => by rw [e4, mI_wR_n h2, mI_wR_n h1]
  clear e4
  have h3 : ∀ b, x1 ≤ b → b < x1 + 80 → mI μ3 b = mI μ b := fun b h1 h2 => by rw [g3 b (by omega) (by omega), hxx b h1 h2]
  have v1 : ∀ b, o + 10 ≤ b → b < o + 80 → mI μ4 b = mI μ2 b := fun b z1 z2 => by rw [k3 b (by omega) (by omega), g3 b (by omega) (by omega)]
  have v2 : ∀ b, o + 5 ≤ b → b < o + 10 → mI μ4 b = mI μ1 b := fun b z1 z2 => by rw [k3 b (by omega) (by omega), g3 b (by omega) (by omega), r5 b (by omega)]
  have m1 : ∀ b, o + 10 ≤ b → b < o + 80 → mI μ1 b = mI μ b := fun b z1 z2 => f4 b (by omega)
  refine ⟨S4, fun s' H' hC' iv' => ⟨?_, ?_, ?_, ?_⟩, fun b hb => ?_⟩
  · obtain ⟨n', hn', hn9', -⟩ := iv'.2.1
    exact SnR_copy (x := x1 + 5) hn9' hn' (by rw [v2 _ (by omega) (by omega), f1]) (by rw [v2 _ (by omega) (by omega), f2]) (by rw [v2 _ (by omega) (by omega), f3]) hC'.1
  · refine RcR_copy (x := x1 + 10) (μ := μ) ?_ ?_ ?_ (fun i hi => ?_) hC'.2.1
    · rw [v1 _ (by omega) (by omega), r1, f4 _ (by omega), f4 _ (by omega)]
    · rw [v1 _ (by omega) (by omega), r2, f4 _ (by omega), f4 _ (by omega)]
    · rw [v1 _ (by omega) (by omega), r3, f4 _ (by omega), f4 _ (by omega)]
    · rw [v1 _ (by omega) (by omega), r4 i hi, f4 _ (by omega), f4 _ (by omega)]
  · refine LkR_copy (x := x1 + 1) (μ := μ) ?_ ?_ hC'.2.2.1
    · rw [k3 _ (by omega) (by omega), g1, hxx (x1 + 1) (by omega) (by omega), r5 _ (by omega), f4 _ (by omega)]
    · rw [k3 _ (by omega) (by omega), g2, hxx (x1 + 1) (by omega) (by omega), hxx (x1 + 1 + 1) (by omega) (by omega), r5 _ (by omega), f4 _ (by omega)]
  · refine LkR_copy (x := x1 + 3) (μ := μ) ?_ ?_ hC'.2.2.2
    · rw [k1, h3 (x1 + 3) (by omega) (by omega), g3 _ (by omega) (by omega), r5 _ (by omega), f4 _ (by omega)]
    · rw [k2, h3 (x1 + 3) (by omega) (by omega), h3 (x1 + 3 + 1) (by omega) (by omega), g3 _ (by omega) (by omega), r5 _ (by omega), f4 _ (by omega)]
  · rw [k3 b (by omega) (by omega), g3 b (by omega) (by omega), r5 b (by omega), f4 b (by omega)]
/-! changes of a State by one step -/
theorem inL_ok {s : Nat → Int32} {a n : Nat} {x : Int32} (hn : s a = nI n) (hn2 : n ≤ 20) (h : inL s a x) : ∃ i : Nat, i < n ∧ x = nI i := by
  unfold inL at h
  rw [hn] at h
  rcases Nat.eq_zero_or_pos n with z | z
  · subst z
    have := Int32.le_trans h.1 h.2
    exact absurd this (by decide)
  · have e : nI n - 1 = nI (n - 1) := pk_sub (a := n) (b := 1) (by omega)
    rw [e] at h
    obtain ⟨j, hj, rfl⟩ := inR_idx (by omega) h
    exact ⟨j, by omega, rfl⟩
theorem StQ_take10 {μ : qMM} {lg o H i n : Nat} {s : Nat → Int32} (hP : StP μ lg o H s) (hn : s 10 = nI n) (hn2 : n ≤ 20) (hi : i < n) : StQ μ (takC μ (o + 1) i) lg o s (takeF s 10 i) := by
  have to : ∀ j, j < 10 ∨ 30 < j → takeF s 10 i j = s j := fun j hj => take_o (by rw [hn, nI_clamp (by omega)]; omega)
  refine StQ_of hP Sm_takC (fun b b1 => takC_o (by omega) (by omega)) ?_ (to 9 (by omega)) (fun p hp j hj => to _ (by omega))
  exact CsR_fwd hP.2.2.2.2.2.2 (fun b b1 b2 => takC_o (by omega) (by omega)) (fun j hj => to j (by omega)) (LkR_take hn hn2 hi hP.2.2.2.1.2.2.1) hP.2.2.2.1
theorem StQ_take31 {μ : qMM} {lg o H i n : Nat} {s : Nat → Int32} (hP : StP μ lg o H s) (hn : s 31 = nI n) (hn2 : n ≤ 20) (hi : i < n) : StQ μ (takC μ (o + 3) i) lg o s (takeF s 31 i) := by
  have to : ∀ j, j < 31 ∨ 51 < j → takeF s 31 i j = s j := fun j hj => take_o (by rw [hn, nI_clamp (by omega)]; omega)
  refine StQ_of hP Sm_takC (fun b b1 => takC_o (by omega) (by omega)) ?_ (to 9 (by omega)) (fun p hp j hj => to _ (by omega))
  exact CsR_bck hP.2.2.2.2.2.2 (fun b b1 b2 b3 b4 => takC_o (by omega) (by omega)) (fun j hj => to j (by omega)) (LkR_take hn hn2 hi hP.2.2.2.1.2.2.2) hP.2.2.2.1
theorem StQ_join10 {μ : qMM} {lg o H n : Nat} {v : Int32} {s : Nat → Int32} (hP : StP μ lg o H s) (hn : s 10 = nI n) (hn2 : n ≤ 20) : StQ μ (putK2 μ (o + 1) v) lg o s (joinF 10 v s) := by
  have to : ∀ j, j < 10 ∨ 30 < j → joinF 10 v s j = s j := fun j hj => join_o hn2 hn (by omega)
  refine StQ_of hP (Sm_putK2 Sm_refl) (fun b b1 => putK2_o (by omega) (by omega)) ?_ (to 9 (by omega)) (fun p hp j hj => to _ (by omega))
  exact CsR_fwd hP.2.2.2.2.2.2 (fun b b1 b2 => putK2_o (by omega) (by omega)) (fun j hj => to j (by omega)) (LkR_put hn hn2 hP.2.2.2.1.2.2.1) hP.2.2.2.1
/-- the sender's row and fields alone -/
theorem StQ_snd {μ μ' : qMM} {lg o H : Nat} {s t : Nat → Int32} (hP : StP μ lg o H s) (hS : Sm μ μ') (hb : ∀ b, b ≠ o + 5 → b ≠ o + 5 + 1 → mI μ' b = mI μ b) (ht : ∀ j, 8 ≤ j → t j = s j) (h1 : ∀ j, j < 6 → mI μ' (o + 5 + 1) j = t j) (h2 : mI μ' (o + 5) 2 = t 6) (h3 : mI μ' (o + 5) 3 = t 7) (h4 : ∀ j, 4 ≤ j → mI μ' (o + 5) j = mI μ (o + 5) j) : StQ μ μ' lg o s t := by
  refine StQ_of hP hS (fun b b1 => hb b (by omega) (by omega)) ?_ (ht 9 (by omega)) (fun p hp j hj => ht _ (by omega))
  obtain ⟨⟨c1, c2, c3, c4, c5, c6, c7, c8⟩, r2, r3, r4⟩ := hP.2.2.2.1
  obtain ⟨n, hn, hn9, hpk, f, hf, hf1, -⟩ := id hP.2.2.2.2.2.2.2.1
  obtain ⟨b, hb', hb1, -⟩ := id hP.2.2.2.2.2.2.2.2.1
  refine ⟨⟨h1, h2, h3, by rw [h4 4 (by omega), ht 8 (by omega)]; exact c4, by rw [h4 5 (by omega), ht 9 (by omega)]; exact c5, by rw [h4 6 (by omega), ht 63 (by omega)]; exact c6, by rw [h4 7 (by omega), ht 64 (by omega)]; exact c7, fun p hp => ?_⟩, RcR_congr (fun j j1 j2 j3 j4 => ht j (by omega)) (RcR_mem (fun b b1 b2 => hb b (by omega) (by omega)) r2), LkR_congr hf1 hf (fun j j1 j2 => ht j (by omega)) (LkR_mem (hb _ (by omega) (by omega)) (hb _ (by omega) (by omega)) r3), LkR_congr hb1 hb' (fun j j1 j2 => ht j (by omega)) (LkR_mem (hb _ (by omega) (by omega)) (hb _ (by omega) (by omega)) r4)⟩
  rw [hb _ (by omega) (by omega), ht _ (by omega)]
  refine c8 p ?_
  unfold nOf at hp ⊢
  rw [ht 9 (by omega)] at hp
  exact hp
theorem StQ_goes {μ : qMM} {lg o H : Nat} {s : Nat → Int32} (hP : StP μ lg o H s) : StQ μ (wR μ (o + 5 + 1) (goesF (mI μ (o + 5 + 1)))) lg o s (goesF s) := by
  obtain ⟨c1, c2, c3, c4, c5, c6, c7, c8⟩ := hP.2.2.2.1.1
  refine StQ_snd hP (Sm_wR Sm_refl) (fun b b1 b2 => mI_wR_n b2) (fun j hj => ?_) (fun j hj => ?_) ?_ ?_ (fun j hj => by rw [mI_wR_n (by omega)])
  · unfold goesF
    rw [upd_n (by omega), upd_n (by omega)]
  · rw [mI_wR_s]
    unfold goesF
    rw [c1 1 (by decide), c1 2 (by decide), c1 4 (by decide), c1 5 (by decide)]
    simp only [updE]
    by_cases g2 : j = 2
    · rw [if_pos g2, if_pos g2]
    · rw [if_neg g2, if_neg g2]
      by_cases g1 : j = 1
      · rw [if_pos g1, if_pos g1]
      · rw [if_neg g1, if_neg g1]
        exact c1 j hj
  · rw [mI_wR_n (by omega), c2]
    unfold goesF
    rw [upd_n (by decide), upd_n (by decide)]
  · rw [mI_wR_n (by omega), c3]
    unfold goesF
    rw [upd_n (by decide), upd_n (by decide)]