/-! ===== bodies: the face, stream, all packets, the digest ===== -/
theorem mixR_L {f s : Nat → Int32} {a : Nat} {h : Int64} : ∀ n, (∀ i, i < n → f i = s (a + 1 + i)) → mixR f 0 n (31 * h + (s a).toInt64) = mixL s a h (1 + n)
  | 0, _ => rfl
  | n + 1, e => by
    rw [mixR_snoc, mixR_L n (fun i hi => e i (by omega)), Nat.zero_add, e n (by omega)]
    show _ = mixL s a h ((1 + n) + 1)
    unfold mixL mixF
    rw [show a + (1 + n) = a + 1 + n by omega]
    cases n <;> rfl
theorem HsP_se {H : Nat} {μ : qMM} {o : Nat} {m : Mod} (hP : HsP H μ o m) : SeP μ (o + 1) (o + 1007 + 5) m.s := by
  obtain ⟨c, l, iv⟩ := HsP_cs hP
  exact ⟨hP.1.2.2.1.2.1, hP.1.2.1, by omega, c.1, l, iv.2.1, iv.2.2.2.2, hP.2.1⟩
theorem StQ_trans {μ ν ξ : qMM} {lg o : Nat} {s s1 s2 : Nat → Int32} (h : StQ μ ν lg o s s1) (k : StQ ν ξ lg o s1 s2) (hn : nOf s ≤ nOf s1) : StQ μ ξ lg o s s2 := by
  obtain ⟨h1, h2, h3, h4, h5⟩ := h
  obtain ⟨k1, k2, k3, k4, k5⟩ := k
  refine ⟨Sm_trans h1 k1, k2, k3, fun b b1 b2 => by rw [k4 b b1 b2, h4 b b1 b2], fun p hp => ?_⟩
  obtain ⟨a1, a2, a3, a4, a5⟩ := h5 p hp
  obtain ⟨b1, b2, b3, b4, b5⟩ := k5 p (by omega)
  exact ⟨b1.trans a1, b2.trans a2, b3.trans a3, b4.trans a4, b5.trans a5⟩
theorem StP_next {μ ν : qMM} {lg o H H' : Nat} {s s1 : Nat → Int32} (hP : StP μ lg o H s) (h : StQ μ ν lg o s s1) (iv : Iv H' s1) : StP ν lg o H' s1 :=
  ⟨StS_Sm h.1 hP.1, LgS_Sm h.1 hP.2.1, hP.2.2.1, h.2.1, h.2.2.1, by rw [Sm_mN h.1]; exact hP.2.2.2.2.2.1, iv⟩
theorem StQ_refl {μ : qMM} {lg o H : Nat} {s : Nat → Int32} (hP : StP μ lg o H s) : StQ μ μ lg o s s := ⟨Sm_refl, hP.2.2.2.1, hP.2.2.2.2.1, fun _ _ _ => rfl, fun _ _ => ⟨rfl, rfl, rfl, rfl, rfl⟩⟩
theorem xX8_stream_l (o t : Nat) (μ μ1 : qMM) (H : Nat) (m : Mod) (hP : HsP H μ o m) (q : QX8_saveState o μ μ1) (hm : ∀ H m, HsP H μ o m → ∃ n f : Nat, m.s 9 = nI n ∧ m.s 10 = nI f ∧ n + t ≤ 500 ∧ f + t ≤ 20) (R : Option Value → qMM → Nat × Nat → Prop) (X : String → qMM → Nat × Nat → Prop) (hR : ∀ ν, Sm μ ν → (∀ H m, HsP H μ o m → StQ μ1 ν (o + 1) (o + 1007) m.s (strL m.s t)) → ∀ a, EX (SX8_stream R X) 76 [some (.ref o), some (.int (nI t)), a] [] [] ν (0, 0)) : ∀ k i : Nat, i + k = t → ∀ ν, Sm μ ν → (∀ H m, HsP H μ o m → StQ μ1 ν (o + 1) (o + 1007) m.s (strL m.s i)) → EX (SX8_stream R X) 47 [some (.ref o), some (.int (nI t)), some (.int (nI i))] [] [] ν (0, 0) := by
  have ht20 : t ≤ 20 := by
    obtain ⟨n, f, h1, h2, h3, h4⟩ := hm H m hP
    omega
  intro k
  induction k with
  | zero =>
    intro i hi ν hν hI
    have : i = t := by omega
    subst this
    rw [eX8_stream_47]
    simp only [eX8_stream_48, eX8_stream_49]
    exact ⟨fun _ => hR ν hν hI _, fun h => absurd (Int32.le_refl _) h⟩
  | succ k ih =>
    intro i hi ν hν hI
    have step : ∀ H m, HsP H μ o m → StP ν (o + 1) (o + 1007) H (strL m.s i) ∧ nOf m.s ≤ nOf (strL m.s i) ∧ strL m.s i 9 = nI (nOf m.s + i) ∧ nOf m.s + i < 500 ∧ nOf m.s ≤ nOf (goesF (strL m.s i)) := fun H m hP => by
      obtain ⟨n, f, h1, h2, h3, h4⟩ := hm H m hP
      have en : nOf m.s = n := by unfold nOf; rw [h1, nI_clamp (by omega)]
      obtain ⟨i1, i2, i3⟩ := str_ok (HsP_cs hP).2.2 h1 h2 i (by omega) (by omega)
      have e1 : nOf (strL m.s i) = n + i := by unfold nOf; rw [i2, nI_clamp (by omega)]
      have e2 : nOf (goesF (strL m.s i)) = n + i := by
        unfold nOf goesF
        rw [upd_n (by decide), upd_n (by decide), i2, nI_clamp (by omega)]
      exact ⟨StP_next (sv_g hP q) (hI H m hP) i1, by omega, by rw [en]; exact i2, by omega, by omega⟩
    obtain ⟨e1, e2, e3, e4, e5, e6⟩ := HsS_Sm hν hP.1
    have t5 := tX5 (o + 1) e3.2.1.1
    have pt : PX5_step (o + 1007 + 5) ν := ⟨o + 1, e3.2.1⟩
    rw [eX8_stream_47]
    simp only [eX8_stream_48, eX8_stream_49, eX8_stream_52, eX8_stream_53, eX8_stream_56, eX8_stream_59, eX8_stream_62, eX8_stream_63, eX8_stream_66, gX8_0, gX6_0, e1, e3.1, t5, pt, QX5_step, forall_eq, obX8_wR, List.length_nil, List.length_cons, ll0, ll1, ll2, ll3, ll4, Nat.le_refl, and_true, Nat.zero_add, Nat.add_zero, Nat.zero_le, one0, eq_self, or_true, true_or, not_true_eq_false, not_false_eq_true, true_imp_iff, false_imp_iff, true_and, and_true, Classical.not_not]
    refine ⟨fun h => absurd h (nI_ge (by omega) (by omega)), fun _ => ?_⟩
    have g1 : ∀ H m, HsP H μ o m → StQ μ1 (wR ν (o + 1007 + 5 + 1) (goesF (mI ν (o + 1007 + 5 + 1)))) (o + 1) (o + 1007) m.s (goesF (strL m.s i)) ∧ StP (wR ν (o + 1007 + 5 + 1) (goesF (mI ν (o + 1007 + 5 + 1)))) (o + 1) (o + 1007) H (goesF (strL m.s i)) := fun H m hP => by
      obtain ⟨p1, p2, p3, p4, p5⟩ := step H m hP
      have g := StQ_goes p1
      exact ⟨StQ_trans (hI H m hP) g p2, StP_next p1 g (Iv_goes p1.2.2.2.2.2.2)⟩
    have hν' : Sm μ (wR ν (o + 1007 + 5 + 1) (goesF (mI ν (o + 1007 + 5 + 1)))) := Sm_wR hν
    generalize wR ν (o + 1007 + 5 + 1) (goesF (mI ν (o + 1007 + 5 + 1))) = ξ at *
    obtain ⟨e1', e2', e3', e4', e5', e6'⟩ := HsS_Sm hν' hP.1
    have t6 := tX6 e3'.1
    have g9 : ∀ H m, HsP H μ o m → goesF (strL m.s i) 9 = nI (nOf m.s + i) := fun H m hP => by
      unfold goesF
      rw [upd_n (by decide), upd_n (by decide), (step H m hP).2.2.1]
    have pn : PX6_sendNext (o + 1007) ξ := ⟨o + 1, H, _, (g1 H m hP).2, _, (step H m hP).2.2.2.1, g9 H m hP⟩
    refine ⟨t6, pn, fun r μ2 q2 => ?_⟩
    have hμ2 : Sm μ μ2 := by
      obtain ⟨-, p⟩ := q2 _ _ _ (g1 H m hP).2 ⟨_, (step H m hP).2.2.2.1, g9 H m hP⟩
      exact Sm_trans hν' p.1
    simp only [eX8_stream_69, eX8_stream_70, eX8_stream_73, nI_1]
    refine ih (i + 1) (by omega) μ2 hμ2 (fun H m hP => ?_)
    obtain ⟨-, p⟩ := q2 _ _ _ (g1 H m hP).2 ⟨_, (step H m hP).2.2.2.1, g9 H m hP⟩
    exact StQ_trans (g1 H m hP).1 p (step H m hP).2.2.2.2
theorem xX8_stream (o : Nat) (x1 : Int32) (μ : qMM) (ht : ∃ t, mS μ o = some (.inl (7, t))) (hp : PX8_stream o x1 μ) : EX (SX8_stream (rti 1 6 (QX8_stream o x1 μ)) (thX μ (TX8_stream o x1 μ))) 0 [some (.ref o), some (.int x1), none] [] [] μ (0, 0) := by
  obtain ⟨H, m, hP⟩ := hp
  have ps := sv_P hP
  obtain ⟨k1, k2, k3, k4, k5, k6⟩ := id hP.1
  have t6 := tX6 k3.1
  by_cases g : inR x1 1 20
  · have g0 : 0 ≤ x1 ∧ x1 ≤ nI 20 := ⟨Int32.le_trans (by decide) g.1, g.2⟩
    obtain ⟨t, ht20, rfl⟩ := inR_idx (b := 20) (by decide) g0
    have pr : PX6_hasRoomFor (o + 1007) (nI t) μ := ⟨o + 1, k3⟩
    have may : ∀ H m, HsP H μ o m → ((mI μ (o + 1007 + 5) 5 + nI t ≤ 500 ∧ mI μ (o + 1007 + 1) 1 + nI t ≤ 20) ↔ mayS m.s (nI t)) := fun H m hP => by
      rw [(HsP_cs hP).1.1.2.2.2.2.1, (HsP_cs hP).1.2.2.1.1]
    by_cases g2 : mI μ (o + 1007 + 5) 5 + nI t ≤ 500 ∧ mI μ (o + 1007 + 1) 1 + nI t ≤ 20
    · have room : ∀ H m, HsP H μ o m → ∃ n f : Nat, m.s 9 = nI n ∧ m.s 10 = nI f ∧ n + t ≤ 500 ∧ f + t ≤ 20 := fun H m hP => by
        obtain ⟨n, hn, hn9, hpk, f, hf, hf1, -⟩ := id (HsP_cs hP).2.2.2.1
        have := (may_ok hn9 hn hf1 hf ht20).mp ((may H m hP).mp g2)
        exact ⟨n, f, hn9, hf1, this.1, this.2⟩
      simp only [eX8_stream_0, eX8_stream_1, eX8_stream_2, eX8_stream_4, eX8_stream_7, eX8_stream_20, eX8_stream_21, eX8_stream_24, eX8_stream_25, eX8_stream_28, eX8_stream_41, eX8_stream_42, PX8_inRange, QX8_inRange, if_pos g, gX8_0, k1, t6, pr, QX6_hasRoomFor, if_pos g2, ht, ps, qa2, List.length_nil, List.length_cons, ll0, ll1, ll2, ll3, ll4, Nat.le_refl, and_true, Nat.zero_add, Nat.add_zero, Nat.zero_le, one0, eq_self, or_true, true_or, not_true_eq_false, not_false_eq_true, true_imp_iff, false_imp_iff, true_and, and_true, Classical.not_not]
      intro μ1 q
      simp only [eX8_stream_45, eX8_stream_46]
      refine xX8_stream_l o t μ μ1 H m hP q room _ _ (fun ν hν hI a => ?_) t 0 (Nat.zero_add t) μ1 q.1 (fun H m hP => StQ_refl (sv_g hP q))
      obtain ⟨e1, e2, e3, e4, e5, e6⟩ := HsS_Sm hν hP.1
      simp only [eX8_stream_76, eX8_stream_77, eX8_stream_80, eX8_stream_83, eX8_stream_86, rtv_at, rti_at, rtj_at, rtd_at, rta_at, qOk, qOkR, gX8_0, gX6_2, gX0_1, e1, e3.1, e3.2.2.2.1.1, qOk, List.length_nil, List.length_cons, ll0, ll1, ll2, ll3, ll4, Nat.le_refl, and_true, Nat.zero_add, Nat.add_zero, Nat.zero_le, thX, one0, eq_self, or_true, true_or, not_true_eq_false, not_false_eq_true, true_imp_iff, false_imp_iff, true_and, and_true, Classical.not_not]
      intro H m hP
      have ea : streamA m (nI t) = (strL m.s t 10, savM m (strL m.s t)) := by
        unfold streamA
        rw [if_pos g, if_pos ((may H m hP).mp g2), nI_clamp (by omega)]
      rw [ea]
      obtain ⟨n, f, h1, h2, h3, h4⟩ := room H m hP
      have en : nOf m.s = n := by unfold nOf; rw [h1, nI_clamp (by omega)]
      obtain ⟨i1, i2, i3⟩ := str_ok (HsP_cs hP).2.2 h1 h2 t h3 h4
      refine ⟨end6, (hI H m hP).2.1.2.2.1.1, Q_sav hP q (hI H m hP) i1 (Nat.le_refl _) (by omega) ?_⟩
      rw [en]
      unfold nOf
      rw [i2, nI_clamp (by omega)]
      omega
    · simp only [eX8_stream_0, eX8_stream_1, eX8_stream_2, eX8_stream_4, eX8_stream_7, eX8_stream_10, eX8_stream_20, eX8_stream_21, eX8_stream_24, eX8_stream_25, eX8_stream_28, eX8_stream_31, eX8_stream_41, eX8_stream_42, eX8_stream_45, eX8_stream_46, eX8_stream_48, eX8_stream_49, eX8_stream_52, eX8_stream_53, eX8_stream_56, eX8_stream_59, eX8_stream_62, eX8_stream_63, eX8_stream_66, eX8_stream_69, eX8_stream_70, eX8_stream_73, eX8_stream_76, eX8_stream_77, eX8_stream_80, eX8_stream_83, eX8_stream_86, rtv_at, rti_at, rtj_at, rtd_at, rta_at, qOk, qOkR, PX8_inRange, QX8_inRange, if_pos g, gX8_0, k1, t6, pr, QX6_hasRoomFor, if_neg g2, qa2, qOk, List.length_nil, List.length_cons, ll0, ll1, ll2, ll3, ll4, Nat.le_refl, and_true, Nat.zero_add, Nat.add_zero, Nat.zero_le, thX, one0, eq_self, or_true, true_or, not_true_eq_false, not_false_eq_true, true_imp_iff, false_imp_iff, true_and, and_true, Classical.not_not]
      intro H m hP
      unfold streamA
      rw [if_pos g, if_neg (fun z => g2 ((may H m hP).mpr z))]
      exact Or.inr ⟨rfl, fai6⟩
  · simp only [eX8_stream_0, eX8_stream_1, eX8_stream_2, eX8_stream_4, eX8_stream_7, eX8_stream_10, eX8_stream_20, eX8_stream_21, eX8_stream_24, eX8_stream_25, eX8_stream_28, eX8_stream_31, eX8_stream_41, eX8_stream_42, eX8_stream_45, eX8_stream_46, eX8_stream_48, eX8_stream_49, eX8_stream_52, eX8_stream_53, eX8_stream_56, eX8_stream_59, eX8_stream_62, eX8_stream_63, eX8_stream_66, eX8_stream_69, eX8_stream_70, eX8_stream_73, eX8_stream_76, eX8_stream_77, eX8_stream_80, eX8_stream_83, eX8_stream_86, rtv_at, rti_at, rtj_at, rtd_at, rta_at, qOk, qOkR, PX8_inRange, QX8_inRange, if_neg g, qa2, qOk, List.length_nil, List.length_cons, ll0, ll1, ll2, ll3, ll4, Nat.le_refl, and_true, Nat.zero_add, Nat.add_zero, Nat.zero_le, thX, one0, eq_self, or_true, true_or, not_true_eq_false, not_false_eq_true, true_imp_iff, false_imp_iff, true_and, and_true, Classical.not_not]
    intro H m hP
    unfold streamA
    rw [if_neg g]
    exact Or.inl ⟨rfl, fai6⟩
