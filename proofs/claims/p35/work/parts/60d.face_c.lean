/-! ===== bodies: the face, all packets, a script is carried out ===== -/
theorem out_4 {s g : Nat → Int32} {p : Nat} : outF s g p = 0 ∨ outF s g p = 1 ∨ outF s g p = 2 ∨ outF s g p = 3 := by
  unfold outF
  split
  · exact Or.inr (Or.inr (Or.inr rfl))
  · split
    · exact Or.inr (Or.inr (Or.inl rfl))
    · split
      · exact Or.inr (Or.inl rfl)
      · exact Or.inl rfl
/-- alike in what a call doesn't touch -/
def same5 (m mi : Mod) : Prop := mi.f 3 = m.f 3 ∧ mi.f 5 = m.f 5 ∧ mi.t = m.t ∧ mi.p = m.p ∧ mi.d = va_cpy m.s m.d 0 0 5514
theorem xX8_deliverAll_l (o n : Nat) (μ μ1 : qMM) (H : Nat) (m : Mod) (hP : HsP H μ o m) (q : QX8_saveState o μ μ1) (hn : n ≤ 20) (hm : ∀ H m, HsP H μ o m → m.s 10 = nI n) (R : Option Value → qMM → Nat × Nat → Prop) (X : String → qMM → Nat × Nat → Prop)
    (hR : ∀ ν cnt, (∀ H m, HsP H μ o m → ∃ mi Hi, StQ μ1 ν (o + 1) (o + 1007) m.s mi.s ∧ Iv Hi mi.s ∧ H ≤ Hi ∧ Hi ≤ H + 300 ∧ nOf m.s = nOf mi.s ∧ mi = allM n (holM m) ∧ cnt = allN n (holM m) 0 ∧ same5 m mi) → R (some (.int cnt)) ν (0, 0)) :
    ∀ k i : Nat, i + k = n → ∀ ν cnt a4, Sm μ ν → (∀ H m, HsP H μ o m → ∃ mi Hi, StQ μ1 ν (o + 1) (o + 1007) m.s mi.s ∧ Iv Hi mi.s ∧ H ≤ Hi ∧ Hi ≤ H + 15 * i ∧ mi.s 10 = nI k ∧ nOf m.s = nOf mi.s ∧ allM k mi = allM n (holM m) ∧ allN k mi cnt = allN n (holM m) 0 ∧ same5 m mi) → EX (SX8_deliverAll R X) 19 [some (.ref o), some (.int (nI n)), some (.int cnt), some (.int (nI i)), a4] [] [] ν (0, 0) := by
  intro k
  induction k with
  | zero =>
    intro i hi ν cnt a4 hν hI
    have : i = n := by omega
    subst this
    rw [eX8_deliverAll_19]
    simp only [eX8_deliverAll_20, eX8_deliverAll_21, eX8_deliverAll_54, eX8_deliverAll_55, qOk, true_and]
    refine ⟨fun _ => hR ν cnt (fun H m hP => ?_), fun h => absurd (Int32.le_refl _) h⟩
    obtain ⟨mi, Hi, p1, p2, p3, p4, p5, p6, p7, p8, p9⟩ := hI H m hP
    exact ⟨mi, Hi, p1, p2, p3, by omega, p6, p7, p8, p9⟩
  | succ k ih =>
    intro i hi ν cnt a4 hν hI
    obtain ⟨e1, e2, e3, e4, e5, e6⟩ := HsS_Sm hν hP.1
    have t6 := tX6 e3.1
    have hSt : ∀ H m, HsP H μ o m → ∀ (mi : Mod) (Hi : Nat), StQ μ1 ν (o + 1) (o + 1007) m.s mi.s → Iv Hi mi.s → StP ν (o + 1) (o + 1007) Hi mi.s := fun H m hP mi Hi p1 p2 => StP_next (sv_g hP q) p1 p2
    have pd : PX6_deliverPacket (o + 1007) 0 ν := by
      obtain ⟨mi, Hi, p1, p2, p3, p4, p5, p6, p7, p8, p9⟩ := hI H m hP
      exact ⟨o + 1, Hi, mi.s, 0, hSt H m hP mi Hi p1 p2, by have := hP.2.2.1; omega, rfl, by rw [p5, nI_clamp (by omega)]; omega⟩
    rw [eX8_deliverAll_19]
    simp only [eX8_deliverAll_20, eX8_deliverAll_21, eX8_deliverAll_24, eX8_deliverAll_25, eX8_deliverAll_28, eX8_deliverAll_29, gX8_0, e1, t6, pd, List.length_nil, List.length_cons, ll0, ll1, ll2, ll3, ll4, Nat.le_refl, and_true, one0, eq_self, or_true, true_or, not_true_eq_false, not_false_eq_true, true_imp_iff, false_imp_iff, true_and, and_true, Classical.not_not]
    refine ⟨fun h => absurd h (nI_ge (by omega) (by omega)), fun _ r ν' q2 => ?_⟩
    have step : ∀ H m, HsP H μ o m → ∃ mi Hi, StQ μ1 ν' (o + 1) (o + 1007) m.s mi.s ∧ Iv Hi mi.s ∧ H ≤ Hi ∧ Hi ≤ H + 15 * (i + 1) ∧ mi.s 10 = nI k ∧ nOf m.s = nOf mi.s ∧ allM k mi = allM n (holM m) ∧ allN k mi (cnt + if r < 2 then 1 else 0) = allN n (holM m) 0 ∧ same5 m mi := fun H m hP => by
      obtain ⟨mi, Hi, p1, p2, p3, p4, p5, p6, p7, p8, p9⟩ := hI H m hP
      have hH := hP.2.2.1
      have hi0 : 0 < (mi.s 10).toNatClampNeg := by rw [p5, nI_clamp (by omega)]; omega
      obtain ⟨er, p⟩ := q2 _ Hi mi.s 0 mi.g (hSt H m hP mi Hi p1 p2) (by omega) rfl hi0
      obtain ⟨nn, hnn, hnn9, hpk, f, hf, hf1, hfp⟩ := id p2.2.1
      have : f = k + 1 := (nI_eq (by omega) (by omega)).mp (hf1.symm.trans p5)
      subst this
      obtain ⟨pk, hp1, hp2⟩ := hfp 0 (by omega)
      have ivt := Iv_take10 p5 (by omega) (show 0 < k + 1 by omega) p2
      have t9 : takeF mi.s 10 0 9 = mi.s 9 := take_o (by omega)
      obtain ⟨tk, -⟩ := take_in (by omega) p5 (show 0 < k + 1 by omega)
      have es : (recM (takeM mi 10 0) (mi.s 11).toNatClampNeg).s = recS (takeF mi.s 10 0) mi.g (mi.s 11).toNatClampNeg := by
        unfold recM
        rw [Mgs, Mss]
        rfl
      have er' : r = recA (takeM mi 10 0) (mi.s 11).toNatClampNeg := er
      have r9 : recS (takeF mi.s 10 0) mi.g (mi.s 11).toNatClampNeg 9 = mi.s 9 := by rw [rec_9 ivt (by omega), t9]
      have en : nOf (recS (takeF mi.s 10 0) mi.g (mi.s 11).toNatClampNeg) = nOf mi.s := nOf_eq r9
      refine ⟨recM (takeM mi 10 0) (mi.s 11).toNatClampNeg, Hi + 15, ?_, ?_, by omega, by omega, ?_, ?_, p7, ?_, ?_⟩
      · rw [es]
        exact StQ_trans p1 p (Nat.le_of_eq p6)
      · rw [es]
        have hp2' : mi.s 11 = nI pk := hp2
        rw [hp2', nI_clamp (by omega)]
        exact Iv_rec (by omega) ivt (by rw [t9, hnn9]; exact (nI_ltI (by omega) (by omega)).mpr hp1) (by omega)
      · rw [es, rec_9 ivt (by omega), tk]
        rfl
      · rw [es, en, p6]
      · rw [er']
        exact p8
      · obtain ⟨b1, b2, b3, b4, b5⟩ := p9
        unfold same5 recM takeM
        rw [Mgf, Msf, Msf, Mgt, Mst, Mst, Mgp, Msp, Msp, Mgd, Msd, Msd]
        exact ⟨b1, b2, b3, b4, b5⟩
    have hν' : Sm μ ν' := by
      obtain ⟨mi, Hi, p1, -⟩ := step H m hP
      exact Sm_trans q.1 p1.1
    have hr : r = 0 ∨ r = 1 ∨ r = 2 ∨ r = 3 := by
      obtain ⟨mi, Hi, p1, p2, p3, p4, p5, p6, p7, p8, p9⟩ := hI H m hP
      have hH := hP.2.2.1
      obtain ⟨er, p⟩ := q2 _ Hi mi.s 0 mi.g (hSt H m hP mi Hi p1 p2) (by omega) rfl (by rw [p5, nI_clamp (by omega)]; omega)
      rw [er]
      exact out_4
    have ih' := fun c a4 => ih (i + 1) (by omega) ν' c a4 hν'
    simp only [eX8_deliverAll_32, eX8_deliverAll_34, eX8_deliverAll_36, eX8_deliverAll_39, eX8_deliverAll_41, eX8_deliverAll_42, eX8_deliverAll_45, eX8_deliverAll_48, eX8_deliverAll_51, nI_1]
    rcases hr with rfl | rfl | rfl | rfl
    · rw [if_pos (show (0 : Int32) < 2 by decide)] at step
      exact ⟨fun _ => ih' _ _ step, fun h => absurd rfl h⟩
    · rw [if_pos (show (1 : Int32) < 2 by decide)] at step
      exact ⟨fun h => absurd h (by decide), fun _ => ⟨fun h => absurd rfl h, fun _ => ih' _ _ step⟩⟩
    · rw [if_neg (show ¬ (2 : Int32) < 2 by decide), Int32.add_zero] at step
      exact ⟨fun h => absurd h (by decide), fun _ => ⟨fun _ => ih' _ _ step, fun h => absurd (by decide) h⟩⟩
    · rw [if_neg (show ¬ (3 : Int32) < 2 by decide), Int32.add_zero] at step
      exact ⟨fun h => absurd h (by decide), fun _ => ⟨fun _ => ih' _ _ step, fun h => absurd (by decide) h⟩⟩
theorem xX8_deliverAll (o : Nat) (μ : qMM) (ht : ∃ t, mS μ o = some (.inl (7, t))) (hp : PX8_deliverAll o μ) : EX (SX8_deliverAll (rti 0 0 (QX8_deliverAll o μ)) (fun _ _ _ => False)) 0 [some (.ref o), none, none, none, none] [] [] μ (0, 0) := by
  obtain ⟨H, m, hP⟩ := hp
  have ps := sv_P hP
  simp only [eX8_deliverAll_0, eX8_deliverAll_1, ht, ps, List.length_nil, List.length_cons, ll0, ll1, ll2, ll3, ll4, Nat.le_refl, and_true, one0, eq_self, or_true, true_or, not_true_eq_false, not_false_eq_true, true_imp_iff, false_imp_iff, true_and, and_true, Classical.not_not]
  intro μ1 q
  obtain ⟨e1, e2, e3, e4, e5, e6⟩ := HsS_Sm q.1 hP.1
  obtain ⟨nn, -, -, -, n, hn, hn1, -⟩ := (HsP_cs hP).2.2.2.1
  have b10 : mI μ (o + 1007 + 1) 1 = nI n := by rw [(HsP_cs hP).1.2.2.1.1, hn1]
  have hm : ∀ H m, HsP H μ o m → m.s 10 = nI n := fun H m hP => by rw [← (HsP_cs hP).1.2.2.1.1, b10]
  have b11 : mI μ1 (o + 1007 + 1) 1 = nI n := by rw [q.2.2 _ (by omega) (by omega), b10]
  simp only [eX8_deliverAll_4, eX8_deliverAll_5, eX8_deliverAll_8, eX8_deliverAll_11, eX8_deliverAll_14, eX8_deliverAll_15, eX8_deliverAll_16, eX8_deliverAll_17, eX8_deliverAll_18, gX8_0, gX6_2, gX0_1, e1, e3.1, e3.2.2.2.1.1, b11]
  refine xX8_deliverAll_l o n μ μ1 H m hP q hn hm _ _ (fun ν cnt hI => ?_) n 0 (Nat.zero_add n) μ1 0 none q.1 (fun H m hP => ?_)
  · rw [rti_at]
    refine ⟨fun H m hP => ?_, Nat.le_refl _, Nat.le_refl _⟩
    obtain ⟨mi, Hi, p1, p2, p3, p4, p5, p6, p7, b1, b2, b3, b4, b5⟩ := hI H m hP
    have ea : deliverAllA m = (allN n (holM m) 0, endM (allM n (holM m))) := by
      unfold deliverAllA
      rw [hm H m hP, nI_clamp (by omega)]
    rw [ea, ← p6]
    exact ⟨p7, Q_mod hP q p1 p2 p3 (by omega) (Nat.le_of_eq p5) b1 b2 b3 b4 b5⟩
  · exact ⟨holM m, H, StQ_refl (sv_g hP q), (HsP_cs hP).2.2, Nat.le_refl _, by omega, hm H m hP, rfl, rfl, rfl, rfl, rfl, rfl, rfl, rfl⟩