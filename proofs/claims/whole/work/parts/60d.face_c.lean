/-! ===== bodies: the face, all packets, a script is carried out ===== -/
theorem out_4 {s g : Nat → Int32} {p : Nat} : outF s g p = 0 ∨ outF s g p = 1 ∨ outF s g p = 2 ∨ outF s g p = 3 := by
  unfold outF
  split
  · exact Or.inr (Or.inr (Or.inr rfl))
  · split
    · exact Or.inr (Or.inr (Or.inl rfl))
    · split
      · exact Or.inr (Or.inl rfl)
      · exact Or.inl rfl
/-- alike in what a call doesn't touch -/
def same5 (m mi : Mod) : Prop := mi.f 3 = m.f 3 ∧ mi.f 5 = m.f 5 ∧ mi.t = m.t ∧ mi.p = m.p ∧ mi.d = va_cpy m.s m.d 0 0 5514
theorem xX8_deliverAll_l (o n : Nat) (μ μ1 : qMM) (H : Nat) (m : Mod) (hP : HsP H μ o m) (q : QX8_saveState o μ μ1) (hn : n ≤ 20) (hm : ∀ H m, HsP H μ o m → m.s 10 = nI n) (R : Option Value → qMM → Nat × Nat → Prop) (X : String → qMM → Nat × Nat → Prop)
    (hR : ∀ ν cnt, (∀ H m, HsP H μ o m → ∃ mi Hi, StQ μ1 ν (o + 1) (o + 1007) m.s mi.s ∧ Iv Hi mi.s ∧ H ≤ Hi ∧ Hi ≤ H + 300 ∧ nOf m.s = nOf mi.s ∧ mi = allM n (holM m) ∧ cnt = allN n (holM m) 0 ∧ same5 m mi) → R (some (.int cnt)) ν (0, 0)) :
    ∀ k i : Nat, i + k = n → ∀ ν cnt a4, Sm μ ν → (∀ H m, HsP H μ o m → ∃ mi Hi, StQ μ1 ν (o + 1) (o + 1007) m.s mi.s ∧ Iv Hi mi.s ∧ H ≤ Hi ∧ Hi ≤ H + 15 * i ∧ mi.s 10 = nI k ∧ nOf m.s = nOf mi.s ∧ allM k mi = allM n (holM m) ∧ allN k mi cnt = allN n (holM m) 0 ∧ same5 m mi) → EX (SX8_deliverAll R X) 19 [some (.ref o), some (.int (nI n)), some (.int cnt), some (.int (nI i)), a4] [] [] ν (0, 0) := by
  intro k
  induction k with
  | zero =>
    intro i hi ν cnt a4 hν hI
    have : i = n := by omega
    subst this
    rw [eX8_deliverAll_19]
    simp only [eX8_deliverAll_20, eX8_deliverAll_21, eX8_deliverAll_54, eX8_deliverAll_55, qOk, true_and]
    refine ⟨fun _ => hR ν cnt (fun H m hP => ?_), fun h => absurd (Int32.le_refl _) h⟩
    obtain ⟨mi, Hi, p1, p2, p3, p4, p5, p6, p7, p8, p9⟩ := hI H m hP
    exact ⟨mi, Hi, p1, p2, p3, by omega, p6, p7, p8, p9⟩
  | succ k ih =>
    intro i hi ν cnt a4 hν hI
    obtain ⟨e1, e2, e3, e4, e5, e6⟩ := HsS_Sm hν hP.1
    have t6 := tX6 e3.1
    have hSt : ∀ H m, HsP H μ o m → ∀ (mi : Mod) (Hi : Nat), StQ μ1 ν (o + 1) (o + 1007) m.s mi.s → Iv Hi mi.s → StP ν (o + 1) (o + 1007) Hi mi.s := fun H m hP mi Hi p1 p2 => StP_next (sv_g hP q) p1 p2
    have pd : PX6_deliverPacket (o + 1007) 0 ν := by
      obtain ⟨mi, Hi, p1, p2, p3, p4, p5, p6, p7, p8, p9⟩ := hI H m hP
      exact ⟨o + 1, Hi, mi.s, 0, hSt H m hP mi Hi p1 p2, by have := hP.2.2.1; omega, rfl, by rw [p5, nI_clamp (by omega)]; omega⟩
    rw [eX8_deliverAll_19]
    simp only [eX8_deliverAll_20, eX8_deliverAll_21, eX8_deliverAll_24, eX8_deliverAll_25, eX8_deliverAll_28, eX8_deliverAll_29, gX8_0, e1, t6, pd, List.length_nil, List.length_cons, ll0, ll1, ll2, ll3, ll4, Nat.le_refl, and_true, one0, eq_self, or_true, true_or, not_true_eq_false, not_false_eq_true, true_imp_iff, false_imp_iff, true_and, and_true, Classical.not_not]
    refine ⟨fun h => absurd h (nI_ge (by omega) (by omega)), fun _ r ν' q2 => ?_⟩
    have step : ∀ H m, HsP H μ o m → ∃ mi Hi, StQ μ1 ν' (o + 1) (o + 1007) m.s mi.s ∧ Iv Hi mi.s ∧ H ≤ Hi ∧ Hi ≤ H + 15 * (i + 1) ∧ mi.s 10 = nI k ∧ nOf m.s = nOf mi.s ∧ allM k mi = allM n (holM m) ∧ allN k mi (cnt + if r < 2 then 1 else 0) = allN n (holM m) 0 ∧ same5 m mi := fun H m hP => by
      obtain ⟨mi, Hi, p1, p2, p3, p4, p5, p6, p7, p8, p9⟩ := hI H m hP
      have hH := hP.2.2.1
      have hi0 : 0 < (mi.s 10).toNatClampNeg := by rw [p5, nI_clamp (by omega)]; omega
      obtain ⟨er, p⟩ := q2 _ Hi mi.s 0 mi.g (hSt H m hP mi Hi p1 p2) (by omega) rfl hi0
      obtain ⟨nn, hnn, hnn9, hpk, f, hf, hf1, hfp⟩ := id p2.2.1
      have : f = k + 1 := (nI_eq (by omega) (by omega)).mp (hf1.symm.trans p5)
      subst this
      obtain ⟨pk, hp1, hp2⟩ := hfp 0 (by omega)
      have ivt := Iv_take10 p5 (by omega) (show 0 < k + 1 by omega) p2
      have t9 : takeF mi.s 10 0 9 = mi.s 9 := take_o (by omega)
      obtain ⟨tk, -⟩ := take_in (by omega) p5 (show 0 < k + 1 by omega)
      have es : (recM (takeM mi 10 0) (mi.s 11).toNatClampNeg).s = recS (takeF mi.s 10 0) mi.g (mi.s 11).toNatClampNeg := by
        unfold recM
        rw [Mgs, Mss]
        rfl
      have er' : r = recA (takeM mi 10 0) (mi.s 11).toNatClampNeg := er
      have r9 : recS (takeF mi.s 10 0) mi.g (mi.s 11).toNatClampNeg 9 = mi.s 9 := by rw [rec_9 ivt (by omega), t9]
      have en : nOf (recS (takeF mi.s 10 0) mi.g (mi.s 11).toNatClampNeg) = nOf mi.s := nOf_eq r9
      refine ⟨recM (takeM mi 10 0) (mi.s 11).toNatClampNeg, Hi + 15, ?_, ?_, by omega, by omega, ?_, ?_, p7, ?_, ?_⟩
      · rw [es]
        exact StQ_trans p1 p (Nat.le_of_eq p6)
      · rw [es]
        have hp2' : mi.s 11 = nI pk := hp2
        rw [hp2', nI_clamp (by omega)]
        exact Iv_rec (by omega) ivt (by rw [t9, hnn9]; exact (nI_ltI (by omega) (by omega)).mpr hp1) (by omega)
      · rw [es, rec_9 ivt (by omega), tk]
        rfl
      · rw [es, en, p6]
      · rw [er']
        exact p8
      · obtain ⟨b1, b2, b3, b4, b5⟩ := p9
        unfold same5 recM takeM
        rw [Mgf, Msf, Msf, Mgt, Mst, Mst, Mgp, Msp, Msp, Mgd, Msd, Msd]
        exact ⟨b1, b2, b3, b4, b5⟩
    have hν' : Sm μ ν' := by
      obtain ⟨mi, Hi, p1, -⟩ := step H m hP
      exact Sm_trans q.1 p1.1
    have hr : r = 0 ∨ r = 1 ∨ r = 2 ∨ r = 3 := by
      obtain ⟨mi, Hi, p1, p2, p3, p4, p5, p6, p7, p8, p9⟩ := hI H m hP
      have hH := hP.2.2.1
      obtain ⟨er, p⟩ := q2 _ Hi mi.s 0 mi.g (hSt H m hP mi Hi p1 p2) (by omega) rfl (by rw [p5, nI_clamp (by omega)]; omega)
      rw [er]
      exact out_4
    have ih' := fun c a4 => ih (i + 1) (by omega) ν' c a4 hν'
    simp only [eX8_deliverAll_32, eX8_deliverAll_34, eX8_deliverAll_36, eX8_deliverAll_39, eX8_deliverAll_41, eX8_deliverAll_42, eX8_deliverAll_45, eX8_deliverAll_48, eX8_deliverAll_51, nI_1]
    rcases hr with rfl | rfl | rfl | rfl
    · rw [if_pos (show (0 : Int32) < 2 by decide)] at step
      exact ⟨fun _ => ih' _ _ step, fun h => absurd rfl h⟩
    · rw [if_pos (show (1 : Int32) < 2 by decide)] at step
      exact ⟨fun h => absurd h (by decide), fun _ => ⟨fun h => absurd rfl h, fun _ => ih' _ _ step⟩⟩
    · rw [if_neg (show ¬ (2 : Int32) < 2 by decide), Int32.add_zero] at step
      exact ⟨fun h => absurd h (by decide), fun _ => ⟨fun _ => ih' _ _ step, fun h => absurd (by decide) h⟩⟩
    · rw [if_neg (show ¬ (3 : Int32) < 2 by decide), Int32.add_zero] at step
      exact ⟨fun h => absurd h (by decide), fun _ => ⟨fun _ => ih' _ _ step, fun h => absurd (by decide) h⟩⟩
theorem xX8_deliverAll (o : Nat) (μ : qMM) (ht : ∃ t, mS μ o = some (.inl (7, t))) (hp : PX8_deliverAll o μ) : EX (SX8_deliverAll (rti 0 0 (QX8_deliverAll o μ)) (fun _ _ _ => False)) 0 [some (.ref o), none, none, none, none] [] [] μ (0, 0) := by
  obtain ⟨H, m, hP⟩ := hp
  have ps := sv_P hP
  simp only [eX8_deliverAll_0, eX8_deliverAll_1, ht, ps, List.length_nil, List.length_cons, ll0, ll1, ll2, ll3, ll4, Nat.le_refl, and_true, one0, eq_self, or_true, true_or, not_true_eq_false, not_false_eq_true, true_imp_iff, false_imp_iff, true_and, and_true, Classical.not_not]
  intro μ1 q
  obtain ⟨e1, e2, e3, e4, e5, e6⟩ := HsS_Sm q.1 hP.1
  obtain ⟨nn, -, -, -, n, hn, hn1, -⟩ := (HsP_cs hP).2.2.2.1
  have b10 : mI μ (o + 1007 + 1) 1 = nI n := by rw [(HsP_cs hP).1.2.2.1.1, hn1]
  have hm : ∀ H m, HsP H μ o m → m.s 10 = nI n := fun H m hP => by rw [← (HsP_cs hP).1.2.2.1.1, b10]
  have b11 : mI μ1 (o + 1007 + 1) 1 = nI n := by rw [q.2.2 _ (by omega) (by omega), b10]
  simp only [eX8_deliverAll_4, eX8_deliverAll_5, eX8_deliverAll_8, eX8_deliverAll_11, eX8_deliverAll_14, eX8_deliverAll_15, eX8_deliverAll_16, eX8_deliverAll_17, eX8_deliverAll_18, gX8_0, gX6_2, gX0_1, e1, e3.1, e3.2.2.2.1.1, b11]
  refine xX8_deliverAll_l o n μ μ1 H m hP q hn hm _ _ (fun ν cnt hI => ?_) n 0 (Nat.zero_add n) μ1 0 none q.1 (fun H m hP => ?_)
  · rw [rti_at]
    refine ⟨fun H m hP => ?_, Nat.le_refl _, Nat.le_refl _⟩
    obtain ⟨mi, Hi, p1, p2, p3, p4, p5, p6, p7, b1, b2, b3, b4, b5⟩ := hI H m hP
    have ea : deliverAllA m = (allN n (holM m) 0, endM (allM n (holM m))) := by
      unfold deliverAllA
      rw [hm H m hP, nI_clamp (by omega)]
    rw [ea, ← p6]
    exact ⟨p7, Q_mod hP q p1 p2 p3 (by omega) (Nat.le_of_eq p5) b1 b2 b3 b4 b5⟩
  · exact ⟨holM m, H, StQ_refl (sv_g hP q), (HsP_cs hP).2.2, Nat.le_refl _, by omega, hm H m hP, rfl, rfl, rfl, rfl, rfl, rfl, rfl, rfl⟩
theorem ordL_len {t : Nat → Int32} {n : Nat} : ∀ k a, a ≤ n → (ordL t n k a).length * 2 ≤ n - a
  | 0, a, _ => by unfold ordL; show 0 * 2 ≤ _; omega
  | k + 1, a, ha => by
    unfold ordL
    by_cases g : a < n ∧ ordG t n a
    · rw [if_pos g]
      have h1 := sem_2 g.2
      have h2 := (ord_prog g.2).2
      have := ordL_len (t := t) (n := n) k (ordA t n a) h2
      rw [List.length_cons]
      omega
    · rw [if_neg g]
      show 0 * 2 ≤ _
      omega
theorem ordL_let {t : Nat → Int32} {n : Nat} : ∀ k a x, x ∈ ordL t n k a → isNum x.1 ∨ isPla x.1
  | 0, a, x, h => by unfold ordL at h; exact absurd h (List.not_mem_nil)
  | k + 1, a, x, h => by
    unfold ordL at h
    by_cases g : a < n ∧ ordG t n a
    · rw [if_pos g] at h
      rcases List.mem_cons.mp h with rfl | h
      · rcases g.2.1 with z | z
        · exact Or.inr z
        · exact Or.inl z.1
      · exact ordL_let k _ x h
    · rw [if_neg g] at h
      exact absurd h (List.not_mem_nil)
theorem don_S {m : Mod} {c i : Int32} : (donM m c i).s = donS m.s m.g c i := by
  unfold donM donS
  split
  · rw [Mss]
  · split
    · rw [Mss]
    · split
      · unfold dlvM
        rw [Mgs, Mss]
      · split
        · unfold losM
          rw [Mss]
        · split
          · unfold cpyM
            rw [Mss]
          · split
            · unfold retM
              rw [Mss]
            · unfold losM
              rw [Mss]
theorem don_9 {H : Nat} {m : Mod} {c i : Int32} (hH : H + 15 < 2 ^ 30) (iv : Iv H m.s) (g : donG m.s c i = true) (hc : isNum c ∨ isPla c) : nOf m.s ≤ nOf (donM m c i).s := by
  rw [don_S]
  obtain ⟨n, hn, hn9, hpk, f, hf, hf1, -⟩ := id iv.2.1
  obtain ⟨b, hb, hb1, -⟩ := id iv.2.2.1
  have key : ∀ t : Nat → Int32, t 9 = m.s 9 → nOf m.s ≤ nOf t := fun t h => Nat.le_of_eq (nOf_eq h).symm
  have tk10 : ∀ i : Int32, takeF m.s 10 i.toNatClampNeg 9 = m.s 9 := fun i => take_o (by omega)
  have tk31 : ∀ i : Int32, takeF m.s 31 i.toNatClampNeg 9 = m.s 9 := fun i => take_o (by omega)
  rcases hc with (rfl | rfl | rfl | rfl | rfl) | (rfl | rfl)
  · have gi : inL m.s 10 i := by simpa [donG] using g
    obtain ⟨j, hj, rfl⟩ := inL_ok hf1 hf gi
    unfold donS
    rw [if_neg (by decide), if_neg (by decide), if_pos rfl]
    refine key _ ?_
    rw [rec_9 (Iv_take10 hf1 hf (by rw [nI_clamp (by omega)]; exact hj) iv) (by omega), tk10]
  · unfold donS
    rw [if_neg (by decide), if_neg (by decide), if_neg (by decide), if_pos rfl]
    exact key _ (tk10 i)
  · unfold donS
    rw [if_neg (by decide), if_neg (by decide), if_neg (by decide), if_neg (by decide), if_pos rfl]
    exact key _ (join_o hf hf1 (by omega))
  · unfold donS
    rw [if_neg (by decide), if_neg (by decide), if_neg (by decide), if_neg (by decide), if_neg (by decide), if_pos rfl]
    refine key _ ?_
    unfold hearF
    split
    · rw [upd_n (by decide), tk31]
    · split
      · rw [upd_n (by omega), tk31]
      · exact tk31 i
  · unfold donS
    rw [if_neg (by decide), if_neg (by decide), if_neg (by decide), if_neg (by decide), if_neg (by decide), if_neg (by decide)]
    exact key _ (tk31 i)
  · unfold donS
    rw [if_pos rfl]
    refine key _ ?_
    unfold goesF
    rw [upd_n (by decide), upd_n (by decide)]
  · have gm : mayS m.s 1 := by simpa [donG] using g
    have hm := (may_ok (k := 1) hn9 hn hf1 hf (by decide)).mp gm
    unfold donS
    rw [if_neg (by decide), if_pos rfl]
    unfold nOf
    rw [(send_9 iv hn9 (by omega) hf1 (by omega)).1, hn9, nI_clamp (by omega), nI_clamp (by omega)]
    omega
theorem ordX_le {t : Nat → Int32} {n e : Nat} : ∀ k a, ordX t n k a = some e → e ≤ n + 3
  | 0, a, h => by unfold ordX at h; cases h
  | k + 1, a, h => by
    unfold ordX at h
    by_cases g : a < n
    · rw [if_pos g] at h
      by_cases G : ordG t n a
      · rw [if_pos G] at h
        exact ordX_le k _ h
      · rw [if_neg G] at h
        have h := Option.some.inj h
        rw [← h]
        unfold ordA
        rw [if_neg G]
        unfold ordE semA
        split
        · split
          · split
            · omega
            · split <;> omega
          · omega
        · omega
    · rw [if_neg g] at h
      cases h
theorem same5_don {m mi : Mod} {c i : Int32} (h : same5 m mi) : same5 m (donM mi c i) := by
  obtain ⟨b1, b2, b3, b4, b5⟩ := h
  obtain ⟨d1, d2, d3, d4, d5⟩ := don_t (m := mi) (c := c) (i := i)
  exact ⟨d2.trans b1, d3.trans b2, d1.trans b3, d5.trans b4, d4.trans b5⟩
/-- the script's orders, one after another -/
theorem xX8_carryOut_l (o w : Nat) (l : List (Int32 × Int32)) (μ μ1 : qMM) (H : Nat) (m : Mod) (hP : HsP H μ o m) (hl : l.length ≤ 50) (hlet : ∀ x ∈ l, isNum x.1 ∨ isPla x.1) (hS1 : Sm μ μ1) (f : Option Value) (hSt1 : ∀ H m, HsP H μ o m → StP μ1 (o + 1) (o + 1007) H m.s) (hOr : OrR μ1 (o + 1488) l) (R : Option Value → qMM → Nat × Nat → Prop) (X : String → qMM → Nat × Nat → Prop)
    (hR : ∀ ν a, Sm μ ν → (∀ H m, HsP H μ o m → ∃ mi Hi, StQ μ1 ν (o + 1) (o + 1007) m.s mi.s ∧ Iv Hi mi.s ∧ H ≤ Hi ∧ Hi ≤ H + 750 ∧ nOf m.s ≤ nOf mi.s ∧ exeL l (holM (telM m)) 0 = (l.length, true, mi) ∧ same5 m mi) → mI ν (o + 1488) 4 = nI l.length → EX (SX8_carryOut R X) 97 [some (.ref o), f, some (.ref (o + 1088 + 80 * w)), a] [] [] ν (0, 0))
    (hF : ∀ ν i, Sm μ ν → (∀ H m, HsP H μ o m → ∃ mi Hi, StQ μ1 ν (o + 1) (o + 1007) m.s mi.s ∧ Iv Hi mi.s ∧ H ≤ Hi ∧ Hi ≤ H + 750 ∧ nOf m.s ≤ nOf mi.s ∧ exeL l (holM (telM m)) 0 = (i, false, mi) ∧ same5 m mi) → EX (SX8_carryOut R X) 77 [some (.ref o), f, some (.ref (o + 1088 + 80 * w)), some (.int (nI i))] [] [] ν (0, 0)) :
    ∀ k i : Nat, i + k = l.length → ∀ ν, Sm μ ν → (∀ H m, HsP H μ o m → ∃ mi Hi, StQ μ1 ν (o + 1) (o + 1007) m.s mi.s ∧ Iv Hi mi.s ∧ H ≤ Hi ∧ Hi ≤ H + 15 * i ∧ nOf m.s ≤ nOf mi.s ∧ exeL l (holM (telM m)) 0 = exeL (l.drop i) mi i ∧ same5 m mi) → EX (SX8_carryOut R X) 38 [some (.ref o), f, some (.ref (o + 1088 + 80 * w)), some (.int (nI i))] [] [] ν (0, 0) := by
  have hsc : ∀ ν, (∀ H m, HsP H μ o m → ∃ (mi : Mod) (Hi : Nat), StQ μ1 ν (o + 1) (o + 1007) m.s mi.s) → ∀ b, o + 1488 ≤ b → mI ν b = mI μ1 b := fun ν h b hb => by
    obtain ⟨mi, Hi, p⟩ := h H m hP
    exact p.2.2.2.1 b (by omega) (by omega)
  intro k
  induction k with
  | zero =>
    intro i hi ν hν hI
    have : i = l.length := by omega
    subst this
    obtain ⟨e1, e2, e3, e4, e5, e6⟩ := HsS_Sm hν hP.1
    have h4 : mI ν (o + 1488) 4 = nI l.length := by
      rw [hsc ν (fun H m hP => by obtain ⟨mi, Hi, p1, -⟩ := hI H m hP; exact ⟨mi, Hi, p1⟩) _ (by omega)]
      exact hOr.1
    rw [eX8_carryOut_38]
    simp only [eX8_carryOut_39, eX8_carryOut_40, eX8_carryOut_43, eX8_carryOut_46, gX8_4, gX4_4, e1, e6.1, h4]
    refine ⟨fun _ => hR ν _ hν (fun H m hP => ?_) h4, fun h => absurd (Int32.le_refl _) h⟩
    obtain ⟨mi, Hi, p1, p2, p3, p4, p5, p6, p7⟩ := hI H m hP
    refine ⟨mi, Hi, p1, p2, p3, by omega, p5, ?_, p7⟩
    rw [p6, List.drop_length]
    rfl
  | succ k ih =>
    intro i hi ν hν hI
    obtain ⟨e1, e2, e3, e4, e5, e6⟩ := HsS_Sm hν hP.1
    have hsc' := hsc ν (fun H m hP => by obtain ⟨mi, Hi, p1, -⟩ := hI H m hP; exact ⟨mi, Hi, p1⟩)
    have h4 : mI ν (o + 1488) 4 = nI l.length := by
      rw [hsc' _ (by omega)]
      exact hOr.1
    obtain ⟨c, v, hcv⟩ : ∃ c v, l[i]? = some (c, v) := by
      have : i < l.length := by omega
      exact ⟨(l[i]).1, (l[i]).2, by rw [List.getElem?_eq_getElem this]⟩
    obtain ⟨o1, o2⟩ := hOr.2 i c v hcv
    have hc : isNum c ∨ isPla c := hlet (c, v) (List.mem_of_getElem? hcv)
    have hdrop : l.drop i = (c, v) :: l.drop (i + 1) := by
      have hlt : i < l.length := by omega
      rw [List.drop_eq_getElem_cons hlt]
      rw [List.getElem?_eq_getElem hlt] at hcv
      rw [Option.some.inj hcv]
    have m2 : mI ν (o + 1488 + 2) i = c := by rw [hsc' _ (by omega)]; exact o1
    have m3 : mI ν (o + 1488 + 3) i = v := by rw [hsc' _ (by omega)]; exact o2
    have t6 := tX6 e3.1
    have hSt : ∀ H m, HsP H μ o m → ∀ (mi : Mod) (Hi : Nat), StQ μ1 ν (o + 1) (o + 1007) m.s mi.s → Iv Hi mi.s → StP ν (o + 1) (o + 1007) Hi mi.s := fun H m hP mi Hi p1 p2 => StP_next (hSt1 H m hP) p1 p2
    have po : PX6_obey (o + 1007) c v ν := by
      obtain ⟨mi, Hi, p1, p2, p3, p4, p5, p6, p7⟩ := hI H m hP
      exact ⟨⟨o + 1, Hi, mi.s, hSt H m hP mi Hi p1 p2, by have := hP.2.2.1; omega⟩, hc⟩
    rw [eX8_carryOut_38]
    simp only [eX8_carryOut_39, eX8_carryOut_40, eX8_carryOut_43, eX8_carryOut_46, eX8_carryOut_49, eX8_carryOut_50, eX8_carryOut_53, eX8_carryOut_54, eX8_carryOut_57, eX8_carryOut_60, eX8_carryOut_61, eX8_carryOut_62, eX8_carryOut_63, eX8_carryOut_66, eX8_carryOut_69, eX8_carryOut_70, eX8_carryOut_71, gX8_0, gX8_4, gX4_2, gX4_3, gX4_4, e1, e6.1, e6.2.2.1, e6.2.2.2, h4, qA50, vp50 (show i < 50 by omega), nIc (show i < 500 by omega), m2, m3, t6, po, List.length_nil, List.length_cons, ll0, ll1, ll2, ll3, ll4, Nat.le_refl, and_true, one0, eq_self, or_true, true_or, not_true_eq_false, not_false_eq_true, true_imp_iff, false_imp_iff, true_and, and_true, Classical.not_not]
    refine ⟨fun h => absurd h (nI_ge (by omega) (by omega)), fun _ r ν' q => ?_⟩
    have hq : ∀ H m, HsP H μ o m → ∀ (mi : Mod) (Hi : Nat), StQ μ1 ν (o + 1) (o + 1007) m.s mi.s → Iv Hi mi.s → Hi ≤ H + 750 → r = (if donG mi.s c v = true then 1 else 0) ∧ (donG mi.s c v = true → StQ ν ν' (o + 1) (o + 1007) mi.s (donS mi.s mi.g c v)) ∧ (¬ donG mi.s c v = true → ν' = ν) := fun H m hP mi Hi p1 p2 p3 => q _ Hi mi.s mi.g (hSt H m hP mi Hi p1 p2) (by have := hP.2.2.1; omega)
    have hr : r = 1 ∨ r = 0 := by
      obtain ⟨mi, Hi, p1, p2, p3, p4, p5, p6, p7⟩ := hI H m hP
      rw [(hq H m hP mi Hi p1 p2 (by omega)).1]
      by_cases z : donG mi.s c v = true
      · exact Or.inl (if_pos z)
      · exact Or.inr (if_neg z)
    simp only [eX8_carryOut_74, eX8_carryOut_91, eX8_carryOut_94, nI_1]
    rcases hr with rfl | rfl
    · refine ⟨fun _ => ?_, fun h => absurd h (by decide)⟩
      have step : ∀ H m, HsP H μ o m → ∃ mi Hi, StQ μ1 ν' (o + 1) (o + 1007) m.s mi.s ∧ Iv Hi mi.s ∧ H ≤ Hi ∧ Hi ≤ H + 15 * (i + 1) ∧ nOf m.s ≤ nOf mi.s ∧ exeL l (holM (telM m)) 0 = exeL (l.drop (i + 1)) mi (i + 1) ∧ same5 m mi := fun H m hP => by
        obtain ⟨mi, Hi, p1, p2, p3, p4, p5, p6, p7⟩ := hI H m hP
        have hH := hP.2.2.1
        obtain ⟨q1, q2, q3⟩ := hq H m hP mi Hi p1 p2 (by omega)
        have gd : donG mi.s c v = true := by
          by_cases z : donG mi.s c v = true
          · exact z
          · rw [if_neg z] at q1
            exact absurd q1 (by decide)
        have h9 := don_9 (by omega) p2 gd hc
        refine ⟨donM mi c v, Hi + 15, ?_, Iv_don (by omega) p2 gd, by omega, by omega, by omega, ?_, same5_don p7⟩
        · rw [don_S]
          exact StQ_trans p1 (q2 gd) p5
        · rw [p6, hdrop]
          show (if donG mi.s c v = true then _ else _) = _
          rw [if_pos gd]
      have hν' : Sm μ ν' := by
        obtain ⟨mi, Hi, p1, -⟩ := step H m hP
        exact Sm_trans hS1 p1.1
      exact ih (i + 1) (by omega) ν' hν' step
    · refine ⟨fun h => absurd rfl h, fun _ => ?_⟩
      have bad : ∀ H m, HsP H μ o m → ∃ mi Hi, StQ μ1 ν (o + 1) (o + 1007) m.s mi.s ∧ Iv Hi mi.s ∧ H ≤ Hi ∧ Hi ≤ H + 750 ∧ nOf m.s ≤ nOf mi.s ∧ exeL l (holM (telM m)) 0 = (i, false, mi) ∧ same5 m mi ∧ ν' = ν := fun H m hP => by
        obtain ⟨mi, Hi, p1, p2, p3, p4, p5, p6, p7⟩ := hI H m hP
        obtain ⟨q1, q2, q3⟩ := hq H m hP mi Hi p1 p2 (by omega)
        have gd : ¬ donG mi.s c v = true := fun z => by
          rw [if_pos z] at q1
          exact absurd q1 (by decide)
        refine ⟨mi, Hi, p1, p2, p3, by omega, p5, ?_, p7, q3 gd⟩
        rw [p6, hdrop]
        show (if donG mi.s c v = true then _ else _) = _
        rw [if_neg gd]
      have hνν : ν' = ν := by
        obtain ⟨mi, Hi, -, -, -, -, -, -, -, e⟩ := bad H m hP
        exact e
      rw [hνν]
      exact hF ν i hν (fun H m hP => by
        obtain ⟨mi, Hi, p1, p2, p3, p4, p5, p6, p7, -⟩ := bad H m hP
        exact ⟨mi, Hi, p1, p2, p3, p4, p5, p6, p7⟩)
theorem xX8_carryOut (o : Nat) (μ : qMM) (ht : ∃ t, mS μ o = some (.inl (7, t))) (hp : PX8_carryOut o μ) : EX (SX8_carryOut (rti 0 0 (QX8_carryOut o μ)) (fun _ _ _ => False)) 0 [some (.ref o), none, none, none] [] [] μ (0, 0) := by
  obtain ⟨H, m, hP⟩ := hp
  obtain ⟨k1, k2, k3, k4, k5, k6⟩ := id hP.1
  obtain ⟨n, hn, hn1, hn5, htx⟩ := hP.2.2.2.2
  have t4 := tX4 k6.1
  have pr : PX4_readOrders (o + 1488) μ := ⟨k6, n, hn, hn1⟩
  simp only [eX8_carryOut_0, eX8_carryOut_1, eX8_carryOut_4, gX8_4, k1, t4, pr, List.length_nil, List.length_cons, ll0, ll1, ll2, ll3, ll4, Nat.le_refl, and_true, one0, eq_self, or_true, true_or, not_true_eq_false, not_false_eq_true, true_imp_iff, false_imp_iff, true_and, and_true, Classical.not_not]
  intro r μ0 q
  obtain ⟨q1, ⟨q2, q3, q4⟩, q5⟩ := q n hn hn1
  have tn : ∀ H m, HsP H μ o m → m.t = mI μ (o + 1489) ∧ (m.f 5).toNatClampNeg = n := fun H m hP => by
    obtain ⟨n', hn', hn1', hn5', htx'⟩ := hP.2.2.2.2
    have : n' = n := (nI_eq (by omega) (by omega)).mp (hn1'.symm.trans hn1)
    subst this
    exact ⟨htx'.symm, by rw [hn5', nI_clamp (by omega)]⟩
  have hb0 : ∀ b, b < o + 1488 → mI μ0 b = mI μ b := fun b hb => q3 b (by omega) (by omega) (by omega)
  have eT : mI μ (o + 1488 + 1) = mI μ (o + 1489) := rfl
  rw [eT] at q1 q5
  -- the same beside the script
  have up0 : ∀ H m m', HsP H μ o m → m'.f 3 = m.f 3 → m'.f 5 = m.f 5 → m'.s = m.s → m'.p = m.p → m'.t = m.t → HsQ H μ μ0 o m' := fun H m m' hP e3 e5 es ep et => by
    obtain ⟨z1, z2, z3, ⟨w, c, f3, g⟩, n', hn', h1', h5', ht'⟩ := hP
    refine ⟨q2, HsV_up (by omega) (HsV_id (m := m) e3 e5 es ep et ⟨⟨w, c, f3, HsG_scr g hb0⟩, n', hn', by rw [q4 1 (by decide)]; exact h1', h5', by rw [q3 (o + 1489) (by omega) (by omega) (by omega)]; exact ht'⟩), fun b b1 => q3 b (by omega) (by omega) (by omega)⟩
  cases hx : ordX (mI μ (o + 1489)) n 100 0 with
  | some e =>
    rw [hx] at q1
    have hne : ¬ r = -1 := by
      rw [q1]
      have he : e ≤ n + 3 := ordX_le 100 0 hx
      exact nI_m1 (by omega)
    simp only [eX8_carryOut_7, eX8_carryOut_8, eX8_carryOut_9, eX8_carryOut_10, eX8_carryOut_13, eX8_carryOut_15, eX8_carryOut_16, eX8_carryOut_17, rtv_at, rti_at, rtj_at, rtd_at, rta_at, qOk, qOkR, hne, qOk, List.length_nil, List.length_cons, ll0, ll1, ll2, ll3, ll4, Nat.le_refl, and_true, one0, eq_self, or_true, true_or, not_true_eq_false, not_false_eq_true, true_imp_iff, false_imp_iff, true_and, and_true, Classical.not_not]
    intro H m hP
    have ea : carryOutA m = (-10 - nI e, telM m) := by
      unfold carryOutA
      rw [(tn H m hP).1, (tn H m hP).2, hx]
    rw [ea, q1]
    exact ⟨rfl, up0 H m _ hP rfl rfl rfl rfl rfl⟩
  | none =>
    rw [hx] at q1
    have hr : r = -1 := q1
    subst hr
    have hOr := q5 hx
    generalize hL : ordL (mI μ (o + 1489)) n 100 0 = l at *
    have hll : l.length ≤ 50 := by
      have := ordL_len (t := mI μ (o + 1489)) (n := n) 100 0 (by omega)
      rw [hL] at this
      omega
    have hlet : ∀ x ∈ l, isNum x.1 ∨ isPla x.1 := fun x hx => ordL_let 100 0 x (by rw [hL]; exact hx)
    have ea : ∀ H m, HsP H μ o m → carryOutA m = carR (exeL l (holM (telM m)) 0) := fun H m hP => by
      unfold carryOutA
      rw [(tn H m hP).1, (tn H m hP).2, hx, hL]
    have k0 := HsS_Sm q2 hP.1
    have hN0 : mN μ0 = none := by rw [Sm_mN q2]; exact hP.2.1
    obtain ⟨-, -, hH, ⟨w, c, f3, g⟩, tx⟩ := id hP
    have g0 := HsG_scr g hb0
    obtain ⟨n1, n2, n3⟩ := next_P k0 hN0 g0
    have pn : PX8_nextPlace o μ0 := k0.1
    have t7 : ∃ t, mS μ0 o = some (Sum.inl (7, t)) := tX8 k0.1
    have t6 : ∃ t, mS μ0 (plN o w) = some (Sum.inl (5, t)) := tX6 (k0.2.2.2.2.1 _ n2).1
    unfold plN at t6 n3
    simp only [eX8_carryOut_7, eX8_carryOut_8, eX8_carryOut_9, eX8_carryOut_10, eX8_carryOut_18, eX8_carryOut_19, eX8_carryOut_22, eX8_carryOut_23, eX8_carryOut_26, eX8_carryOut_27, eX8_carryOut_28, eX8_carryOut_29, eX8_carryOut_30, eX8_carryOut_33, gX8_0, gX8_1, k0.1, k0.2.2.2.1, qAal_Pl, t7, pn, QX8_nextPlace, n1, vp5 n2, nIc (show (w + 1) % 5 < 500 by omega), t6, n3, qa2, List.length_nil, List.length_cons, ll0, ll1, ll2, ll3, ll4, Nat.le_refl, and_true, one0, eq_self, or_true, true_or, not_true_eq_false, not_false_eq_true, true_imp_iff, false_imp_iff, true_and, and_true, Classical.not_not]
    intro μ1 qc
    obtain ⟨c1, c2, c3⟩ := qc
    have S1 : Sm μ μ1 := Sm_trans q2 c1
    have gw : ∀ H m, HsP H μ o m → ∃ c : Nat, m.f 3 = nI c ∧ HsG H μ1 o m.s w c (sgP m.p) ∧ CsR μ1 (plN o w) m.s := fun H m hP => by
      obtain ⟨-, -, hH, ⟨w', c', f3', g'⟩, tx'⟩ := hP
      have : w' = w := (nI_eq (by have := g'.1.2.1; omega) (by have := g.1.2.1; omega)).mp (g'.1.1.symm.trans g.1.1)
      subst this
      have g0' := HsG_scr g' hb0
      exact ⟨c', f3', HsG_copy g0' c3, c2 _ H g0'.2.1.1 g0'.2.1.2.2⟩
    have hk1 := HsS_Sm S1 hP.1
    have hN1 : mN μ1 = none := by rw [Sm_mN S1]; exact hP.2.1
    have hSt1 : ∀ H m, HsP H μ o m → StP μ1 (o + 1) (o + 1007) H m.s := fun H m hP => by
      obtain ⟨c, -, g, -⟩ := gw H m hP
      exact StP_of hk1 hN1 g
    have hb1 : ∀ b, o + 1488 ≤ b → mI μ1 b = mI μ0 b := fun b hb => c3 b (by omega)
    have hOr1 : OrR μ1 (o + 1488) l := by
      obtain ⟨z1, z2⟩ := hOr
      refine ⟨by rw [hb1 _ (by omega)]; exact z1, fun i c v h => ?_⟩
      rw [hb1 _ (by omega), hb1 _ (by omega)]
      exact z2 i c v h
    have htx1 : ∀ ν, (∀ b, o + 1488 ≤ b → mI ν b = mI μ1 b) → ∀ H m m', HsP H μ o m → m'.f 5 = m.f 5 → m'.t = m.t → TxG ν o m' := fun ν hν H m m' hP e5 et => by
      obtain ⟨n', hn', h1', h5', ht'⟩ := hP.2.2.2.2
      exact ⟨n', hn', by rw [hν _ (by omega), hb1 _ (by omega), q4 1 (by decide)]; exact h1', by rw [e5]; exact h5', by rw [hν _ (by omega), hb1 _ (by omega), q3 (o + 1489) (by omega) (by omega) (by omega), et]; exact ht'⟩
    simp only [eX8_carryOut_36, eX8_carryOut_37]
    refine xX8_carryOut_l o ((w + 1) % 5) l μ μ1 H m hP hll hlet S1 _ hSt1 hOr1 _ _ (fun ν a hν hI h4 => ?_) (fun ν i hν hI => ?_) l.length 0 (Nat.zero_add _) μ1 S1 (fun H m hP => ?_)
    · obtain ⟨e1, e2, e3, e4, e5, e6⟩ := HsS_Sm hν hP.1
      have t7 : ∃ t, mS ν o = some (Sum.inl (7, t)) := tX8 e1
      have pk : PX8_keepNextPlace o ν := e1
      simp only [eX8_carryOut_97, eX8_carryOut_98, eX8_carryOut_101, eX8_carryOut_102, eX8_carryOut_105, eX8_carryOut_108, t7, pk, QX8_keepNextPlace, forall_eq, gX8_4, gX4_4, e1, e6.1, obX8_wR, obX4_wR, mI_wR_n (show o + 1488 ≠ o by omega), h4, rtv_at, rti_at, rtj_at, rtd_at, rta_at, qOk, qOkR, qOk, List.length_nil, List.length_cons, ll0, ll1, ll2, ll3, ll4, Nat.le_refl, and_true, one0, eq_self, or_true, true_or, not_true_eq_false, not_false_eq_true, true_imp_iff, false_imp_iff, true_and, and_true, Classical.not_not]
      intro H m hP
      obtain ⟨mi, Hi, p1, p2, p3, p4, p5, p6, b1, b2, b3, b4, b5⟩ := hI H m hP
      obtain ⟨c, f3, gg, gc⟩ := gw H m hP
      rw [ea H m hP, p6]
      show nI l.length = nI l.length ∧ HsQ H μ _ o (endM mi)
      have gop := HsG_op p1 gg p2 p3 p5
      have hpl : CsR ν (plN o w) m.s := CsR_mem (fun b z1 z2 => p1.2.2.2.1 b (by unfold plN at z1; omega) (by unfold plN at z1; omega)) gc
      have hlg : LgR ν (o + 1) m.s := LgR_keep gg.2.1.2.2.2.1 rfl (fun _ _ _ _ => rfl) (fun p hp => p1.2.2.2.2 p hp) gg.2.1.2.1
      have gk := HsG_keep gop hpl hlg (Iv_up p3 gg.2.1.2.2) p5 (fun i hi => (gg.2.2.1 i hi).2.2.2)
      refine ⟨rfl, Sm_wR hν, HsV_up (H := Hi) (by omega) (HsV_end (w := w) (m := m) (by rw [b1]; exact f3) gg.1.2.2.2 b4 (fun j hj => by rw [b5]; exact hol_d j hj) gk (htx1 _ (fun b hb => by rw [mI_wR_n (by omega), p1.2.2.2.1 b (by omega) (by omega)]) H m mi hP b2 b3)), fun b hb => ?_⟩
      rw [mI_wR_n (by omega), p1.2.2.2.1 b (by omega) (by omega), c3 b (by omega), q3 b (by omega) (by omega) (by omega)]
    · obtain ⟨e1, e2, e3, e4, e5, e6⟩ := HsS_Sm hν hP.1
      have t6 := tX6 e3.1
      have hpl : ∀ H m, HsP H μ o m → CsR ν (plN o w) m.s := fun H m hP => by
        obtain ⟨mi, Hi, p1, -⟩ := hI H m hP
        obtain ⟨c, f3, gg, gc⟩ := gw H m hP
        exact CsR_mem (fun b z1 z2 => p1.2.2.2.1 b (by unfold plN at z1; omega) (by unfold plN at z1; omega)) gc
      have pc : PX6_copyFrom (o + 1007) (o + 1088 + 80 * ((w + 1) % 5)) ν := ⟨⟨o + 1, e3, e5 _ n2⟩, by rw [Sm_mN hν]; exact hP.2.1, by omega, H, m.s, hpl H m hP, (HsP_cs hP).2.2⟩
      simp only [eX8_carryOut_77, eX8_carryOut_78, eX8_carryOut_81, eX8_carryOut_82, gX8_0, e1, t6, pc, List.length_nil, List.length_cons, ll0, ll1, ll2, ll3, ll4, Nat.le_refl, and_true, one0, eq_self, or_true, true_or, not_true_eq_false, not_false_eq_true, true_imp_iff, false_imp_iff, true_and, and_true, Classical.not_not]
      intro ξ qx
      obtain ⟨x1, x2, x3⟩ := qx
      simp only [eX8_carryOut_85, eX8_carryOut_88, eX8_carryOut_89, eX8_carryOut_90, rtv_at, rti_at, rtj_at, rtd_at, rta_at, qOk, qOkR, qOk, List.length_nil, List.length_cons, ll0, ll1, ll2, ll3, ll4, Nat.le_refl, and_true, one0, eq_self, or_true, true_or, not_true_eq_false, not_false_eq_true, true_imp_iff, false_imp_iff, true_and, and_true, Classical.not_not]
      intro H m hP
      obtain ⟨mi, Hi, p1, p2, p3, p4, p5, p6, b1, b2, b3, b4, b5⟩ := hI H m hP
      obtain ⟨c, f3, gg, gc⟩ := gw H m hP
      rw [ea H m hP, p6]
      show -1000 - nI i = -1000 - nI i ∧ HsQ H μ ξ o (resM mi)
      have hlg : LgR ξ (o + 1) m.s := LgR_keep gg.2.1.2.2.2.1 rfl (fun _ _ _ _ => rfl) (fun p hp => by
        have hp500 := (nOf_le gg.2.1.2.2).1
        rw [x3 (o + 1 + 2 + p) (by omega), x3 (o + 1 + 503 + p) (by omega), x3 (o + 1 + 1003) (by omega), x3 (o + 1 + 1004) (by omega), x3 (o + 1 + 1005) (by omega)]
        exact p1.2.2.2.2 p hp) gg.2.1.2.1
      have gop := HsG_op p1 gg p2 p3 p5
      have main : HsG Hi ξ o m.s w c (sgP m.p) := by
        obtain ⟨⟨z1, z2, z3, z4⟩, ⟨z5, z6, z7⟩, z8, z9⟩ := gop
        refine ⟨⟨by rw [x3 o (by omega)]; exact z1, z2, by rw [x3 o (by omega)]; exact z3, z4⟩, ⟨x2 _ Hi (hpl H m hP) (Iv_up p3 gg.2.1.2.2), hlg, Iv_up p3 gg.2.1.2.2⟩, fun j hj => ?_, z9⟩
        obtain ⟨y1, y2, y3, y4⟩ := z8 j hj
        exact ⟨CsR_mem (fun b w1 w2 => x3 b (by unfold plC at w1; omega)) y1, LgR_mem y3.2.1 (fun b w1 w2 => x3 b (by omega)) y2, y3, (gg.2.2.1 j hj).2.2.2⟩
      refine ⟨rfl, Sm_trans hν x1, ⟨⟨w, c, by show mi.f 3 = _; rw [b1]; exact f3, HsG_up (H := Hi) (by omega) (HsG_congr (fun j hj k hk => by show sgP mi.p j k = _; rw [b4]) (fun j hj => ?_) main)⟩, htx1 _ (fun b hb => by rw [x3 b (by omega), p1.2.2.2.1 b (by omega) (by omega)]) H m _ hP b2 b3⟩, fun b hb => ?_⟩
      · show va_cpy mi.d mi.s 0 0 5514 j = _
        rw [cpyE, if_pos (by omega), show 0 + (j - 0) = j by omega, b5]
        exact hol_d j hj
      · rw [x3 b (by omega), p1.2.2.2.1 b (by omega) (by omega), c3 b (by omega), q3 b (by omega) (by omega) (by omega)]
    · exact ⟨holM (telM m), H, StQ_refl (hSt1 H m hP), (HsP_cs hP).2.2, Nat.le_refl _, by omega, Nat.le_refl _, rfl, rfl, rfl, rfl, rfl, rfl⟩
