/-! ===== body: the check of all answers (by program: wip/p35/gen/isso.py) ===== -/
theorem dcm_s {x : UInt64} (h : vf_n64 x) : Op.cmpValue (FP.dcmp x x) .l = 0 := Jvm.RoadKit.dcmpV_self h .l
theorem cou_e {x : Int32} : ∀ m, (countA m x).2 = telM m ∨ ∃ k, (countA m x).2 = faiM m k := fun m => by
  unfold countA
  by_cases h : inR x 0 7
  · rw [if_pos h]; exact Or.inl rfl
  · rw [if_neg h]; exact Or.inr ⟨1, rfl⟩
theorem wai_e {x y : Int32} : ∀ m, (waitingAtA m x y).2 = telM m ∨ ∃ k, (waitingAtA m x y).2 = faiM m k := fun m => by
  unfold waitingAtA
  by_cases h : inL m.s (lnk x) y
  · rw [if_pos h]; exact Or.inl rfl
  · rw [if_neg h]; exact Or.inr ⟨1, rfl⟩
theorem rec_e {x y : Int32} : ∀ m, (recordA m x y).2 = telM m ∨ ∃ k, (recordA m x y).2 = faiM m k := fun m => by
  unfold recordA
  by_cases h : inR x 0 999 ∧ inR y 0 5
  · rw [if_pos h]; exact Or.inl rfl
  · rw [if_neg h]; exact Or.inr ⟨1, rfl⟩
theorem sen_e {x y : Int32} : ∀ m, (sentA m x y).2 = telM m ∨ ∃ k, (sentA m x y).2 = faiM m k := fun m => by
  unfold sentA
  by_cases h : inR x 0 (m.s 9 - 1)
  · rw [if_pos h]
    by_cases h2 : inR y 0 7
    · rw [if_pos h2]; exact Or.inl rfl
    · rw [if_neg h2]; exact Or.inr ⟨2, rfl⟩
  · rw [if_neg h]; exact Or.inr ⟨1, rfl⟩
theorem fie_e {x : Int32} : ∀ m, (fieldA m x).2 = telM m ∨ ∃ k, (fieldA m x).2 = faiM m k := fun m => by
  unfold fieldA
  by_cases h : inR x 0 3
  · rw [if_pos h]; exact Or.inl rfl
  · rw [if_neg h]; exact Or.inr ⟨1, rfl⟩
theorem num_e {x : Int32} : ∀ m, (numberForA m x).2 = telM m ∨ ∃ k, (numberForA m x).2 = faiM m k := fun m => by
  unfold numberForA
  by_cases h : inR x 0 63
  · rw [if_pos h]; exact Or.inl rfl
  · rw [if_neg h]; exact Or.inr ⟨1, rfl⟩
theorem inR_N {x b : Nat} (h : x ≤ b) (hb : b < 2 ^ 31) : inR (nI x) 0 (nI b) := ⟨nI_pos' (by omega), nI_le h hb⟩
theorem low_N (v : Int32) {n : Nat} (h : 0 < n) (hn : n < 2 ^ 31) : ∃ j : Nat, j < n ∧ lowF v (nI n) = nI j := by
  obtain ⟨q, hq, e⟩ := pk_andE v (m := 2147483647) 31 (by decide)
  refine ⟨q % n, Nat.mod_lt _ h, ?_⟩
  unfold lowF
  rw [e, pk_rem (by omega) h hn]
/-- how many wait in a link -/
def nOfL (s : Nat → Int32) (k : Nat) : Nat := (s k).toNatClampNeg
theorem is7 {R : Option Value → qMM → Nat × Nat → Prop} {X : String → qMM → Nat × Nat → Prop} {μ0 : qMM} {H x : Nat} {m : Mod} {I : Nat → Nat → Int32} {J : Nat → Nat → Int64} {now : Int64} {z : Int32} (kk : LwR I J m.s now) (iv : Iv H m.s) {ν : qMM} (hν : SoW μ0 H x m I J ν) {c : Nat} (hc : c + 3 ≤ 700) (hR : ∀ ν c, SoW μ0 H x m I J ν → c ≤ 700 → R (some (.int 1)) (lm ν (x + 1492) I J) (c, 6 * c)) {l14 l15 l16 : Option Value} : EX (SL_isSo R X) 664 [some (.ref x), some (.ref (x + 1492)), some (.ref (x + 1492 + 1)), some (.ref (x + 1492 + 3)), none, none, some (.ref (x + 1492 + 4)), some (.ref (x + 1492 + 5)), some (.ref (x + 1492 + 6)), some (.ref (x + 1492 + 7)), some (.ref (x + 1492 + 8)), some (.int z), some (.int (1)), some (.int (manyL m.s 64)), l14, l15, l16] [none, none, none, none, some (.long now), none, none, none, none, none, none, none, none, none, none, none, none] [] (lm ν (x + 1492) I J) (c, 6 * c) := by
  simp only [eL_isSo_664, eL_isSo_666, eL_isSo_669, one0, one0, eq_self, or_true, true_or, not_true_eq_false, not_false_eq_true, true_imp_iff, false_imp_iff, true_and, and_true, Classical.not_not]
  rw [eL_isSo_670]
  refine ⟨by simp, by omega, by omega, sw_t hν, sw_P hν, fun r μ' q => ?_⟩
  obtain ⟨ν1, rfl, rfl, h1⟩ := sw_tel (A := recordsA) hν q (fun _ => rfl)
  have e1 : (recordsA m).1 = manyL m.s 64 := rfl
  obtain ⟨j, hj, ej⟩ := low_N z (n := 64) (by decide) (by decide)
  have e64 : (64 : Int32) = nI 64 := rfl
  have z64 : ¬ (64 : Int32) = 0 := by decide
  rw [← e64] at ej
  simp only [eL_isSo_673, eL_isSo_675, eL_isSo_678, eL_isSo_679, eL_isSo_681, eL_isSo_683, e1, PL_low, QL_low, z64, fEq, ej, List.length_nil, List.length_cons, ll0, ll1, ll2, ll3, ll4, Nat.le_refl, and_true, Nat.add_zero, (show c ≤ 700 by omega), (show 6 * c ≤ 4200 by omega), one0, eq_self, or_true, true_or, not_true_eq_false, not_false_eq_true, true_imp_iff, false_imp_iff, true_and, and_true, Classical.not_not]
  rw [eL_isSo_686]
  refine ⟨by simp, by omega, by omega, sw_P h1, fun r μ' q => ?_⟩
  have a2 : inR (nI j) 0 63 := inR_N (b := 63) (by omega) (by decide)
  obtain ⟨ν2, rfl, rfl, h2⟩ := sw_hl (A := fun m => numberForA m (nI j)) h1 q num_e (by unfold numberForA; rw [if_pos a2])
  have e2 : (numberForA m (nI j)).1 = numF m.s (nI j) := by unfold numberForA; rw [if_pos a2]
  obtain ⟨s0, s1, s2, s3, s4, s5, s6, s7, s8⟩ : LaS ν2 (x + 1492) := h2.1.2
  have pn : PL_numberFor (x + 1492) (nI j) (lm ν2 (x + 1492) I J) := s0
  have en : nuF (I 0) (nI j) = numF m.s (nI j) := by
    unfold nuF numF
    rw [kk.2.1.2.2.2.2.2.2.2.2 10 (by decide) (by decide), kk.2.1.2.2.2.2.2.1]
  have f0 : I 4 0 = m.s 10 := kk.2.2.2.1.1
  simp only [eL_isSo_689, eL_isSo_690, eL_isSo_692, eL_isSo_700, eL_isSo_703, eL_isSo_704, eL_isSo_705, eL_isSo_707, eL_isSo_708, eL_isSo_694, eL_isSo_697, e2, en, pn, PL_low, QL_low, QL_numberFor, z64, fEq, ej, f0, mI_lm0, mI_lm, mJ_lm, wR_lm, wR_lm0, wL_lm, qArr_lm, l19, l29, l39, l49, l59, l69, l79, l89, wI_def, up2_at, up2_2, pk_us, j10, j20, j21, j30, j31, j32, j40, j41, j42, j43, j50, j51, j52, j53, j54, j60, j70, j71, j80, j01, j02, j03, j04, j05, j06, j07, j08, j12, j13, j14, j15, j23, j24, j25, j34, j35, j45, j56, j57, j58, j65, j67, j68, j75, j76, j78, j85, j86, j87, ite_false_, ite_true_, qA_iA s4, v0 (show 0 < 22 by decide), ci0, List.length_nil, List.length_cons, ll0, ll1, ll2, ll3, ll4, Nat.le_refl, and_true, Nat.add_zero, (show c + 1 ≤ 700 by omega), (show 6 * c + 6 ≤ 4200 by omega), one0, eq_self, or_true, true_or, not_true_eq_false, not_false_eq_true, true_imp_iff, false_imp_iff, true_and, and_true, Classical.not_not]
  rw [eL_isSo_709]
  refine ⟨by simp, by omega, by omega, sw_P h2, fun r μ' q => ?_⟩
  obtain ⟨f, hf, h10⟩ := (Iv_n iv).2
  have nf : ¬ inL m.s (lnk 0) (m.s 10) := fun q => by
    have q2 : m.s 10 ≤ m.s 10 - 1 := q.2
    rw [h10, Int32.le_iff_toInt_le, show (1 : Int32) = nI 1 from rfl, pk_sub_toInt (by omega) (by omega), nI_toInt (by omega)] at q2
    omega
  obtain ⟨rfl, rfl⟩ := so_f1 (A := fun m' => waitingAtA m' 0 (m.s 10)) h2.1 q (by
    show (waitingAtA m 0 (m.s 10)).2.f 6 = 1
    unfold waitingAtA
    rw [if_neg nf]
    exact fai6)
  simp only [eL_isSo_712, eL_isSo_714, eL_isSo_717, eL_isSo_718, eL_isSo_719, one0, eq_self, or_true, true_or, not_true_eq_false, not_false_eq_true, true_imp_iff, false_imp_iff, true_and, and_true, Classical.not_not]
  rw [eL_isSo_720]
  refine ⟨by simp, by omega, by omega, sw_P h2, fun r μ' q => ?_⟩
  have nb : ¬ inL m.s (lnk 1) (-1) := fun q => absurd q.1 (by decide)
  obtain ⟨rfl, rfl⟩ := so_f1 (A := fun m' => waitingAtA m' 1 (-1)) h2.1 q (by
    show (waitingAtA m 1 (-1)).2.f 6 = 1
    unfold waitingAtA
    rw [if_neg nb]
    exact fai6)
  simp only [eL_isSo_723, eL_isSo_725, eL_isSo_728, eL_isSo_729, eL_isSo_732, eL_isSo_733, qOk, one0, eq_self, or_true, true_or, not_true_eq_false, not_false_eq_true, true_imp_iff, false_imp_iff, true_and, and_true, Classical.not_not]
  exact hR ν2 (c + 3) h2 (by omega)
theorem is6 {R : Option Value → qMM → Nat × Nat → Prop} {X : String → qMM → Nat × Nat → Prop} {μ0 : qMM} {H x : Nat} {m : Mod} {I : Nat → Nat → Int32} {J : Nat → Nat → Int64} {now : Int64} {z : Int32} (kk : LwR I J m.s now) (iv : Iv H m.s) {C : Nat} (hC : C + 4 ≤ 700) {l13 l14 l16 : Option Value} (hK : ∀ ν c l15, SoW μ0 H x m I J ν → c ≤ C + 4 → EX (SL_isSo R X) 664 [some (.ref x), some (.ref (x + 1492)), some (.ref (x + 1492 + 1)), some (.ref (x + 1492 + 3)), none, none, some (.ref (x + 1492 + 4)), some (.ref (x + 1492 + 5)), some (.ref (x + 1492 + 6)), some (.ref (x + 1492 + 7)), some (.ref (x + 1492 + 8)), some (.int z), some (.int (1)), l13, l14, l15, l16] [none, none, none, none, some (.long now), none, none, none, none, none, none, none, none, none, none, none, none] [] (lm ν (x + 1492) I J) (c, 6 * c)) : ∀ k j c ν, j + k = 4 → c ≤ C + j → SoW μ0 H x m I J ν → EX (SL_isSo R X) 624 [some (.ref x), some (.ref (x + 1492)), some (.ref (x + 1492 + 1)), some (.ref (x + 1492 + 3)), none, none, some (.ref (x + 1492 + 4)), some (.ref (x + 1492 + 5)), some (.ref (x + 1492 + 6)), some (.ref (x + 1492 + 7)), some (.ref (x + 1492 + 8)), some (.int z), some (.int (1)), l13, l14, some (.int (nI j)), l16] [none, none, none, none, some (.long now), none, none, none, none, none, none, none, none, none, none, none, none] [] (lm ν (x + 1492) I J) (c, 6 * c) := by
  intro k
  have e4 : (4 : Int32) = nI 4 := rfl
  have pts := Hd_pt kk.1
  induction k with
  | zero =>
    intro j c ν hj hc hν
    have : j = 4 := by omega
    subst this
    rw [eL_isSo_624]
    simp only [eL_isSo_626, eL_isSo_627]
    refine ⟨fun _ => hK ν c _ hν hc, fun h => absurd (Int32.le_refl _) h⟩
  | succ k ih =>
    intro j c ν hj hc hν
    have lt : ¬ (4 : Int32) ≤ nI j := by rw [e4]; exact nI_ge (by omega) (by omega)
    rw [eL_isSo_624]
    simp only [eL_isSo_626, eL_isSo_627]
    refine ⟨fun h => absurd h lt, fun _ => ?_⟩
    simp only [eL_isSo_630, eL_isSo_632, eL_isSo_635, eL_isSo_636, one0, one0, eq_self, or_true, true_or, not_true_eq_false, not_false_eq_true, true_imp_iff, false_imp_iff, true_and, and_true, Classical.not_not]
    rw [eL_isSo_638]
    refine ⟨by simp, by omega, by omega, sw_P hν, fun r μ' q => ?_⟩
    have a1 : inR (nI j) 0 3 := inR_N (b := 3) (by omega) (by decide)
    obtain ⟨ν1, rfl, rfl, h1⟩ := sw_hl (A := fun m => fieldA m (nI j)) hν q fie_e (by unfold fieldA; rw [if_pos a1])
    have e1 : (fieldA m (nI j)).1 = m.s j := by unfold fieldA; rw [if_pos a1, nI_clamp (by omega)]
    have ep : ptF now (nI j) = m.s j := by
      rcases (by omega : j = 0 ∨ j = 1 ∨ j = 2 ∨ j = 3) with rfl | rfl | rfl | rfl
      · exact pts.1
      · exact pts.2.1
      · exact pts.2.2.1
      · exact pts.2.2.2
    simp only [eL_isSo_641, eL_isSo_643, eL_isSo_648, eL_isSo_651, eL_isSo_652, eL_isSo_655, eL_isSo_656, eL_isSo_658, eL_isSo_661, eL_isSo_645, e1, PL_part, QL_part, fEq, ep, nI_1, List.length_nil, List.length_cons, ll0, ll1, ll2, ll3, ll4, Nat.le_refl, and_true, Nat.add_zero, (show c + 1 ≤ 700 by omega), (show 6 * c + 6 ≤ 4200 by omega), one0, eq_self, or_true, true_or, not_true_eq_false, not_false_eq_true, true_imp_iff, false_imp_iff, true_and, and_true, Classical.not_not]
    exact ih (j + 1) (c + 1) ν1 (by omega) (by omega) h1
theorem is5_l {R : Option Value → qMM → Nat × Nat → Prop} {X : String → qMM → Nat × Nat → Prop} {μ0 : qMM} {H x : Nat} {m : Mod} {I : Nat → Nat → Int32} {J : Nat → Nat → Int64} {now : Int64} {z : Int32} (kk : LwR I J m.s now) (iv : Iv H m.s) {C n : Nat} (hC : C + 8 ≤ 700) (hn : n < nOf m.s) {l13 l16 : Option Value} (hK : ∀ ν c l15, SoW μ0 H x m I J ν → c ≤ C + 8 → EX (SL_isSo R X) 621 [some (.ref x), some (.ref (x + 1492)), some (.ref (x + 1492 + 1)), some (.ref (x + 1492 + 3)), none, none, some (.ref (x + 1492 + 4)), some (.ref (x + 1492 + 5)), some (.ref (x + 1492 + 6)), some (.ref (x + 1492 + 7)), some (.ref (x + 1492 + 8)), some (.int z), some (.int (1)), l13, some (.int (nI n)), l15, l16] [none, none, none, none, some (.long now), none, none, none, none, none, none, none, none, none, none, none, none] [] (lm ν (x + 1492) I J) (c, 6 * c)) : ∀ k j c ν, j + k = 8 → c ≤ C + j → SoW μ0 H x m I J ν → EX (SL_isSo R X) 496 [some (.ref x), some (.ref (x + 1492)), some (.ref (x + 1492 + 1)), some (.ref (x + 1492 + 3)), none, none, some (.ref (x + 1492 + 4)), some (.ref (x + 1492 + 5)), some (.ref (x + 1492 + 6)), some (.ref (x + 1492 + 7)), some (.ref (x + 1492 + 8)), some (.int z), some (.int (1)), l13, some (.int (nI n)), some (.int (nI j)), l16] [none, none, none, none, some (.long now), none, none, none, none, none, none, none, none, none, none, none, none] [] (lm ν (x + 1492) I J) (c, 6 * c) := by
  intro k
  have e8 : (8 : Int32) = nI 8 := rfl
  obtain ⟨hd, -, hif⟩ := kk.2.2.1 n hn
  obtain ⟨p0, p1, p2, p3⟩ := Hd_pt hd
  obtain ⟨i1, i2, i3, i4⟩ := IfR_at hif
  unfold remF at i1 i2 i3
  have h63 := kk.2.2.2.2.2.2
  have h9 := (Iv_n iv).1
  have g0 : I 0 0 = nI (nOf m.s) := kk.2.1.1.trans h9
  have cn : (nI n).toNatClampNeg = n := nI_clamp (by omega)
  have vn : vp_in (nI n) 64 := vpn (by omega) (by decide)
  induction k with
  | zero =>
    intro j c ν hj hc hν
    have : j = 8 := by omega
    subst this
    rw [eL_isSo_496]
    simp only [eL_isSo_498, eL_isSo_500]
    refine ⟨fun _ => hK ν c _ hν hc, fun h => absurd (Int32.le_refl _) h⟩
  | succ k ih =>
    intro j c ν hj hc hν
    obtain ⟨s0, s1, s2, s3, s4, s5, s6, s7, s8⟩ : LaS ν (x + 1492) := hν.1.2
    have lt : ¬ (8 : Int32) ≤ nI j := by rw [e8]; exact nI_ge (by omega) (by omega)
    rw [eL_isSo_496]
    simp only [eL_isSo_498, eL_isSo_500]
    refine ⟨fun h => absurd h lt, fun _ => ?_⟩
    have gp : ¬ nI (nOf m.s) ≤ 0 := nI_nle (by omega) (by omega)
    simp only [eL_isSo_503, eL_isSo_504, eL_isSo_505, eL_isSo_506, eL_isSo_509, eL_isSo_511, eL_isSo_514, eL_isSo_515, eL_isSo_517, mI_lm0, mI_lm, mJ_lm, wR_lm, wR_lm0, wL_lm, qArr_lm, l19, l29, l39, l49, l59, l69, l79, l89, wI_def, up2_at, up2_2, pk_us, j10, j20, j21, j30, j31, j32, j40, j41, j42, j43, j50, j51, j52, j53, j54, j60, j70, j71, j80, j01, j02, j03, j04, j05, j06, j07, j08, j12, j13, j14, j15, j23, j24, j25, j34, j35, j45, j56, j57, j58, j65, j67, j68, j75, j76, j78, j85, j86, j87, ite_false_, ite_true_, qA_iA s0, v0 (show 0 < 21 by decide), ci0, g0, gp, one0, one0, eq_self, or_true, true_or, not_true_eq_false, not_false_eq_true, true_imp_iff, false_imp_iff, true_and, and_true, Classical.not_not]
    rw [eL_isSo_519]
    refine ⟨by simp, by omega, by omega, sw_P hν, fun r μ' q => ?_⟩
    have a1 : inR (nI n) 0 (m.s 9 - 1) := ⟨nI_pos' (by omega), by
      rw [h9, show (1 : Int32) = nI 1 from rfl, pk_sub (by omega)]
      exact nI_le (by omega) (by omega)⟩
    have a2 : inR (nI j) 0 7 := inR_N (b := 7) (by omega) (by decide)
    obtain ⟨ν1, rfl, rfl, h1⟩ := sw_hl (A := fun m => sentA m (nI n) (nI j)) hν q sen_e (by unfold sentA; rw [if_pos a1, if_pos a2])
    have e1 : (sentA m (nI n) (nI j)).1 = m.s (514 + 10 * n + (if j < 4 then j else j + 2)) := by
      unfold sentA
      rw [if_pos a1, if_pos a2]
      show tolF m.s _ _ = _
      unfold tolF
      rw [cn, nI_clamp (by omega)]
    have go := ih (j + 1) (c + 1) ν1 (by omega) (by omega) h1
    obtain ⟨s0, s1, s2, s3, s4, s5, s6, s7, s8⟩ : LaS ν1 (x + 1492) := h1.1.2
    have z1 : ¬ (10000 : Int32) = 0 := by decide
    have z2 : ¬ (4 : Int32) = 0 := by decide
    have z3 : ¬ (1000 : Int32) = 0 := by decide
    have z4 : ¬ (10 : Int32) = 0 := by decide
    rw [e1]
    rcases (by omega : j = 0 ∨ j = 1 ∨ j = 2 ∨ j = 3 ∨ j = 4 ∨ j = 5 ∨ j = 6 ∨ j = 7) with rfl | rfl | rfl | rfl | rfl | rfl | rfl | rfl
    · rw [show (if 0 < 4 then 0 else 0 + 2) = 0 from rfl]
      have ep : ptF (J 1 n) (nI 0) = m.s (514 + 10 * n + 0) := p0
      simp only [eL_isSo_522, eL_isSo_524, eL_isSo_525, eL_isSo_528, eL_isSo_529, eL_isSo_531, eL_isSo_532, eL_isSo_537, eL_isSo_540, eL_isSo_542, eL_isSo_543, eL_isSo_546, eL_isSo_547, eL_isSo_549, eL_isSo_550, eL_isSo_553, eL_isSo_554, eL_isSo_557, eL_isSo_559, eL_isSo_560, eL_isSo_563, eL_isSo_564, eL_isSo_566, eL_isSo_567, eL_isSo_568, eL_isSo_569, eL_isSo_572, eL_isSo_574, eL_isSo_576, eL_isSo_579, eL_isSo_580, eL_isSo_582, eL_isSo_583, eL_isSo_586, eL_isSo_587, eL_isSo_588, eL_isSo_589, eL_isSo_590, eL_isSo_591, eL_isSo_594, eL_isSo_595, eL_isSo_597, eL_isSo_598, eL_isSo_601, eL_isSo_602, eL_isSo_604, eL_isSo_605, eL_isSo_608, eL_isSo_609, eL_isSo_612, eL_isSo_613, eL_isSo_615, eL_isSo_618, eL_isSo_534, PL_part, QL_part, fEq, ep, (show ¬ (4 : Int32) ≤ nI 0 by decide), vn, cn, qA_jA s1, mI_lm0, mI_lm, mJ_lm, wR_lm, wR_lm0, wL_lm, qArr_lm, l19, l29, l39, l49, l59, l69, l79, l89, wI_def, up2_at, up2_2, pk_us, j10, j20, j21, j30, j31, j32, j40, j41, j42, j43, j50, j51, j52, j53, j54, j60, j70, j71, j80, j01, j02, j03, j04, j05, j06, j07, j08, j12, j13, j14, j15, j23, j24, j25, j34, j35, j45, j56, j57, j58, j65, j67, j68, j75, j76, j78, j85, j86, j87, ite_false_, ite_true_, nI_1, List.length_nil, List.length_cons, ll0, ll1, ll2, ll3, ll4, Nat.le_refl, and_true, Nat.add_zero, (show c + 1 ≤ 700 by omega), (show 6 * c + 6 ≤ 4200 by omega), one0, eq_self, or_true, true_or, not_true_eq_false, not_false_eq_true, true_imp_iff, false_imp_iff, true_and, and_true, Classical.not_not]
      exact go
    · rw [show (if 1 < 4 then 1 else 1 + 2) = 1 from rfl]
      have ep : ptF (J 1 n) (nI 1) = m.s (514 + 10 * n + 1) := p1
      simp only [eL_isSo_522, eL_isSo_524, eL_isSo_525, eL_isSo_528, eL_isSo_529, eL_isSo_531, eL_isSo_532, eL_isSo_537, eL_isSo_540, eL_isSo_542, eL_isSo_543, eL_isSo_546, eL_isSo_547, eL_isSo_549, eL_isSo_550, eL_isSo_553, eL_isSo_554, eL_isSo_557, eL_isSo_559, eL_isSo_560, eL_isSo_563, eL_isSo_564, eL_isSo_566, eL_isSo_567, eL_isSo_568, eL_isSo_569, eL_isSo_572, eL_isSo_574, eL_isSo_576, eL_isSo_579, eL_isSo_580, eL_isSo_582, eL_isSo_583, eL_isSo_586, eL_isSo_587, eL_isSo_588, eL_isSo_589, eL_isSo_590, eL_isSo_591, eL_isSo_594, eL_isSo_595, eL_isSo_597, eL_isSo_598, eL_isSo_601, eL_isSo_602, eL_isSo_604, eL_isSo_605, eL_isSo_608, eL_isSo_609, eL_isSo_612, eL_isSo_613, eL_isSo_615, eL_isSo_618, eL_isSo_534, PL_part, QL_part, fEq, ep, (show ¬ (4 : Int32) ≤ nI 1 by decide), vn, cn, qA_jA s1, mI_lm0, mI_lm, mJ_lm, wR_lm, wR_lm0, wL_lm, qArr_lm, l19, l29, l39, l49, l59, l69, l79, l89, wI_def, up2_at, up2_2, pk_us, j10, j20, j21, j30, j31, j32, j40, j41, j42, j43, j50, j51, j52, j53, j54, j60, j70, j71, j80, j01, j02, j03, j04, j05, j06, j07, j08, j12, j13, j14, j15, j23, j24, j25, j34, j35, j45, j56, j57, j58, j65, j67, j68, j75, j76, j78, j85, j86, j87, ite_false_, ite_true_, nI_1, List.length_nil, List.length_cons, ll0, ll1, ll2, ll3, ll4, Nat.le_refl, and_true, Nat.add_zero, (show c + 1 ≤ 700 by omega), (show 6 * c + 6 ≤ 4200 by omega), one0, eq_self, or_true, true_or, not_true_eq_false, not_false_eq_true, true_imp_iff, false_imp_iff, true_and, and_true, Classical.not_not]
      exact go
    · rw [show (if 2 < 4 then 2 else 2 + 2) = 2 from rfl]
      have ep : ptF (J 1 n) (nI 2) = m.s (514 + 10 * n + 2) := p2
      simp only [eL_isSo_522, eL_isSo_524, eL_isSo_525, eL_isSo_528, eL_isSo_529, eL_isSo_531, eL_isSo_532, eL_isSo_537, eL_isSo_540, eL_isSo_542, eL_isSo_543, eL_isSo_546, eL_isSo_547, eL_isSo_549, eL_isSo_550, eL_isSo_553, eL_isSo_554, eL_isSo_557, eL_isSo_559, eL_isSo_560, eL_isSo_563, eL_isSo_564, eL_isSo_566, eL_isSo_567, eL_isSo_568, eL_isSo_569, eL_isSo_572, eL_isSo_574, eL_isSo_576, eL_isSo_579, eL_isSo_580, eL_isSo_582, eL_isSo_583, eL_isSo_586, eL_isSo_587, eL_isSo_588, eL_isSo_589, eL_isSo_590, eL_isSo_591, eL_isSo_594, eL_isSo_595, eL_isSo_597, eL_isSo_598, eL_isSo_601, eL_isSo_602, eL_isSo_604, eL_isSo_605, eL_isSo_608, eL_isSo_609, eL_isSo_612, eL_isSo_613, eL_isSo_615, eL_isSo_618, eL_isSo_534, PL_part, QL_part, fEq, ep, (show ¬ (4 : Int32) ≤ nI 2 by decide), vn, cn, qA_jA s1, mI_lm0, mI_lm, mJ_lm, wR_lm, wR_lm0, wL_lm, qArr_lm, l19, l29, l39, l49, l59, l69, l79, l89, wI_def, up2_at, up2_2, pk_us, j10, j20, j21, j30, j31, j32, j40, j41, j42, j43, j50, j51, j52, j53, j54, j60, j70, j71, j80, j01, j02, j03, j04, j05, j06, j07, j08, j12, j13, j14, j15, j23, j24, j25, j34, j35, j45, j56, j57, j58, j65, j67, j68, j75, j76, j78, j85, j86, j87, ite_false_, ite_true_, nI_1, List.length_nil, List.length_cons, ll0, ll1, ll2, ll3, ll4, Nat.le_refl, and_true, Nat.add_zero, (show c + 1 ≤ 700 by omega), (show 6 * c + 6 ≤ 4200 by omega), one0, eq_self, or_true, true_or, not_true_eq_false, not_false_eq_true, true_imp_iff, false_imp_iff, true_and, and_true, Classical.not_not]
      exact go
    · rw [show (if 3 < 4 then 3 else 3 + 2) = 3 from rfl]
      have ep : ptF (J 1 n) (nI 3) = m.s (514 + 10 * n + 3) := p3
      simp only [eL_isSo_522, eL_isSo_524, eL_isSo_525, eL_isSo_528, eL_isSo_529, eL_isSo_531, eL_isSo_532, eL_isSo_537, eL_isSo_540, eL_isSo_542, eL_isSo_543, eL_isSo_546, eL_isSo_547, eL_isSo_549, eL_isSo_550, eL_isSo_553, eL_isSo_554, eL_isSo_557, eL_isSo_559, eL_isSo_560, eL_isSo_563, eL_isSo_564, eL_isSo_566, eL_isSo_567, eL_isSo_568, eL_isSo_569, eL_isSo_572, eL_isSo_574, eL_isSo_576, eL_isSo_579, eL_isSo_580, eL_isSo_582, eL_isSo_583, eL_isSo_586, eL_isSo_587, eL_isSo_588, eL_isSo_589, eL_isSo_590, eL_isSo_591, eL_isSo_594, eL_isSo_595, eL_isSo_597, eL_isSo_598, eL_isSo_601, eL_isSo_602, eL_isSo_604, eL_isSo_605, eL_isSo_608, eL_isSo_609, eL_isSo_612, eL_isSo_613, eL_isSo_615, eL_isSo_618, eL_isSo_534, PL_part, QL_part, fEq, ep, (show ¬ (4 : Int32) ≤ nI 3 by decide), vn, cn, qA_jA s1, mI_lm0, mI_lm, mJ_lm, wR_lm, wR_lm0, wL_lm, qArr_lm, l19, l29, l39, l49, l59, l69, l79, l89, wI_def, up2_at, up2_2, pk_us, j10, j20, j21, j30, j31, j32, j40, j41, j42, j43, j50, j51, j52, j53, j54, j60, j70, j71, j80, j01, j02, j03, j04, j05, j06, j07, j08, j12, j13, j14, j15, j23, j24, j25, j34, j35, j45, j56, j57, j58, j65, j67, j68, j75, j76, j78, j85, j86, j87, ite_false_, ite_true_, nI_1, List.length_nil, List.length_cons, ll0, ll1, ll2, ll3, ll4, Nat.le_refl, and_true, Nat.add_zero, (show c + 1 ≤ 700 by omega), (show 6 * c + 6 ≤ 4200 by omega), one0, eq_self, or_true, true_or, not_true_eq_false, not_false_eq_true, true_imp_iff, false_imp_iff, true_and, and_true, Classical.not_not]
      exact go
    · rw [show (if 4 < 4 then 4 else 4 + 2) = 6 from rfl]
      simp only [eL_isSo_522, eL_isSo_524, eL_isSo_525, eL_isSo_528, eL_isSo_529, eL_isSo_531, eL_isSo_532, eL_isSo_537, eL_isSo_540, eL_isSo_542, eL_isSo_543, eL_isSo_546, eL_isSo_547, eL_isSo_549, eL_isSo_550, eL_isSo_553, eL_isSo_554, eL_isSo_557, eL_isSo_559, eL_isSo_560, eL_isSo_563, eL_isSo_564, eL_isSo_566, eL_isSo_567, eL_isSo_568, eL_isSo_569, eL_isSo_572, eL_isSo_574, eL_isSo_576, eL_isSo_579, eL_isSo_580, eL_isSo_582, eL_isSo_583, eL_isSo_586, eL_isSo_587, eL_isSo_588, eL_isSo_589, eL_isSo_590, eL_isSo_591, eL_isSo_594, eL_isSo_595, eL_isSo_597, eL_isSo_598, eL_isSo_601, eL_isSo_602, eL_isSo_604, eL_isSo_605, eL_isSo_608, eL_isSo_609, eL_isSo_612, eL_isSo_613, eL_isSo_615, eL_isSo_618, i4, (show nI 4 = 4 by decide), (show (4 : Int32) ≤ 4 by decide), (show ¬ (4 : Int32) = 5 by decide), (show ¬ (4 : Int32) = 6 by decide), (show (4 : Int32) + 1 = nI (4 + 1) by decide), z1, z2, z3, z4, vn, cn, qA_iA s3, mI_lm0, mI_lm, mJ_lm, wR_lm, wR_lm0, wL_lm, qArr_lm, l19, l29, l39, l49, l59, l69, l79, l89, wI_def, up2_at, up2_2, pk_us, j10, j20, j21, j30, j31, j32, j40, j41, j42, j43, j50, j51, j52, j53, j54, j60, j70, j71, j80, j01, j02, j03, j04, j05, j06, j07, j08, j12, j13, j14, j15, j23, j24, j25, j34, j35, j45, j56, j57, j58, j65, j67, j68, j75, j76, j78, j85, j86, j87, ite_false_, ite_true_, one0, eq_self, or_true, true_or, not_true_eq_false, not_false_eq_true, true_imp_iff, false_imp_iff, true_and, and_true, Classical.not_not]
      exact go
    · rw [show (if 5 < 4 then 5 else 5 + 2) = 7 from rfl]
      simp only [eL_isSo_522, eL_isSo_524, eL_isSo_525, eL_isSo_528, eL_isSo_529, eL_isSo_531, eL_isSo_532, eL_isSo_537, eL_isSo_540, eL_isSo_542, eL_isSo_543, eL_isSo_546, eL_isSo_547, eL_isSo_549, eL_isSo_550, eL_isSo_553, eL_isSo_554, eL_isSo_557, eL_isSo_559, eL_isSo_560, eL_isSo_563, eL_isSo_564, eL_isSo_566, eL_isSo_567, eL_isSo_568, eL_isSo_569, eL_isSo_572, eL_isSo_574, eL_isSo_576, eL_isSo_579, eL_isSo_580, eL_isSo_582, eL_isSo_583, eL_isSo_586, eL_isSo_587, eL_isSo_588, eL_isSo_589, eL_isSo_590, eL_isSo_591, eL_isSo_594, eL_isSo_595, eL_isSo_597, eL_isSo_598, eL_isSo_601, eL_isSo_602, eL_isSo_604, eL_isSo_605, eL_isSo_608, eL_isSo_609, eL_isSo_612, eL_isSo_613, eL_isSo_615, eL_isSo_618, i1, (show nI 5 = 5 by decide), (show (4 : Int32) ≤ 5 by decide), (show ¬ (5 : Int32) = 4 by decide), (show ¬ (5 : Int32) = 6 by decide), (show (5 : Int32) + 1 = nI (5 + 1) by decide), z1, z2, z3, z4, vn, cn, qA_iA s3, mI_lm0, mI_lm, mJ_lm, wR_lm, wR_lm0, wL_lm, qArr_lm, l19, l29, l39, l49, l59, l69, l79, l89, wI_def, up2_at, up2_2, pk_us, j10, j20, j21, j30, j31, j32, j40, j41, j42, j43, j50, j51, j52, j53, j54, j60, j70, j71, j80, j01, j02, j03, j04, j05, j06, j07, j08, j12, j13, j14, j15, j23, j24, j25, j34, j35, j45, j56, j57, j58, j65, j67, j68, j75, j76, j78, j85, j86, j87, ite_false_, ite_true_, one0, eq_self, or_true, true_or, not_true_eq_false, not_false_eq_true, true_imp_iff, false_imp_iff, true_and, and_true, Classical.not_not]
      exact go
    · rw [show (if 6 < 4 then 6 else 6 + 2) = 8 from rfl]
      simp only [eL_isSo_522, eL_isSo_524, eL_isSo_525, eL_isSo_528, eL_isSo_529, eL_isSo_531, eL_isSo_532, eL_isSo_537, eL_isSo_540, eL_isSo_542, eL_isSo_543, eL_isSo_546, eL_isSo_547, eL_isSo_549, eL_isSo_550, eL_isSo_553, eL_isSo_554, eL_isSo_557, eL_isSo_559, eL_isSo_560, eL_isSo_563, eL_isSo_564, eL_isSo_566, eL_isSo_567, eL_isSo_568, eL_isSo_569, eL_isSo_572, eL_isSo_574, eL_isSo_576, eL_isSo_579, eL_isSo_580, eL_isSo_582, eL_isSo_583, eL_isSo_586, eL_isSo_587, eL_isSo_588, eL_isSo_589, eL_isSo_590, eL_isSo_591, eL_isSo_594, eL_isSo_595, eL_isSo_597, eL_isSo_598, eL_isSo_601, eL_isSo_602, eL_isSo_604, eL_isSo_605, eL_isSo_608, eL_isSo_609, eL_isSo_612, eL_isSo_613, eL_isSo_615, eL_isSo_618, i2, (show nI 6 = 6 by decide), (show (4 : Int32) ≤ 6 by decide), (show ¬ (6 : Int32) = 4 by decide), (show ¬ (6 : Int32) = 5 by decide), (show (6 : Int32) + 1 = nI (6 + 1) by decide), z1, z2, z3, z4, vn, cn, qA_iA s3, mI_lm0, mI_lm, mJ_lm, wR_lm, wR_lm0, wL_lm, qArr_lm, l19, l29, l39, l49, l59, l69, l79, l89, wI_def, up2_at, up2_2, pk_us, j10, j20, j21, j30, j31, j32, j40, j41, j42, j43, j50, j51, j52, j53, j54, j60, j70, j71, j80, j01, j02, j03, j04, j05, j06, j07, j08, j12, j13, j14, j15, j23, j24, j25, j34, j35, j45, j56, j57, j58, j65, j67, j68, j75, j76, j78, j85, j86, j87, ite_false_, ite_true_, one0, eq_self, or_true, true_or, not_true_eq_false, not_false_eq_true, true_imp_iff, false_imp_iff, true_and, and_true, Classical.not_not]
      exact go
    · rw [show (if 7 < 4 then 7 else 7 + 2) = 9 from rfl]
      simp only [eL_isSo_522, eL_isSo_524, eL_isSo_525, eL_isSo_528, eL_isSo_529, eL_isSo_531, eL_isSo_532, eL_isSo_537, eL_isSo_540, eL_isSo_542, eL_isSo_543, eL_isSo_546, eL_isSo_547, eL_isSo_549, eL_isSo_550, eL_isSo_553, eL_isSo_554, eL_isSo_557, eL_isSo_559, eL_isSo_560, eL_isSo_563, eL_isSo_564, eL_isSo_566, eL_isSo_567, eL_isSo_568, eL_isSo_569, eL_isSo_572, eL_isSo_574, eL_isSo_576, eL_isSo_579, eL_isSo_580, eL_isSo_582, eL_isSo_583, eL_isSo_586, eL_isSo_587, eL_isSo_588, eL_isSo_589, eL_isSo_590, eL_isSo_591, eL_isSo_594, eL_isSo_595, eL_isSo_597, eL_isSo_598, eL_isSo_601, eL_isSo_602, eL_isSo_604, eL_isSo_605, eL_isSo_608, eL_isSo_609, eL_isSo_612, eL_isSo_613, eL_isSo_615, eL_isSo_618, i3, (show nI 7 = 7 by decide), (show (4 : Int32) ≤ 7 by decide), (show ¬ (7 : Int32) = 4 by decide), (show ¬ (7 : Int32) = 5 by decide), (show ¬ (7 : Int32) = 6 by decide), (show (7 : Int32) + 1 = nI (7 + 1) by decide), z1, z2, z3, z4, vn, cn, qA_iA s3, mI_lm0, mI_lm, mJ_lm, wR_lm, wR_lm0, wL_lm, qArr_lm, l19, l29, l39, l49, l59, l69, l79, l89, wI_def, up2_at, up2_2, pk_us, j10, j20, j21, j30, j31, j32, j40, j41, j42, j43, j50, j51, j52, j53, j54, j60, j70, j71, j80, j01, j02, j03, j04, j05, j06, j07, j08, j12, j13, j14, j15, j23, j24, j25, j34, j35, j45, j56, j57, j58, j65, j67, j68, j75, j76, j78, j85, j86, j87, ite_false_, ite_true_, one0, eq_self, or_true, true_or, not_true_eq_false, not_false_eq_true, true_imp_iff, false_imp_iff, true_and, and_true, Classical.not_not]
      exact go
theorem is5 {R : Option Value → qMM → Nat × Nat → Prop} {X : String → qMM → Nat × Nat → Prop} {μ0 : qMM} {H x : Nat} {m : Mod} {I : Nat → Nat → Int32} {J : Nat → Nat → Int64} {now : Int64} {z : Int32} (kk : LwR I J m.s now) (iv : Iv H m.s) {C : Nat} (hC : C + 8 ≤ 700) {l13 l14 l15 l16 : Option Value} (hK : ∀ ν c l14 l15, SoW μ0 H x m I J ν → c ≤ C + 8 → EX (SL_isSo R X) 621 [some (.ref x), some (.ref (x + 1492)), some (.ref (x + 1492 + 1)), some (.ref (x + 1492 + 3)), none, none, some (.ref (x + 1492 + 4)), some (.ref (x + 1492 + 5)), some (.ref (x + 1492 + 6)), some (.ref (x + 1492 + 7)), some (.ref (x + 1492 + 8)), some (.int z), some (.int (1)), l13, l14, l15, l16] [none, none, none, none, some (.long now), none, none, none, none, none, none, none, none, none, none, none, none] [] (lm ν (x + 1492) I J) (c, 6 * c)) {ν : qMM} {c : Nat} (hν : SoW μ0 H x m I J ν) (hc : c ≤ C) : EX (SL_isSo R X) 473 [some (.ref x), some (.ref (x + 1492)), some (.ref (x + 1492 + 1)), some (.ref (x + 1492 + 3)), none, none, some (.ref (x + 1492 + 4)), some (.ref (x + 1492 + 5)), some (.ref (x + 1492 + 6)), some (.ref (x + 1492 + 7)), some (.ref (x + 1492 + 8)), some (.int z), some (.int (1)), l13, l14, l15, l16] [none, none, none, none, some (.long now), none, none, none, none, none, none, none, none, none, none, none, none] [] (lm ν (x + 1492) I J) (c, 6 * c) := by
  obtain ⟨s0, s1, s2, s3, s4, s5, s6, s7, s8⟩ : LaS ν (x + 1492) := hν.1.2
  have h9 := (Iv_n iv).1
  have h63 := kk.2.2.2.2.2.2
  have g0 : I 0 0 = nI (nOf m.s) := kk.2.1.1.trans h9
  by_cases hz : nOf m.s = 0
  · have z0 : I 0 0 = 0 := by rw [g0, hz]; rfl
    simp only [eL_isSo_473, eL_isSo_474, eL_isSo_475, eL_isSo_476, eL_isSo_479, eL_isSo_480, eL_isSo_483, eL_isSo_485, eL_isSo_486, eL_isSo_487, eL_isSo_491, eL_isSo_493, eL_isSo_494, mI_lm0, mI_lm, mJ_lm, wR_lm, wR_lm0, wL_lm, qArr_lm, l19, l29, l39, l49, l59, l69, l79, l89, wI_def, up2_at, up2_2, pk_us, j10, j20, j21, j30, j31, j32, j40, j41, j42, j43, j50, j51, j52, j53, j54, j60, j70, j71, j80, j01, j02, j03, j04, j05, j06, j07, j08, j12, j13, j14, j15, j23, j24, j25, j34, j35, j45, j56, j57, j58, j65, j67, j68, j75, j76, j78, j85, j86, j87, ite_false_, ite_true_, qA_iA s0, v0 (show 0 < 21 by decide), ci0, z0, one0, eq_self, or_true, true_or, not_true_eq_false, not_false_eq_true, true_imp_iff, false_imp_iff, true_and, and_true, Classical.not_not]
    rw [eL_isSo_496]
    simp only [eL_isSo_498, eL_isSo_500, eL_isSo_503, eL_isSo_504, eL_isSo_505, eL_isSo_506, (show ¬ (8 : Int32) ≤ 0 by decide), (show (0 : Int32) ≤ 0 by decide), mI_lm0, mI_lm, mJ_lm, wR_lm, wR_lm0, wL_lm, qArr_lm, l19, l29, l39, l49, l59, l69, l79, l89, wI_def, up2_at, up2_2, pk_us, j10, j20, j21, j30, j31, j32, j40, j41, j42, j43, j50, j51, j52, j53, j54, j60, j70, j71, j80, j01, j02, j03, j04, j05, j06, j07, j08, j12, j13, j14, j15, j23, j24, j25, j34, j35, j45, j56, j57, j58, j65, j67, j68, j75, j76, j78, j85, j86, j87, ite_false_, ite_true_, qA_iA s0, v0 (show 0 < 21 by decide), ci0, z0, one0, eq_self, or_true, true_or, not_true_eq_false, not_false_eq_true, true_imp_iff, false_imp_iff, true_and, and_true, Classical.not_not]
    exact hK ν c _ _ hν (by omega)
  · obtain ⟨n, hn, en⟩ := low_N z (n := nOf m.s) (by omega) (by omega)
    have nz : ¬ nI (nOf m.s) = 0 := nI_ne0 (by omega) (by omega)
    simp only [eL_isSo_473, eL_isSo_474, eL_isSo_475, eL_isSo_476, eL_isSo_479, eL_isSo_480, eL_isSo_483, eL_isSo_485, eL_isSo_486, eL_isSo_487, eL_isSo_491, eL_isSo_493, eL_isSo_494, eL_isSo_488, PL_low, QL_low, fEq, en, nz, mI_lm0, mI_lm, mJ_lm, wR_lm, wR_lm0, wL_lm, qArr_lm, l19, l29, l39, l49, l59, l69, l79, l89, wI_def, up2_at, up2_2, pk_us, j10, j20, j21, j30, j31, j32, j40, j41, j42, j43, j50, j51, j52, j53, j54, j60, j70, j71, j80, j01, j02, j03, j04, j05, j06, j07, j08, j12, j13, j14, j15, j23, j24, j25, j34, j35, j45, j56, j57, j58, j65, j67, j68, j75, j76, j78, j85, j86, j87, ite_false_, ite_true_, qA_iA s0, v0 (show 0 < 21 by decide), ci0, g0, List.length_nil, List.length_cons, ll0, ll1, ll2, ll3, ll4, Nat.le_refl, and_true, Nat.add_zero, (show c ≤ 700 by omega), (show 6 * c ≤ 4200 by omega), one0, eq_self, or_true, true_or, not_true_eq_false, not_false_eq_true, true_imp_iff, false_imp_iff, true_and, and_true, Classical.not_not]
    exact is5_l kk iv hC hn (fun ν c l15 a b => hK ν c _ l15 a b) 8 0 c ν (by omega) (by omega) hν
theorem rf_none {H : Nat} {s : Nat → Int32} {j : Nat} (hH : H < 2 ^ 30) (iv : IvC H s) (hj : j < 64) (hm : s (66 + 7 * j) = -1) : inR (if 64 ≤ s 55 then nI j else 900 + nI j) 0 999 ∧ recF s (if 64 ≤ s 55 then nI j else 900 + nI j) 0 = -1 := by
  have e64 : (64 : Int32) = nI 64 := rfl
  have e900 : (900 : Int32) + nI j = nI (900 + j) := nI_add 900 j
  by_cases g : 64 ≤ s 55
  · rw [if_pos g]
    refine ⟨inR_N (b := 999) (by omega) (by decide), ?_⟩
    unfold recF
    rw [slot_nI j (by omega), show j % 64 = j by omega, hm]
    exact if_neg (fun q => absurd q.2.symm (nI_m1 (by omega)))
  · rw [if_neg g, e900]
    refine ⟨inR_N (b := 999) (by omega) (by decide), ?_⟩
    unfold recF
    refine if_neg (fun q => ?_)
    have q2 := q.2
    have hs := slot_lt (nI (900 + j))
    rcases iv with ⟨-, z⟩ | ⟨h, hh, e55, z⟩
    · rw [z _ hs] at q2
      exact absurd q2.symm (nI_m1 (by omega))
    · have h64 : h < 64 := by
        rcases Nat.lt_or_ge h 64 with y | y
        · exact y
        · exact absurd (by rw [e55, e64]; exact nI_le y (by omega)) g
      rcases z _ hs with y | ⟨y, y1, y2, y3, y4⟩
      · rw [y] at q2
        exact absurd q2.symm (nI_m1 (by omega))
      · rw [y4] at q2
        have := (nI_eq (by omega) (by omega)).mp q2
        omega
theorem is4_i {R : Option Value → qMM → Nat × Nat → Prop} {X : String → qMM → Nat × Nat → Prop} {μ0 : qMM} {H x : Nat} {m : Mod} {I : Nat → Nat → Int32} {J : Nat → Nat → Int64} {now : Int64} {z : Int32} (kk : LwR I J m.s now) (iv : Iv H m.s) {C j y : Nat} (hC : C + 6 ≤ 700) (hj : j < 64) (hy : m.s (66 + 7 * j) = nI y) (hy2 : y % 64 = j) (hy3 : y < 1000) {l13 : Option Value} (hK : ∀ ν c l16, SoW μ0 H x m I J ν → c ≤ C + 6 → EX (SL_isSo R X) 436 [some (.ref x), some (.ref (x + 1492)), some (.ref (x + 1492 + 1)), some (.ref (x + 1492 + 3)), none, none, some (.ref (x + 1492 + 4)), some (.ref (x + 1492 + 5)), some (.ref (x + 1492 + 6)), some (.ref (x + 1492 + 7)), some (.ref (x + 1492 + 8)), some (.int z), some (.int (1)), l13, some (.int (nI j)), some (.int (nI y)), l16] [none, none, none, none, some (.long now), none, none, none, none, none, none, none, none, none, none, none, none] [] (lm ν (x + 1492) I J) (c, 6 * c)) : ∀ k w c ν, w + k = 6 → c ≤ C + w → SoW μ0 H x m I J ν → EX (SL_isSo R X) 338 [some (.ref x), some (.ref (x + 1492)), some (.ref (x + 1492 + 1)), some (.ref (x + 1492 + 3)), none, none, some (.ref (x + 1492 + 4)), some (.ref (x + 1492 + 5)), some (.ref (x + 1492 + 6)), some (.ref (x + 1492 + 7)), some (.ref (x + 1492 + 8)), some (.int z), some (.int (1)), l13, some (.int (nI j)), some (.int (nI y)), some (.int (nI w))] [none, none, none, none, some (.long now), none, none, none, none, none, none, none, none, none, none, none, none] [] (lm ν (x + 1492) I J) (c, 6 * c) := by
  intro k
  have e6 : (6 : Int32) = nI 6 := rfl
  obtain ⟨k6, k7⟩ := kk.2.2.2.2.2.1 j hj
  have nm : ¬ m.s (66 + 7 * j) = -1 := by rw [hy]; exact nI_m1 (by omega)
  obtain ⟨hd, sd⟩ := k7 nm
  obtain ⟨p0, p1, p2, p3⟩ := Hd_pt hd
  obtain ⟨q1, q2⟩ := SdR_at sd
  rw [hy] at k6
  have vj : vp_in (nI j) 64 := vpn hj (by decide)
  have cj : (nI j).toNatClampNeg = j := nI_clamp (by omega)
  have y0 : ¬ nI y < 0 := nI_pos (by omega)
  have y1 : ¬ (1000 : Int32) ≤ nI y := by rw [show (1000 : Int32) = nI 1000 from rfl]; exact nI_ge (by omega) (by omega)
  induction k with
  | zero =>
    intro w c ν hw hc hν
    have : w = 6 := by omega
    subst this
    rw [eL_isSo_338]
    simp only [eL_isSo_340, eL_isSo_342]
    refine ⟨fun _ => hK ν c _ hν hc, fun h => absurd (Int32.le_refl _) h⟩
  | succ k ih =>
    intro w c ν hw hc hν
    obtain ⟨s0, s1, s2, s3, s4, s5, s6, s7, s8⟩ : LaS ν (x + 1492) := hν.1.2
    have lt : ¬ (6 : Int32) ≤ nI w := by rw [e6]; exact nI_ge (by omega) (by omega)
    rw [eL_isSo_338]
    simp only [eL_isSo_340, eL_isSo_342]
    refine ⟨fun h => absurd h lt, fun _ => ?_⟩
    simp only [eL_isSo_345, eL_isSo_347, eL_isSo_349, eL_isSo_350, eL_isSo_353, eL_isSo_355, eL_isSo_358, eL_isSo_361, eL_isSo_363, eL_isSo_366, eL_isSo_367, eL_isSo_369, mI_lm0, mI_lm, mJ_lm, wR_lm, wR_lm0, wL_lm, qArr_lm, l19, l29, l39, l49, l59, l69, l79, l89, wI_def, up2_at, up2_2, pk_us, j10, j20, j21, j30, j31, j32, j40, j41, j42, j43, j50, j51, j52, j53, j54, j60, j70, j71, j80, j01, j02, j03, j04, j05, j06, j07, j08, j12, j13, j14, j15, j23, j24, j25, j34, j35, j45, j56, j57, j58, j65, j67, j68, j75, j76, j78, j85, j86, j87, ite_false_, ite_true_, qA_iA s6, vj, cj, k6, y0, y1, one0, one0, eq_self, or_true, true_or, not_true_eq_false, not_false_eq_true, true_imp_iff, false_imp_iff, true_and, and_true, Classical.not_not]
    rw [eL_isSo_371]
    refine ⟨by simp, by omega, by omega, sw_P hν, fun r μ' q => ?_⟩
    have a1 : inR (nI y) 0 999 ∧ inR (nI w) 0 5 := ⟨inR_N (b := 999) (by omega) (by decide), inR_N (b := 5) (by omega) (by decide)⟩
    obtain ⟨ν1, rfl, rfl, h1⟩ := sw_hl (A := fun m => recordA m (nI y) (nI w)) hν q rec_e (by unfold recordA; rw [if_pos a1])
    have e1 : (recordA m (nI y) (nI w)).1 = m.s (67 + 7 * j + w) := by
      unfold recordA
      rw [if_pos a1]
      show recF m.s (nI y) _ = _
      unfold recF
      rw [nI_clamp (show w < 2 ^ 31 by omega), slot_nI y (by omega), hy2]
      exact if_pos ⟨nI_pos' (by omega), hy⟩
    have go := ih (w + 1) (c + 1) ν1 (by omega) (by omega) h1
    obtain ⟨s0, s1, s2, s3, s4, s5, s6, s7, s8⟩ : LaS ν1 (x + 1492) := h1.1.2
    have z1 : ¬ (4096 : Int32) = 0 := by decide
    rw [e1]
    rcases (by omega : w = 0 ∨ w = 1 ∨ w = 2 ∨ w = 3 ∨ w = 4 ∨ w = 5) with rfl | rfl | rfl | rfl | rfl | rfl
    · have ep : ptF (J 7 j) (nI 0) = m.s (67 + 7 * j + 0) := p0
      simp only [eL_isSo_374, eL_isSo_376, eL_isSo_377, eL_isSo_380, eL_isSo_382, eL_isSo_384, eL_isSo_385, eL_isSo_390, eL_isSo_393, eL_isSo_395, eL_isSo_396, eL_isSo_399, eL_isSo_401, eL_isSo_403, eL_isSo_404, eL_isSo_407, eL_isSo_408, eL_isSo_411, eL_isSo_413, eL_isSo_415, eL_isSo_416, eL_isSo_419, eL_isSo_420, eL_isSo_423, eL_isSo_424, eL_isSo_427, eL_isSo_428, eL_isSo_430, eL_isSo_433, eL_isSo_387, PL_part, QL_part, fEq, ep, (show ¬ (4 : Int32) ≤ nI 0 by decide), vj, cj, qA_jA s7, mI_lm0, mI_lm, mJ_lm, wR_lm, wR_lm0, wL_lm, qArr_lm, l19, l29, l39, l49, l59, l69, l79, l89, wI_def, up2_at, up2_2, pk_us, j10, j20, j21, j30, j31, j32, j40, j41, j42, j43, j50, j51, j52, j53, j54, j60, j70, j71, j80, j01, j02, j03, j04, j05, j06, j07, j08, j12, j13, j14, j15, j23, j24, j25, j34, j35, j45, j56, j57, j58, j65, j67, j68, j75, j76, j78, j85, j86, j87, ite_false_, ite_true_, nI_1, List.length_nil, List.length_cons, ll0, ll1, ll2, ll3, ll4, Nat.le_refl, and_true, Nat.add_zero, (show c + 1 ≤ 700 by omega), (show 6 * c + 6 ≤ 4200 by omega), one0, eq_self, or_true, true_or, not_true_eq_false, not_false_eq_true, true_imp_iff, false_imp_iff, true_and, and_true, Classical.not_not]
      exact go
    · have ep : ptF (J 7 j) (nI 1) = m.s (67 + 7 * j + 1) := p1
      simp only [eL_isSo_374, eL_isSo_376, eL_isSo_377, eL_isSo_380, eL_isSo_382, eL_isSo_384, eL_isSo_385, eL_isSo_390, eL_isSo_393, eL_isSo_395, eL_isSo_396, eL_isSo_399, eL_isSo_401, eL_isSo_403, eL_isSo_404, eL_isSo_407, eL_isSo_408, eL_isSo_411, eL_isSo_413, eL_isSo_415, eL_isSo_416, eL_isSo_419, eL_isSo_420, eL_isSo_423, eL_isSo_424, eL_isSo_427, eL_isSo_428, eL_isSo_430, eL_isSo_433, eL_isSo_387, PL_part, QL_part, fEq, ep, (show ¬ (4 : Int32) ≤ nI 1 by decide), vj, cj, qA_jA s7, mI_lm0, mI_lm, mJ_lm, wR_lm, wR_lm0, wL_lm, qArr_lm, l19, l29, l39, l49, l59, l69, l79, l89, wI_def, up2_at, up2_2, pk_us, j10, j20, j21, j30, j31, j32, j40, j41, j42, j43, j50, j51, j52, j53, j54, j60, j70, j71, j80, j01, j02, j03, j04, j05, j06, j07, j08, j12, j13, j14, j15, j23, j24, j25, j34, j35, j45, j56, j57, j58, j65, j67, j68, j75, j76, j78, j85, j86, j87, ite_false_, ite_true_, nI_1, List.length_nil, List.length_cons, ll0, ll1, ll2, ll3, ll4, Nat.le_refl, and_true, Nat.add_zero, (show c + 1 ≤ 700 by omega), (show 6 * c + 6 ≤ 4200 by omega), one0, eq_self, or_true, true_or, not_true_eq_false, not_false_eq_true, true_imp_iff, false_imp_iff, true_and, and_true, Classical.not_not]
      exact go
    · have ep : ptF (J 7 j) (nI 2) = m.s (67 + 7 * j + 2) := p2
      simp only [eL_isSo_374, eL_isSo_376, eL_isSo_377, eL_isSo_380, eL_isSo_382, eL_isSo_384, eL_isSo_385, eL_isSo_390, eL_isSo_393, eL_isSo_395, eL_isSo_396, eL_isSo_399, eL_isSo_401, eL_isSo_403, eL_isSo_404, eL_isSo_407, eL_isSo_408, eL_isSo_411, eL_isSo_413, eL_isSo_415, eL_isSo_416, eL_isSo_419, eL_isSo_420, eL_isSo_423, eL_isSo_424, eL_isSo_427, eL_isSo_428, eL_isSo_430, eL_isSo_433, eL_isSo_387, PL_part, QL_part, fEq, ep, (show ¬ (4 : Int32) ≤ nI 2 by decide), vj, cj, qA_jA s7, mI_lm0, mI_lm, mJ_lm, wR_lm, wR_lm0, wL_lm, qArr_lm, l19, l29, l39, l49, l59, l69, l79, l89, wI_def, up2_at, up2_2, pk_us, j10, j20, j21, j30, j31, j32, j40, j41, j42, j43, j50, j51, j52, j53, j54, j60, j70, j71, j80, j01, j02, j03, j04, j05, j06, j07, j08, j12, j13, j14, j15, j23, j24, j25, j34, j35, j45, j56, j57, j58, j65, j67, j68, j75, j76, j78, j85, j86, j87, ite_false_, ite_true_, nI_1, List.length_nil, List.length_cons, ll0, ll1, ll2, ll3, ll4, Nat.le_refl, and_true, Nat.add_zero, (show c + 1 ≤ 700 by omega), (show 6 * c + 6 ≤ 4200 by omega), one0, eq_self, or_true, true_or, not_true_eq_false, not_false_eq_true, true_imp_iff, false_imp_iff, true_and, and_true, Classical.not_not]
      exact go
    · have ep : ptF (J 7 j) (nI 3) = m.s (67 + 7 * j + 3) := p3
      simp only [eL_isSo_374, eL_isSo_376, eL_isSo_377, eL_isSo_380, eL_isSo_382, eL_isSo_384, eL_isSo_385, eL_isSo_390, eL_isSo_393, eL_isSo_395, eL_isSo_396, eL_isSo_399, eL_isSo_401, eL_isSo_403, eL_isSo_404, eL_isSo_407, eL_isSo_408, eL_isSo_411, eL_isSo_413, eL_isSo_415, eL_isSo_416, eL_isSo_419, eL_isSo_420, eL_isSo_423, eL_isSo_424, eL_isSo_427, eL_isSo_428, eL_isSo_430, eL_isSo_433, eL_isSo_387, PL_part, QL_part, fEq, ep, (show ¬ (4 : Int32) ≤ nI 3 by decide), vj, cj, qA_jA s7, mI_lm0, mI_lm, mJ_lm, wR_lm, wR_lm0, wL_lm, qArr_lm, l19, l29, l39, l49, l59, l69, l79, l89, wI_def, up2_at, up2_2, pk_us, j10, j20, j21, j30, j31, j32, j40, j41, j42, j43, j50, j51, j52, j53, j54, j60, j70, j71, j80, j01, j02, j03, j04, j05, j06, j07, j08, j12, j13, j14, j15, j23, j24, j25, j34, j35, j45, j56, j57, j58, j65, j67, j68, j75, j76, j78, j85, j86, j87, ite_false_, ite_true_, nI_1, List.length_nil, List.length_cons, ll0, ll1, ll2, ll3, ll4, Nat.le_refl, and_true, Nat.add_zero, (show c + 1 ≤ 700 by omega), (show 6 * c + 6 ≤ 4200 by omega), one0, eq_self, or_true, true_or, not_true_eq_false, not_false_eq_true, true_imp_iff, false_imp_iff, true_and, and_true, Classical.not_not]
      exact go
    · simp only [eL_isSo_374, eL_isSo_376, eL_isSo_377, eL_isSo_380, eL_isSo_382, eL_isSo_384, eL_isSo_385, eL_isSo_390, eL_isSo_393, eL_isSo_395, eL_isSo_396, eL_isSo_399, eL_isSo_401, eL_isSo_403, eL_isSo_404, eL_isSo_407, eL_isSo_408, eL_isSo_411, eL_isSo_413, eL_isSo_415, eL_isSo_416, eL_isSo_419, eL_isSo_420, eL_isSo_423, eL_isSo_424, eL_isSo_427, eL_isSo_428, eL_isSo_430, eL_isSo_433, q1, (show nI 4 = 4 by decide), (show (4 : Int32) ≤ 4 by decide), (show (4 : Int32) + 1 = nI (4 + 1) by decide), z1, vj, cj, qA_iA s8, mI_lm0, mI_lm, mJ_lm, wR_lm, wR_lm0, wL_lm, qArr_lm, l19, l29, l39, l49, l59, l69, l79, l89, wI_def, up2_at, up2_2, pk_us, j10, j20, j21, j30, j31, j32, j40, j41, j42, j43, j50, j51, j52, j53, j54, j60, j70, j71, j80, j01, j02, j03, j04, j05, j06, j07, j08, j12, j13, j14, j15, j23, j24, j25, j34, j35, j45, j56, j57, j58, j65, j67, j68, j75, j76, j78, j85, j86, j87, ite_false_, ite_true_, one0, eq_self, or_true, true_or, not_true_eq_false, not_false_eq_true, true_imp_iff, false_imp_iff, true_and, and_true, Classical.not_not]
      exact go
    · simp only [eL_isSo_374, eL_isSo_376, eL_isSo_377, eL_isSo_380, eL_isSo_382, eL_isSo_384, eL_isSo_385, eL_isSo_390, eL_isSo_393, eL_isSo_395, eL_isSo_396, eL_isSo_399, eL_isSo_401, eL_isSo_403, eL_isSo_404, eL_isSo_407, eL_isSo_408, eL_isSo_411, eL_isSo_413, eL_isSo_415, eL_isSo_416, eL_isSo_419, eL_isSo_420, eL_isSo_423, eL_isSo_424, eL_isSo_427, eL_isSo_428, eL_isSo_430, eL_isSo_433, q2, (show nI 5 = 5 by decide), (show (4 : Int32) ≤ 5 by decide), (show ¬ (5 : Int32) = 4 by decide), (show (5 : Int32) + 1 = nI (5 + 1) by decide), z1, vj, cj, qA_iA s8, mI_lm0, mI_lm, mJ_lm, wR_lm, wR_lm0, wL_lm, qArr_lm, l19, l29, l39, l49, l59, l69, l79, l89, wI_def, up2_at, up2_2, pk_us, j10, j20, j21, j30, j31, j32, j40, j41, j42, j43, j50, j51, j52, j53, j54, j60, j70, j71, j80, j01, j02, j03, j04, j05, j06, j07, j08, j12, j13, j14, j15, j23, j24, j25, j34, j35, j45, j56, j57, j58, j65, j67, j68, j75, j76, j78, j85, j86, j87, ite_false_, ite_true_, one0, eq_self, or_true, true_or, not_true_eq_false, not_false_eq_true, true_imp_iff, false_imp_iff, true_and, and_true, Classical.not_not]
      exact go
theorem is4 {R : Option Value → qMM → Nat × Nat → Prop} {X : String → qMM → Nat × Nat → Prop} {μ0 : qMM} {H x : Nat} {m : Mod} {I : Nat → Nat → Int32} {J : Nat → Nat → Int64} {now : Int64} {z : Int32} (kk : LwR I J m.s now) (iv : Iv H m.s) {C : Nat} (hC : C + 384 ≤ 700) (hH : H < 2 ^ 30) (hK : ∀ ν c l14 l15 l16, SoW μ0 H x m I J ν → c ≤ C + 384 → EX (SL_isSo R X) 473 [some (.ref x), some (.ref (x + 1492)), some (.ref (x + 1492 + 1)), some (.ref (x + 1492 + 3)), none, none, some (.ref (x + 1492 + 4)), some (.ref (x + 1492 + 5)), some (.ref (x + 1492 + 6)), some (.ref (x + 1492 + 7)), some (.ref (x + 1492 + 8)), some (.int z), some (.int (1)), some (.int (manyL m.s 64)), l14, l15, l16] [none, none, none, none, some (.long now), none, none, none, none, none, none, none, none, none, none, none, none] [] (lm ν (x + 1492) I J) (c, 6 * c)) : ∀ k j c ν l15 l16, j + k = 64 → c ≤ C + 6 * j → SoW μ0 H x m I J ν → EX (SL_isSo R X) 267 [some (.ref x), some (.ref (x + 1492)), some (.ref (x + 1492 + 1)), some (.ref (x + 1492 + 3)), none, none, some (.ref (x + 1492 + 4)), some (.ref (x + 1492 + 5)), some (.ref (x + 1492 + 6)), some (.ref (x + 1492 + 7)), some (.ref (x + 1492 + 8)), some (.int z), some (.int (1)), some (.int (manyL m.s j)), some (.int (nI j)), l15, l16] [none, none, none, none, some (.long now), none, none, none, none, none, none, none, none, none, none, none, none] [] (lm ν (x + 1492) I J) (c, 6 * c) := by
  intro k
  have e64 : (64 : Int32) = nI 64 := rfl
  have g10 : I 0 10 = m.s 55 := kk.2.1.2.2.2.2.2.2.2.2 10 (by decide) (by decide)
  have c10 : (10 : Int32).toNatClampNeg = 10 := by decide
  have w10 : vp_in (10 : Int32) 21 := vpn (i := 10) (by decide) (by decide)
  induction k with
  | zero =>
    intro j c ν l15 l16 hj hc hν
    have : j = 64 := by omega
    subst this
    rw [eL_isSo_267]
    simp only [eL_isSo_269, eL_isSo_271]
    refine ⟨fun _ => hK ν c _ l15 l16 hν hc, fun h => absurd (Int32.le_refl _) h⟩
  | succ k ih =>
    intro j c ν l15 l16 hj hc hν
    obtain ⟨s0, s1, s2, s3, s4, s5, s6, s7, s8⟩ : LaS ν (x + 1492) := hν.1.2
    have lt : ¬ (64 : Int32) ≤ nI j := by rw [e64]; exact nI_ge (by omega) (by omega)
    have vj : vp_in (nI j) 64 := vpn (by omega) (by decide)
    have cj : (nI j).toNatClampNeg = j := nI_clamp (by omega)
    obtain ⟨k6, k7⟩ := kk.2.2.2.2.2.1 j (by omega)
    rw [eL_isSo_267]
    simp only [eL_isSo_269, eL_isSo_271]
    refine ⟨fun h => absurd h lt, fun _ => ?_⟩
    by_cases hm : m.s (66 + 7 * j) = -1
    · have k6' : I 6 j = -1 := k6.trans hm
      have em : manyL m.s j + 0 = manyL m.s (j + 1) := by
        show _ = manyL m.s j + (if m.s (66 + 7 * j) = -1 then 0 else 1)
        rw [if_pos hm]
      simp only [eL_isSo_274, eL_isSo_276, eL_isSo_279, eL_isSo_281, eL_isSo_283, eL_isSo_285, eL_isSo_286, eL_isSo_289, eL_isSo_290, eL_isSo_293, eL_isSo_294, mI_lm0, mI_lm, mJ_lm, wR_lm, wR_lm0, wL_lm, qArr_lm, l19, l29, l39, l49, l59, l69, l79, l89, wI_def, up2_at, up2_2, pk_us, j10, j20, j21, j30, j31, j32, j40, j41, j42, j43, j50, j51, j52, j53, j54, j60, j70, j71, j80, j01, j02, j03, j04, j05, j06, j07, j08, j12, j13, j14, j15, j23, j24, j25, j34, j35, j45, j56, j57, j58, j65, j67, j68, j75, j76, j78, j85, j86, j87, ite_false_, ite_true_, qA_iA s6, vj, cj, k6', (show ¬ (0 : Int32) ≤ -1 by decide), one0, one0, eq_self, or_true, true_or, not_true_eq_false, not_false_eq_true, true_imp_iff, false_imp_iff, true_and, and_true, Classical.not_not]
      rw [em]
      simp only [eL_isSo_295, eL_isSo_297, eL_isSo_299, eL_isSo_301, eL_isSo_302, eL_isSo_305, eL_isSo_306, eL_isSo_308, eL_isSo_309, eL_isSo_311, eL_isSo_314, eL_isSo_317, eL_isSo_319, eL_isSo_320, eL_isSo_323, eL_isSo_325, eL_isSo_328, mI_lm0, mI_lm, mJ_lm, wR_lm, wR_lm0, wL_lm, qArr_lm, l19, l29, l39, l49, l59, l69, l79, l89, wI_def, up2_at, up2_2, pk_us, j10, j20, j21, j30, j31, j32, j40, j41, j42, j43, j50, j51, j52, j53, j54, j60, j70, j71, j80, j01, j02, j03, j04, j05, j06, j07, j08, j12, j13, j14, j15, j23, j24, j25, j34, j35, j45, j56, j57, j58, j65, j67, j68, j75, j76, j78, j85, j86, j87, ite_false_, ite_true_, qA_iA s6, qA_iA s0, w10, c10, g10, vj, cj, k6', (show ¬ (0 : Int32) ≤ -1 by decide), one0, one0, eq_self, or_true, true_or, not_true_eq_false, not_false_eq_true, true_imp_iff, false_imp_iff, true_and, and_true, Classical.not_not, mrgI, mrgN]
      simp only [eL_isSo_333, eL_isSo_335, eL_isSo_336]
      rw [eL_isSo_338]
      simp only [eL_isSo_340, eL_isSo_342, eL_isSo_345, eL_isSo_347, eL_isSo_349, eL_isSo_350, eL_isSo_353, eL_isSo_355, eL_isSo_358, eL_isSo_436, eL_isSo_438, eL_isSo_441, eL_isSo_443, eL_isSo_445, eL_isSo_446, eL_isSo_449, eL_isSo_450, eL_isSo_452, mI_lm0, mI_lm, mJ_lm, wR_lm, wR_lm0, wL_lm, qArr_lm, l19, l29, l39, l49, l59, l69, l79, l89, wI_def, up2_at, up2_2, pk_us, j10, j20, j21, j30, j31, j32, j40, j41, j42, j43, j50, j51, j52, j53, j54, j60, j70, j71, j80, j01, j02, j03, j04, j05, j06, j07, j08, j12, j13, j14, j15, j23, j24, j25, j34, j35, j45, j56, j57, j58, j65, j67, j68, j75, j76, j78, j85, j86, j87, ite_false_, ite_true_, qA_iA s6, vj, cj, k6', (show ¬ (6 : Int32) ≤ 0 by decide), (show (-1 : Int32) < 0 by decide), (show ¬ (0 : Int32) ≤ -1 by decide), one0, one0, eq_self, or_true, true_or, not_true_eq_false, not_false_eq_true, true_imp_iff, false_imp_iff, true_and, and_true, Classical.not_not]
      obtain ⟨a1, a2⟩ := rf_none hH iv.2.2.2.1 (show j < 64 by omega) hm
      generalize (if 64 ≤ m.s 55 then nI j else 900 + nI j) = xx at *
      rw [eL_isSo_453]
      refine ⟨by simp, by omega, by omega, sw_P hν, fun r μ' q => ?_⟩
      have a3 : inR xx 0 999 ∧ inR (0 : Int32) 0 5 := ⟨a1, by decide⟩
      obtain ⟨ν1, rfl, rfl, h1⟩ := sw_hl (A := fun m => recordA m xx 0) hν q rec_e (by unfold recordA; rw [if_pos a3])
      have e1 : (recordA m xx 0).1 = -1 := by
        unfold recordA
        rw [if_pos a3]
        exact a2
      simp only [eL_isSo_456, eL_isSo_457, eL_isSo_460, eL_isSo_461, eL_isSo_464, eL_isSo_465, eL_isSo_467, eL_isSo_470, e1, nI_1, one0, eq_self, or_true, true_or, not_true_eq_false, not_false_eq_true, true_imp_iff, false_imp_iff, true_and, and_true, Classical.not_not]
      exact ih (j + 1) (c + 1) ν1 _ _ (by omega) (by omega) h1
    · obtain ⟨y, hy2, hyB, hy⟩ : ∃ y : Nat, y % 64 = j ∧ y < 2 ^ 31 ∧ m.s (66 + 7 * j) = nI y := by
        rcases iv.2.2.2.1 with ⟨-, z⟩ | ⟨h, hh, -, z⟩
        · exact absurd (z j (by omega)) hm
        · rcases z j (by omega) with y | ⟨y, y1, y2, y3, y4⟩
          · exact absurd y hm
          · exact ⟨y, y1, by omega, y4⟩
      have k6' : I 6 j = nI y := k6.trans hy
      have y0 : (0 : Int32) ≤ nI y := nI_pos' hyB
      have y0' : ¬ nI y < 0 := nI_pos hyB
      have em : manyL m.s j + 1 = manyL m.s (j + 1) := by
        show _ = manyL m.s j + (if m.s (66 + 7 * j) = -1 then 0 else 1)
        rw [if_neg hm]
      have fin : ∀ ν c l16, SoW μ0 H x m I J ν → c ≤ C + 6 * j + 6 → EX (SL_isSo R X) 436 [some (.ref x), some (.ref (x + 1492)), some (.ref (x + 1492 + 1)), some (.ref (x + 1492 + 3)), none, none, some (.ref (x + 1492 + 4)), some (.ref (x + 1492 + 5)), some (.ref (x + 1492 + 6)), some (.ref (x + 1492 + 7)), some (.ref (x + 1492 + 8)), some (.int z), some (.int (1)), some (.int (manyL m.s (j + 1))), some (.int (nI j)), some (.int (nI y)), l16] [none, none, none, none, some (.long now), none, none, none, none, none, none, none, none, none, none, none, none] [] (lm ν (x + 1492) I J) (c, 6 * c) := by
        intro ν c l16 h1 hc1
        obtain ⟨s0, s1, s2, s3, s4, s5, s6, s7, s8⟩ : LaS ν (x + 1492) := h1.1.2
        simp only [eL_isSo_436, eL_isSo_438, eL_isSo_441, eL_isSo_443, eL_isSo_445, eL_isSo_446, eL_isSo_449, eL_isSo_450, eL_isSo_452, eL_isSo_456, eL_isSo_457, eL_isSo_460, eL_isSo_461, eL_isSo_464, eL_isSo_465, eL_isSo_467, eL_isSo_470, mI_lm0, mI_lm, mJ_lm, wR_lm, wR_lm0, wL_lm, qArr_lm, l19, l29, l39, l49, l59, l69, l79, l89, wI_def, up2_at, up2_2, pk_us, j10, j20, j21, j30, j31, j32, j40, j41, j42, j43, j50, j51, j52, j53, j54, j60, j70, j71, j80, j01, j02, j03, j04, j05, j06, j07, j08, j12, j13, j14, j15, j23, j24, j25, j34, j35, j45, j56, j57, j58, j65, j67, j68, j75, j76, j78, j85, j86, j87, ite_false_, ite_true_, qA_iA s6, vj, cj, k6', y0, one0, nI_1, one0, eq_self, or_true, true_or, not_true_eq_false, not_false_eq_true, true_imp_iff, false_imp_iff, true_and, and_true, Classical.not_not]
        exact ih (j + 1) c ν _ _ (by omega) (by omega) h1
      simp only [eL_isSo_274, eL_isSo_276, eL_isSo_279, eL_isSo_281, eL_isSo_283, eL_isSo_285, eL_isSo_286, eL_isSo_289, eL_isSo_290, eL_isSo_293, eL_isSo_294, mI_lm0, mI_lm, mJ_lm, wR_lm, wR_lm0, wL_lm, qArr_lm, l19, l29, l39, l49, l59, l69, l79, l89, wI_def, up2_at, up2_2, pk_us, j10, j20, j21, j30, j31, j32, j40, j41, j42, j43, j50, j51, j52, j53, j54, j60, j70, j71, j80, j01, j02, j03, j04, j05, j06, j07, j08, j12, j13, j14, j15, j23, j24, j25, j34, j35, j45, j56, j57, j58, j65, j67, j68, j75, j76, j78, j85, j86, j87, ite_false_, ite_true_, qA_iA s6, vj, cj, k6', y0, one0, one0, eq_self, or_true, true_or, not_true_eq_false, not_false_eq_true, true_imp_iff, false_imp_iff, true_and, and_true, Classical.not_not]
      rw [em]
      simp only [eL_isSo_295, eL_isSo_297, eL_isSo_299, eL_isSo_301, eL_isSo_302, eL_isSo_305, eL_isSo_306, eL_isSo_308, eL_isSo_309, eL_isSo_311, eL_isSo_314, eL_isSo_317, eL_isSo_319, eL_isSo_320, eL_isSo_323, eL_isSo_325, eL_isSo_328, eL_isSo_330, eL_isSo_332, eL_isSo_333, eL_isSo_335, eL_isSo_336, mI_lm0, mI_lm, mJ_lm, wR_lm, wR_lm0, wL_lm, qArr_lm, l19, l29, l39, l49, l59, l69, l79, l89, wI_def, up2_at, up2_2, pk_us, j10, j20, j21, j30, j31, j32, j40, j41, j42, j43, j50, j51, j52, j53, j54, j60, j70, j71, j80, j01, j02, j03, j04, j05, j06, j07, j08, j12, j13, j14, j15, j23, j24, j25, j34, j35, j45, j56, j57, j58, j65, j67, j68, j75, j76, j78, j85, j86, j87, ite_false_, ite_true_, qA_iA s6, vj, cj, k6', y0, one0, one0, eq_self, or_true, true_or, not_true_eq_false, not_false_eq_true, true_imp_iff, false_imp_iff, true_and, and_true, Classical.not_not]
      by_cases hb : y < 1000
      · exact is4_i kk iv (C := C + 6 * j) (by omega) (by omega) hy hy2 hb fin 6 0 c ν (by omega) (by omega) hν
      · have y1 : (1000 : Int32) ≤ nI y := by rw [show (1000 : Int32) = nI 1000 from rfl]; exact nI_le (by omega) hyB
        rw [eL_isSo_338]
        simp only [eL_isSo_340, eL_isSo_342, eL_isSo_345, eL_isSo_347, eL_isSo_349, eL_isSo_350, eL_isSo_353, eL_isSo_355, eL_isSo_358, mI_lm0, mI_lm, mJ_lm, wR_lm, wR_lm0, wL_lm, qArr_lm, l19, l29, l39, l49, l59, l69, l79, l89, wI_def, up2_at, up2_2, pk_us, j10, j20, j21, j30, j31, j32, j40, j41, j42, j43, j50, j51, j52, j53, j54, j60, j70, j71, j80, j01, j02, j03, j04, j05, j06, j07, j08, j12, j13, j14, j15, j23, j24, j25, j34, j35, j45, j56, j57, j58, j65, j67, j68, j75, j76, j78, j85, j86, j87, ite_false_, ite_true_, qA_iA s6, vj, cj, k6', y0', y1, (show ¬ (6 : Int32) ≤ 0 by decide), one0, eq_self, or_true, true_or, not_true_eq_false, not_false_eq_true, true_imp_iff, false_imp_iff, true_and, and_true, Classical.not_not]
        exact fin ν c _ hν (by omega)
theorem is3 {R : Option Value → qMM → Nat × Nat → Prop} {X : String → qMM → Nat × Nat → Prop} {μ0 : qMM} {H x : Nat} {m : Mod} {I : Nat → Nat → Int32} {J : Nat → Nat → Int64} {now : Int64} {z : Int32} (kk : LwR I J m.s now) (iv : Iv H m.s) {C : Nat} (hC : C + 20 ≤ 700) {l14 l15 l16 : Option Value} (hK : ∀ ν c l13, SoW μ0 H x m I J ν → c ≤ C + 20 → EX (SL_isSo R X) 261 [some (.ref x), some (.ref (x + 1492)), some (.ref (x + 1492 + 1)), some (.ref (x + 1492 + 3)), none, none, some (.ref (x + 1492 + 4)), some (.ref (x + 1492 + 5)), some (.ref (x + 1492 + 6)), some (.ref (x + 1492 + 7)), some (.ref (x + 1492 + 8)), some (.int z), some (.int (1)), l13, l14, l15, l16] [none, none, none, none, some (.long now), none, none, none, none, none, none, none, none, none, none, none, none] [] (lm ν (x + 1492) I J) (c, 6 * c)) : ∀ k j c ν, j + k = nOfL m.s 31 → c ≤ C + j → SoW μ0 H x m I J ν → EX (SL_isSo R X) 217 [some (.ref x), some (.ref (x + 1492)), some (.ref (x + 1492 + 1)), some (.ref (x + 1492 + 3)), none, none, some (.ref (x + 1492 + 4)), some (.ref (x + 1492 + 5)), some (.ref (x + 1492 + 6)), some (.ref (x + 1492 + 7)), some (.ref (x + 1492 + 8)), some (.int z), some (.int (1)), some (.int (nI j)), l14, l15, l16] [none, none, none, none, some (.long now), none, none, none, none, none, none, none, none, none, none, none, none] [] (lm ν (x + 1492) I J) (c, 6 * c) := by
  intro k
  obtain ⟨f, hf, hk⟩ : ∃ f : Nat, f ≤ 20 ∧ m.s 31 = nI f := Iv_b iv
  have en : nOfL m.s 31 = f := by
    unfold nOfL
    rw [hk, nI_clamp (by omega)]
  rw [en]
  obtain ⟨l0, l1⟩ := kk.2.2.2.2.1
  rw [hk, nI_clamp (by omega)] at l1
  rw [hk] at l0
  induction k with
  | zero =>
    intro j c ν hj hc hν
    obtain ⟨s0, s1, s2, s3, s4, s5, s6, s7, s8⟩ : LaS ν (x + 1492) := hν.1.2
    have : j = f := by omega
    subst this
    rw [eL_isSo_217]
    simp only [eL_isSo_219, eL_isSo_221, eL_isSo_222, eL_isSo_223, mI_lm0, mI_lm, mJ_lm, wR_lm, wR_lm0, wL_lm, qArr_lm, l19, l29, l39, l49, l59, l69, l79, l89, wI_def, up2_at, up2_2, pk_us, j10, j20, j21, j30, j31, j32, j40, j41, j42, j43, j50, j51, j52, j53, j54, j60, j70, j71, j80, j01, j02, j03, j04, j05, j06, j07, j08, j12, j13, j14, j15, j23, j24, j25, j34, j35, j45, j56, j57, j58, j65, j67, j68, j75, j76, j78, j85, j86, j87, ite_false_, ite_true_, qA_iA s5, v0 (show 0 < 22 by decide), ci0, l0, one0, eq_self, or_true, true_or, not_true_eq_false, not_false_eq_true, true_imp_iff, false_imp_iff, true_and, and_true, Classical.not_not]
    refine ⟨fun _ => hK ν c _ hν (by omega), fun h => absurd (Int32.le_refl _) h⟩
  | succ k ih =>
    intro j c ν hj hc hν
    obtain ⟨s0, s1, s2, s3, s4, s5, s6, s7, s8⟩ : LaS ν (x + 1492) := hν.1.2
    have lt : ¬ nI f ≤ nI j := nI_ge (by omega) (by omega)
    rw [eL_isSo_217]
    simp only [eL_isSo_219, eL_isSo_221, eL_isSo_222, eL_isSo_223, mI_lm0, mI_lm, mJ_lm, wR_lm, wR_lm0, wL_lm, qArr_lm, l19, l29, l39, l49, l59, l69, l79, l89, wI_def, up2_at, up2_2, pk_us, j10, j20, j21, j30, j31, j32, j40, j41, j42, j43, j50, j51, j52, j53, j54, j60, j70, j71, j80, j01, j02, j03, j04, j05, j06, j07, j08, j12, j13, j14, j15, j23, j24, j25, j34, j35, j45, j56, j57, j58, j65, j67, j68, j75, j76, j78, j85, j86, j87, ite_false_, ite_true_, qA_iA s5, v0 (show 0 < 22 by decide), ci0, l0, one0, eq_self, or_true, true_or, not_true_eq_false, not_false_eq_true, true_imp_iff, false_imp_iff, true_and, and_true, Classical.not_not]
    refine ⟨fun h => absurd h lt, fun _ => ?_⟩
    simp only [eL_isSo_226, eL_isSo_228, eL_isSo_231, eL_isSo_232, eL_isSo_233, one0, one0, eq_self, or_true, true_or, not_true_eq_false, not_false_eq_true, true_imp_iff, false_imp_iff, true_and, and_true, Classical.not_not]
    rw [eL_isSo_235]
    refine ⟨by simp, by omega, by omega, sw_P hν, fun r μ' q => ?_⟩
    have a1 : inL m.s (lnk 1) (nI j) := ⟨nI_pos' (by omega), by
      show nI j ≤ m.s 31 - 1
      rw [hk, show (1 : Int32) = nI 1 from rfl, pk_sub (by omega)]
      exact nI_le (by omega) (by omega)⟩
    obtain ⟨ν1, rfl, rfl, h1⟩ := sw_hl (A := fun m => waitingAtA m 1 (nI j)) hν q wai_e (by unfold waitingAtA; rw [if_pos a1])
    have e1 : (waitingAtA m 1 (nI j)).1 = m.s (31 + 1 + j) := by
      unfold waitingAtA
      rw [if_pos a1, nI_clamp (by omega)]
      rfl
    have ej : (1 : Int32) + nI j = nI (1 + j) := nI_add 1 j
    have vj : vp_in (nI (1 + j)) 22 := vpn (by omega) (by decide)
    have cj : (nI (1 + j)).toNatClampNeg = 1 + j := nI_clamp (by omega)
    have li := l1 j (by omega)
    obtain ⟨s0, s1, s2, s3, s4, s5, s6, s7, s8⟩ : LaS ν1 (x + 1492) := h1.1.2
    simp only [eL_isSo_238, eL_isSo_240, eL_isSo_241, eL_isSo_243, eL_isSo_244, eL_isSo_245, eL_isSo_248, eL_isSo_249, eL_isSo_252, eL_isSo_253, eL_isSo_255, eL_isSo_258, e1, ej, vj, cj, li, mI_lm0, mI_lm, mJ_lm, wR_lm, wR_lm0, wL_lm, qArr_lm, l19, l29, l39, l49, l59, l69, l79, l89, wI_def, up2_at, up2_2, pk_us, j10, j20, j21, j30, j31, j32, j40, j41, j42, j43, j50, j51, j52, j53, j54, j60, j70, j71, j80, j01, j02, j03, j04, j05, j06, j07, j08, j12, j13, j14, j15, j23, j24, j25, j34, j35, j45, j56, j57, j58, j65, j67, j68, j75, j76, j78, j85, j86, j87, ite_false_, ite_true_, qA_iA s5, nI_1, one0, eq_self, or_true, true_or, not_true_eq_false, not_false_eq_true, true_imp_iff, false_imp_iff, true_and, and_true, Classical.not_not]
    exact ih (j + 1) (c + 1) ν1 (by omega) (by omega) h1
theorem is2 {R : Option Value → qMM → Nat × Nat → Prop} {X : String → qMM → Nat × Nat → Prop} {μ0 : qMM} {H x : Nat} {m : Mod} {I : Nat → Nat → Int32} {J : Nat → Nat → Int64} {now : Int64} {z : Int32} (kk : LwR I J m.s now) (iv : Iv H m.s) {C : Nat} (hC : C + 20 ≤ 700) {l14 l15 l16 : Option Value} (hK : ∀ ν c l13, SoW μ0 H x m I J ν → c ≤ C + 20 → EX (SL_isSo R X) 214 [some (.ref x), some (.ref (x + 1492)), some (.ref (x + 1492 + 1)), some (.ref (x + 1492 + 3)), none, none, some (.ref (x + 1492 + 4)), some (.ref (x + 1492 + 5)), some (.ref (x + 1492 + 6)), some (.ref (x + 1492 + 7)), some (.ref (x + 1492 + 8)), some (.int z), some (.int (1)), l13, l14, l15, l16] [none, none, none, none, some (.long now), none, none, none, none, none, none, none, none, none, none, none, none] [] (lm ν (x + 1492) I J) (c, 6 * c)) : ∀ k j c ν, j + k = nOfL m.s 10 → c ≤ C + j → SoW μ0 H x m I J ν → EX (SL_isSo R X) 170 [some (.ref x), some (.ref (x + 1492)), some (.ref (x + 1492 + 1)), some (.ref (x + 1492 + 3)), none, none, some (.ref (x + 1492 + 4)), some (.ref (x + 1492 + 5)), some (.ref (x + 1492 + 6)), some (.ref (x + 1492 + 7)), some (.ref (x + 1492 + 8)), some (.int z), some (.int (1)), some (.int (nI j)), l14, l15, l16] [none, none, none, none, some (.long now), none, none, none, none, none, none, none, none, none, none, none, none] [] (lm ν (x + 1492) I J) (c, 6 * c) := by
  intro k
  obtain ⟨f, hf, hk⟩ : ∃ f : Nat, f ≤ 20 ∧ m.s 10 = nI f := (Iv_n iv).2
  have en : nOfL m.s 10 = f := by
    unfold nOfL
    rw [hk, nI_clamp (by omega)]
  rw [en]
  obtain ⟨l0, l1⟩ := kk.2.2.2.1
  rw [hk, nI_clamp (by omega)] at l1
  rw [hk] at l0
  induction k with
  | zero =>
    intro j c ν hj hc hν
    obtain ⟨s0, s1, s2, s3, s4, s5, s6, s7, s8⟩ : LaS ν (x + 1492) := hν.1.2
    have : j = f := by omega
    subst this
    rw [eL_isSo_170]
    simp only [eL_isSo_172, eL_isSo_174, eL_isSo_175, eL_isSo_176, mI_lm0, mI_lm, mJ_lm, wR_lm, wR_lm0, wL_lm, qArr_lm, l19, l29, l39, l49, l59, l69, l79, l89, wI_def, up2_at, up2_2, pk_us, j10, j20, j21, j30, j31, j32, j40, j41, j42, j43, j50, j51, j52, j53, j54, j60, j70, j71, j80, j01, j02, j03, j04, j05, j06, j07, j08, j12, j13, j14, j15, j23, j24, j25, j34, j35, j45, j56, j57, j58, j65, j67, j68, j75, j76, j78, j85, j86, j87, ite_false_, ite_true_, qA_iA s4, v0 (show 0 < 22 by decide), ci0, l0, one0, eq_self, or_true, true_or, not_true_eq_false, not_false_eq_true, true_imp_iff, false_imp_iff, true_and, and_true, Classical.not_not]
    refine ⟨fun _ => hK ν c _ hν (by omega), fun h => absurd (Int32.le_refl _) h⟩
  | succ k ih =>
    intro j c ν hj hc hν
    obtain ⟨s0, s1, s2, s3, s4, s5, s6, s7, s8⟩ : LaS ν (x + 1492) := hν.1.2
    have lt : ¬ nI f ≤ nI j := nI_ge (by omega) (by omega)
    rw [eL_isSo_170]
    simp only [eL_isSo_172, eL_isSo_174, eL_isSo_175, eL_isSo_176, mI_lm0, mI_lm, mJ_lm, wR_lm, wR_lm0, wL_lm, qArr_lm, l19, l29, l39, l49, l59, l69, l79, l89, wI_def, up2_at, up2_2, pk_us, j10, j20, j21, j30, j31, j32, j40, j41, j42, j43, j50, j51, j52, j53, j54, j60, j70, j71, j80, j01, j02, j03, j04, j05, j06, j07, j08, j12, j13, j14, j15, j23, j24, j25, j34, j35, j45, j56, j57, j58, j65, j67, j68, j75, j76, j78, j85, j86, j87, ite_false_, ite_true_, qA_iA s4, v0 (show 0 < 22 by decide), ci0, l0, one0, eq_self, or_true, true_or, not_true_eq_false, not_false_eq_true, true_imp_iff, false_imp_iff, true_and, and_true, Classical.not_not]
    refine ⟨fun h => absurd h lt, fun _ => ?_⟩
    simp only [eL_isSo_179, eL_isSo_181, eL_isSo_184, eL_isSo_185, eL_isSo_186, one0, one0, eq_self, or_true, true_or, not_true_eq_false, not_false_eq_true, true_imp_iff, false_imp_iff, true_and, and_true, Classical.not_not]
    rw [eL_isSo_188]
    refine ⟨by simp, by omega, by omega, sw_P hν, fun r μ' q => ?_⟩
    have a1 : inL m.s (lnk 0) (nI j) := ⟨nI_pos' (by omega), by
      show nI j ≤ m.s 10 - 1
      rw [hk, show (1 : Int32) = nI 1 from rfl, pk_sub (by omega)]
      exact nI_le (by omega) (by omega)⟩
    obtain ⟨ν1, rfl, rfl, h1⟩ := sw_hl (A := fun m => waitingAtA m 0 (nI j)) hν q wai_e (by unfold waitingAtA; rw [if_pos a1])
    have e1 : (waitingAtA m 0 (nI j)).1 = m.s (10 + 1 + j) := by
      unfold waitingAtA
      rw [if_pos a1, nI_clamp (by omega)]
      rfl
    have ej : (1 : Int32) + nI j = nI (1 + j) := nI_add 1 j
    have vj : vp_in (nI (1 + j)) 22 := vpn (by omega) (by decide)
    have cj : (nI (1 + j)).toNatClampNeg = 1 + j := nI_clamp (by omega)
    have li := l1 j (by omega)
    obtain ⟨s0, s1, s2, s3, s4, s5, s6, s7, s8⟩ : LaS ν1 (x + 1492) := h1.1.2
    simp only [eL_isSo_191, eL_isSo_193, eL_isSo_194, eL_isSo_196, eL_isSo_197, eL_isSo_198, eL_isSo_201, eL_isSo_202, eL_isSo_205, eL_isSo_206, eL_isSo_208, eL_isSo_211, e1, ej, vj, cj, li, mI_lm0, mI_lm, mJ_lm, wR_lm, wR_lm0, wL_lm, qArr_lm, l19, l29, l39, l49, l59, l69, l79, l89, wI_def, up2_at, up2_2, pk_us, j10, j20, j21, j30, j31, j32, j40, j41, j42, j43, j50, j51, j52, j53, j54, j60, j70, j71, j80, j01, j02, j03, j04, j05, j06, j07, j08, j12, j13, j14, j15, j23, j24, j25, j34, j35, j45, j56, j57, j58, j65, j67, j68, j75, j76, j78, j85, j86, j87, ite_false_, ite_true_, qA_iA s4, nI_1, one0, eq_self, or_true, true_or, not_true_eq_false, not_false_eq_true, true_imp_iff, false_imp_iff, true_and, and_true, Classical.not_not]
    exact ih (j + 1) (c + 1) ν1 (by omega) (by omega) h1
theorem is1 {R : Option Value → qMM → Nat × Nat → Prop} {X : String → qMM → Nat × Nat → Prop} {μ0 : qMM} {H x : Nat} {m : Mod} {I : Nat → Nat → Int32} {J : Nat → Nat → Int64} {now : Int64} {z : Int32} (kk : LwR I J m.s now) (iv : Iv H m.s) {C : Nat} (hC : C + 6 ≤ 700) {l14 l15 l16 : Option Value} (hK : ∀ ν c l13, SoW μ0 H x m I J ν → c ≤ C + 6 → EX (SL_isSo R X) 167 [some (.ref x), some (.ref (x + 1492)), some (.ref (x + 1492 + 1)), some (.ref (x + 1492 + 3)), none, none, some (.ref (x + 1492 + 4)), some (.ref (x + 1492 + 5)), some (.ref (x + 1492 + 6)), some (.ref (x + 1492 + 7)), some (.ref (x + 1492 + 8)), some (.int z), some (.int (1)), l13, l14, l15, l16] [none, none, none, none, some (.long now), none, none, none, none, none, none, none, none, none, none, none, none] [] (lm ν (x + 1492) I J) (c, 6 * c)) : ∀ k j c ν, j + k = 7 → 1 ≤ j → c + 1 ≤ C + j → SoW μ0 H x m I J ν → EX (SL_isSo R X) 126 [some (.ref x), some (.ref (x + 1492)), some (.ref (x + 1492 + 1)), some (.ref (x + 1492 + 3)), none, none, some (.ref (x + 1492 + 4)), some (.ref (x + 1492 + 5)), some (.ref (x + 1492 + 6)), some (.ref (x + 1492 + 7)), some (.ref (x + 1492 + 8)), some (.int z), some (.int (1)), some (.int (nI j)), l14, l15, l16] [none, none, none, none, some (.long now), none, none, none, none, none, none, none, none, none, none, none, none] [] (lm ν (x + 1492) I J) (c, 6 * c) := by
  intro k
  have e7 : (7 : Int32) = nI 7 := rfl
  have q10 := kk.2.1.2.2.2.2.2.2.2.2
  induction k with
  | zero =>
    intro j c ν hj hj1 hc hν
    have : j = 7 := by omega
    subst this
    rw [eL_isSo_126]
    simp only [eL_isSo_128, eL_isSo_130]
    refine ⟨fun _ => hK ν c _ hν (by omega), fun h => absurd (Int32.le_refl _) h⟩
  | succ k ih =>
    intro j c ν hj hj1 hc hν
    have lt : ¬ (7 : Int32) ≤ nI j := by rw [e7]; exact nI_ge (by omega) (by omega)
    rw [eL_isSo_126]
    simp only [eL_isSo_128, eL_isSo_130]
    refine ⟨fun h => absurd h lt, fun _ => ?_⟩
    simp only [eL_isSo_133, eL_isSo_135, eL_isSo_138, eL_isSo_139, one0, one0, eq_self, or_true, true_or, not_true_eq_false, not_false_eq_true, true_imp_iff, false_imp_iff, true_and, and_true, Classical.not_not]
    rw [eL_isSo_141]
    refine ⟨by simp, by omega, by omega, sw_P hν, fun r μ' q => ?_⟩
    have a1 : inR (nI j) 0 7 := inR_N (b := 7) (by omega) (by decide)
    obtain ⟨ν1, rfl, rfl, h1⟩ := sw_hl (A := fun m => countA m (nI j)) hν q cou_e (by unfold countA; rw [if_pos a1])
    have e1 : (countA m (nI j)).1 = m.s (45 + (11 + j)) := by
      unfold countA
      rw [if_pos a1]
      show couF m.s (nI j) = _
      unfold couF
      rw [if_neg (nI_ne0 (by omega) (by omega)), nI_clamp (by omega)]
      congr 1
      omega
    have ej : (11 : Int32) + nI j = nI (11 + j) := nI_add 11 j
    have vj : vp_in (nI (11 + j)) 21 := vpn (by omega) (by decide)
    have cj : (nI (11 + j)).toNatClampNeg = 11 + j := nI_clamp (by omega)
    have li := q10 (11 + j) (by omega) (by omega)
    obtain ⟨s0, s1, s2, s3, s4, s5, s6, s7, s8⟩ : LaS ν1 (x + 1492) := h1.1.2
    simp only [eL_isSo_144, eL_isSo_145, eL_isSo_147, eL_isSo_149, eL_isSo_150, eL_isSo_151, eL_isSo_154, eL_isSo_155, eL_isSo_158, eL_isSo_159, eL_isSo_161, eL_isSo_164, e1, ej, vj, cj, li, mI_lm0, mI_lm, mJ_lm, wR_lm, wR_lm0, wL_lm, qArr_lm, l19, l29, l39, l49, l59, l69, l79, l89, wI_def, up2_at, up2_2, pk_us, j10, j20, j21, j30, j31, j32, j40, j41, j42, j43, j50, j51, j52, j53, j54, j60, j70, j71, j80, j01, j02, j03, j04, j05, j06, j07, j08, j12, j13, j14, j15, j23, j24, j25, j34, j35, j45, j56, j57, j58, j65, j67, j68, j75, j76, j78, j85, j86, j87, ite_false_, ite_true_, qA_iA s0, nI_1, one0, eq_self, or_true, true_or, not_true_eq_false, not_false_eq_true, true_imp_iff, false_imp_iff, true_and, and_true, Classical.not_not]
    exact ih (j + 1) (c + 1) ν1 (by omega) (by omega) (by omega) h1
theorem is0 {R : Option Value → qMM → Nat × Nat → Prop} {X : String → qMM → Nat × Nat → Prop} {μ0 : qMM} {H x : Nat} {m : Mod} {I : Nat → Nat → Int32} {J : Nat → Nat → Int64} {now : Int64} {z : Int32} (kk : LwR I J m.s now) (iv : Iv H m.s) (hH : H < 2 ^ 30) (hR : ∀ ν c, SoW μ0 H x m I J ν → c ≤ 700 → R (some (.int 1)) (lm ν (x + 1492) I J) (c, 6 * c)) {ν : qMM} (hν : SoW μ0 H x m I J ν) : EX (SL_isSo R X) 0 [some (.ref x), some (.ref (x + 1492)), some (.ref (x + 1492 + 1)), some (.ref (x + 1492 + 3)), none, none, some (.ref (x + 1492 + 4)), some (.ref (x + 1492 + 5)), some (.ref (x + 1492 + 6)), some (.ref (x + 1492 + 7)), some (.ref (x + 1492 + 8)), some (.int z), none, none, none, none, none] [none, none, none, none, some (.long now), none, none, none, none, none, none, none, none, none, none, none, none] [] (lm ν (x + 1492) I J) (0, 0) := by
  have q10 := kk.2.1.2.2.2.2.2.2.2.2
  have g10 : I 0 10 = m.s 55 := q10 10 (by decide) (by decide)
  have g20 : I 0 20 = m.s 65 := q10 20 (by decide) (by decide)
  have g19 : I 0 19 = m.s 64 := q10 19 (by decide) (by decide)
  have g18 : I 0 18 = m.s 63 := q10 18 (by decide) (by decide)
  have g0 : I 0 0 = m.s 9 := kk.2.1.1
  have f0 : I 4 0 = m.s 10 := kk.2.2.2.1.1
  have b0 : I 5 0 = m.s 31 := kk.2.2.2.2.1.1
  have c10 : (10 : Int32).toNatClampNeg = 10 := by decide
  have c20 : (20 : Int32).toNatClampNeg = 20 := by decide
  have c19 : (19 : Int32).toNatClampNeg = 19 := by decide
  have c18 : (18 : Int32).toNatClampNeg = 18 := by decide
  have w10 : vp_in (10 : Int32) 21 := vpn (i := 10) (by decide) (by decide)
  have w20 : vp_in (20 : Int32) 21 := vpn (i := 20) (by decide) (by decide)
  have w19 : vp_in (19 : Int32) 21 := vpn (i := 19) (by decide) (by decide)
  have w18 : vp_in (18 : Int32) 21 := vpn (i := 18) (by decide) (by decide)
  simp only [eL_isSo_0]
  rw [eL_isSo_1]
  refine ⟨by simp, by omega, by omega, sw_t hν, sw_P hν, fun r μ' q => ?_⟩
  obtain ⟨ν1, rfl, rfl, h1⟩ := sw_tel (A := highestA) hν q (fun _ => rfl)
  have e1 : (highestA m).1 = m.s 55 := rfl
  obtain ⟨s0, s1, s2, s3, s4, s5, s6, s7, s8⟩ : LaS ν1 (x + 1492) := h1.1.2
  simp only [eL_isSo_4, eL_isSo_5, eL_isSo_7, eL_isSo_8, eL_isSo_11, e1, mI_lm0, mI_lm, mJ_lm, wR_lm, wR_lm0, wL_lm, qArr_lm, l19, l29, l39, l49, l59, l69, l79, l89, wI_def, up2_at, up2_2, pk_us, j10, j20, j21, j30, j31, j32, j40, j41, j42, j43, j50, j51, j52, j53, j54, j60, j70, j71, j80, j01, j02, j03, j04, j05, j06, j07, j08, j12, j13, j14, j15, j23, j24, j25, j34, j35, j45, j56, j57, j58, j65, j67, j68, j75, j76, j78, j85, j86, j87, ite_false_, ite_true_, qA_iA s0, qA_iA s4, qA_iA s5, v0 (show 0 < 21 by decide), v0 (show 0 < 22 by decide), ci0, c10, c20, c19, c18, w10, w20, w19, w18, g10, g20, g19, g18, g0, f0, b0, one0, eq_self, or_true, true_or, not_true_eq_false, not_false_eq_true, true_imp_iff, false_imp_iff, true_and, and_true, Classical.not_not]
  rw [eL_isSo_12]
  refine ⟨by simp, by omega, by omega, sw_t h1, sw_P h1, fun r μ' q => ?_⟩
  clear s0 s1 s2 s3 s4 s5 s6 s7 s8
  obtain ⟨ν2, rfl, rfl, h2⟩ := sw_tel (A := latenessA) h1 q (fun _ => rfl)
  have e2 : (latenessA m).1 = m.s 65 := rfl
  obtain ⟨s0, s1, s2, s3, s4, s5, s6, s7, s8⟩ : LaS ν2 (x + 1492) := h2.1.2
  simp only [eL_isSo_15, eL_isSo_16, eL_isSo_18, eL_isSo_19, eL_isSo_22, e2, mI_lm0, mI_lm, mJ_lm, wR_lm, wR_lm0, wL_lm, qArr_lm, l19, l29, l39, l49, l59, l69, l79, l89, wI_def, up2_at, up2_2, pk_us, j10, j20, j21, j30, j31, j32, j40, j41, j42, j43, j50, j51, j52, j53, j54, j60, j70, j71, j80, j01, j02, j03, j04, j05, j06, j07, j08, j12, j13, j14, j15, j23, j24, j25, j34, j35, j45, j56, j57, j58, j65, j67, j68, j75, j76, j78, j85, j86, j87, ite_false_, ite_true_, qA_iA s0, qA_iA s4, qA_iA s5, v0 (show 0 < 21 by decide), v0 (show 0 < 22 by decide), ci0, c10, c20, c19, c18, w10, w20, w19, w18, g10, g20, g19, g18, g0, f0, b0, one0, eq_self, or_true, true_or, not_true_eq_false, not_false_eq_true, true_imp_iff, false_imp_iff, true_and, and_true, Classical.not_not]
  rw [eL_isSo_23]
  refine ⟨by simp, by omega, by omega, sw_t h2, sw_P h2, fun r μ' q => ?_⟩
  clear s0 s1 s2 s3 s4 s5 s6 s7 s8
  obtain ⟨ν3, rfl, rfl, h3⟩ := sw_tel (A := savedA) h2 q (fun _ => rfl)
  have e3 : (savedA m).1 = 6 * m.s 9 - m.s 64 := rfl
  obtain ⟨s0, s1, s2, s3, s4, s5, s6, s7, s8⟩ : LaS ν3 (x + 1492) := h3.1.2
  simp only [eL_isSo_26, eL_isSo_28, eL_isSo_29, eL_isSo_30, eL_isSo_31, eL_isSo_32, eL_isSo_33, eL_isSo_35, eL_isSo_36, eL_isSo_37, eL_isSo_40, eL_isSo_41, e3, mI_lm0, mI_lm, mJ_lm, wR_lm, wR_lm0, wL_lm, qArr_lm, l19, l29, l39, l49, l59, l69, l79, l89, wI_def, up2_at, up2_2, pk_us, j10, j20, j21, j30, j31, j32, j40, j41, j42, j43, j50, j51, j52, j53, j54, j60, j70, j71, j80, j01, j02, j03, j04, j05, j06, j07, j08, j12, j13, j14, j15, j23, j24, j25, j34, j35, j45, j56, j57, j58, j65, j67, j68, j75, j76, j78, j85, j86, j87, ite_false_, ite_true_, qA_iA s0, qA_iA s4, qA_iA s5, v0 (show 0 < 21 by decide), v0 (show 0 < 22 by decide), ci0, c10, c20, c19, c18, w10, w20, w19, w18, g10, g20, g19, g18, g0, f0, b0, one0, eq_self, or_true, true_or, not_true_eq_false, not_false_eq_true, true_imp_iff, false_imp_iff, true_and, and_true, Classical.not_not]
  rw [eL_isSo_42]
  refine ⟨by simp, by omega, by omega, sw_t h3, sw_P h3, fun r μ' q => ?_⟩
  clear s0 s1 s2 s3 s4 s5 s6 s7 s8
  obtain ⟨ν4, rfl, rfl, h4⟩ := sw_tel (A := fun m => waitingA m 0) h3 q (fun _ => rfl)
  have e4 : ((fun m => waitingA m 0) m).1 = m.s 10 := rfl
  obtain ⟨s0, s1, s2, s3, s4, s5, s6, s7, s8⟩ : LaS ν4 (x + 1492) := h4.1.2
  simp only [eL_isSo_45, eL_isSo_47, eL_isSo_48, eL_isSo_49, eL_isSo_52, eL_isSo_53, e4, mI_lm0, mI_lm, mJ_lm, wR_lm, wR_lm0, wL_lm, qArr_lm, l19, l29, l39, l49, l59, l69, l79, l89, wI_def, up2_at, up2_2, pk_us, j10, j20, j21, j30, j31, j32, j40, j41, j42, j43, j50, j51, j52, j53, j54, j60, j70, j71, j80, j01, j02, j03, j04, j05, j06, j07, j08, j12, j13, j14, j15, j23, j24, j25, j34, j35, j45, j56, j57, j58, j65, j67, j68, j75, j76, j78, j85, j86, j87, ite_false_, ite_true_, qA_iA s0, qA_iA s4, qA_iA s5, v0 (show 0 < 21 by decide), v0 (show 0 < 22 by decide), ci0, c10, c20, c19, c18, w10, w20, w19, w18, g10, g20, g19, g18, g0, f0, b0, one0, eq_self, or_true, true_or, not_true_eq_false, not_false_eq_true, true_imp_iff, false_imp_iff, true_and, and_true, Classical.not_not]
  rw [eL_isSo_54]
  refine ⟨by simp, by omega, by omega, sw_t h4, sw_P h4, fun r μ' q => ?_⟩
  clear s0 s1 s2 s3 s4 s5 s6 s7 s8
  obtain ⟨ν5, rfl, rfl, h5⟩ := sw_tel (A := fun m => waitingA m 1) h4 q (fun _ => rfl)
  have e5 : ((fun m => waitingA m 1) m).1 = m.s 31 := rfl
  obtain ⟨s0, s1, s2, s3, s4, s5, s6, s7, s8⟩ : LaS ν5 (x + 1492) := h5.1.2
  simp only [eL_isSo_57, eL_isSo_59, eL_isSo_60, eL_isSo_61, eL_isSo_64, eL_isSo_65, e5, mI_lm0, mI_lm, mJ_lm, wR_lm, wR_lm0, wL_lm, qArr_lm, l19, l29, l39, l49, l59, l69, l79, l89, wI_def, up2_at, up2_2, pk_us, j10, j20, j21, j30, j31, j32, j40, j41, j42, j43, j50, j51, j52, j53, j54, j60, j70, j71, j80, j01, j02, j03, j04, j05, j06, j07, j08, j12, j13, j14, j15, j23, j24, j25, j34, j35, j45, j56, j57, j58, j65, j67, j68, j75, j76, j78, j85, j86, j87, ite_false_, ite_true_, qA_iA s0, qA_iA s4, qA_iA s5, v0 (show 0 < 21 by decide), v0 (show 0 < 22 by decide), ci0, c10, c20, c19, c18, w10, w20, w19, w18, g10, g20, g19, g18, g0, f0, b0, one0, eq_self, or_true, true_or, not_true_eq_false, not_false_eq_true, true_imp_iff, false_imp_iff, true_and, and_true, Classical.not_not]
  rw [eL_isSo_66]
  refine ⟨by simp, by omega, by omega, sw_P h5, fun r μ' q => ?_⟩
  clear s0 s1 s2 s3 s4 s5 s6 s7 s8
  obtain ⟨ν6, rfl, rfl, h6⟩ := sw_hl (A := fun m => countA m 0) h5 q cou_e (by unfold countA; rw [if_pos (by decide)])
  have e6 : (countA m 0).1 = m.s 9 := by
    unfold countA
    rw [if_pos (by decide)]
    rfl
  obtain ⟨s0, s1, s2, s3, s4, s5, s6, s7, s8⟩ : LaS ν6 (x + 1492) := h6.1.2
  simp only [eL_isSo_69, eL_isSo_70, eL_isSo_71, eL_isSo_72, eL_isSo_75, eL_isSo_76, e6, mI_lm0, mI_lm, mJ_lm, wR_lm, wR_lm0, wL_lm, qArr_lm, l19, l29, l39, l49, l59, l69, l79, l89, wI_def, up2_at, up2_2, pk_us, j10, j20, j21, j30, j31, j32, j40, j41, j42, j43, j50, j51, j52, j53, j54, j60, j70, j71, j80, j01, j02, j03, j04, j05, j06, j07, j08, j12, j13, j14, j15, j23, j24, j25, j34, j35, j45, j56, j57, j58, j65, j67, j68, j75, j76, j78, j85, j86, j87, ite_false_, ite_true_, qA_iA s0, qA_iA s4, qA_iA s5, v0 (show 0 < 21 by decide), v0 (show 0 < 22 by decide), ci0, c10, c20, c19, c18, w10, w20, w19, w18, g10, g20, g19, g18, g0, f0, b0, one0, eq_self, or_true, true_or, not_true_eq_false, not_false_eq_true, true_imp_iff, false_imp_iff, true_and, and_true, Classical.not_not]
  rw [eL_isSo_78]
  refine ⟨by simp, by omega, by omega, sw_P h6, fun r μ' q => ?_⟩
  clear s0 s1 s2 s3 s4 s5 s6 s7 s8
  obtain ⟨ν7, rfl, rfl, h7⟩ := sw_hl (A := fun m => countA m 7) h6 q cou_e (by unfold countA; rw [if_pos (by decide)])
  have e7 : (countA m 7).1 = m.s 63 := by
    unfold countA
    rw [if_pos (by decide)]
    rfl
  obtain ⟨s0, s1, s2, s3, s4, s5, s6, s7, s8⟩ : LaS ν7 (x + 1492) := h7.1.2
  simp only [eL_isSo_81, eL_isSo_82, eL_isSo_84, eL_isSo_85, eL_isSo_88, e7, mI_lm0, mI_lm, mJ_lm, wR_lm, wR_lm0, wL_lm, qArr_lm, l19, l29, l39, l49, l59, l69, l79, l89, wI_def, up2_at, up2_2, pk_us, j10, j20, j21, j30, j31, j32, j40, j41, j42, j43, j50, j51, j52, j53, j54, j60, j70, j71, j80, j01, j02, j03, j04, j05, j06, j07, j08, j12, j13, j14, j15, j23, j24, j25, j34, j35, j45, j56, j57, j58, j65, j67, j68, j75, j76, j78, j85, j86, j87, ite_false_, ite_true_, qA_iA s0, qA_iA s4, qA_iA s5, v0 (show 0 < 21 by decide), v0 (show 0 < 22 by decide), ci0, c10, c20, c19, c18, w10, w20, w19, w18, g10, g20, g19, g18, g0, f0, b0, one0, eq_self, or_true, true_or, not_true_eq_false, not_false_eq_true, true_imp_iff, false_imp_iff, true_and, and_true, Classical.not_not]
  rw [eL_isSo_89]
  refine ⟨by simp, by omega, by omega, sw_t h7, sw_P h7, fun r μ' q => ?_⟩
  clear s0 s1 s2 s3 s4 s5 s6 s7 s8
  obtain ⟨ν8, rfl, rfl, h8⟩ := sw_d h7 q
  obtain ⟨s0, s1, s2, s3, s4, s5, s6, s7, s8⟩ : LaS ν8 (x + 1492) := h8.1.2
  have go : EX (SL_isSo R X) 126 [some (.ref x), some (.ref (x + 1492)), some (.ref (x + 1492 + 1)), some (.ref (x + 1492 + 3)), none, none, some (.ref (x + 1492 + 4)), some (.ref (x + 1492 + 5)), some (.ref (x + 1492 + 6)), some (.ref (x + 1492 + 7)), some (.ref (x + 1492 + 8)), some (.int z), some (.int (1)), some (.int (1)), none, none, none] [none, none, none, none, some (.long now), none, none, none, none, none, none, none, none, none, none, none, none] [] (lm ν8 (x + 1492) I J) (0 + 1 + 1, 0 + 6 + 6) := by
    refine is1 kk iv (C := 2) (by decide) (fun ν c l13 a1 a2 => ?_) 6 1 2 ν8 (by decide) (by decide) (by decide) h8
    simp only [eL_isSo_167, eL_isSo_168]
    refine is2 kk iv (C := 8) (by decide) (fun ν c l13 a1 a2 => ?_) _ 0 c ν (Nat.zero_add _) (by omega) a1
    simp only [eL_isSo_214, eL_isSo_215]
    refine is3 kk iv (C := 28) (by decide) (fun ν c l13 a1 a2 => ?_) _ 0 c ν (Nat.zero_add _) (by omega) a1
    simp only [eL_isSo_261, eL_isSo_262, eL_isSo_264, eL_isSo_265]
    refine is4 kk iv (C := 48) (by decide) hH (fun ν c l14 l15 l16 a1 a2 => ?_) 64 0 c ν _ _ (by decide) (by omega) a1
    refine is5 kk iv (C := 432) (by decide) (fun ν c l14 l15 a1 a2 => ?_) a1 (by omega)
    simp only [eL_isSo_621, eL_isSo_622]
    refine is6 kk iv (C := 440) (by decide) (fun ν c l15 a1 a2 => ?_) 4 0 c ν (by decide) (by omega) a1
    exact is7 kk iv a1 (by omega) hR
  by_cases hz : m.s 9 = 0
  · have em : meaF m.s = FP.dconst0 := by
      unfold meaF
      rw [if_pos hz]
    have nn : vf_n64 FP.dconst0 := em ▸ mea_ok m.s
    simp only [eL_isSo_92, eL_isSo_93, eL_isSo_94, eL_isSo_95, eL_isSo_98, eL_isSo_99, eL_isSo_102, eL_isSo_103, eL_isSo_105, eL_isSo_106, eL_isSo_107, eL_isSo_108, eL_isSo_109, eL_isSo_110, eL_isSo_111, eL_isSo_112, eL_isSo_113, eL_isSo_116, eL_isSo_117, eL_isSo_120, eL_isSo_121, eL_isSo_123, eL_isSo_124, em, dcm_s nn, hz, mI_lm0, mI_lm, mJ_lm, wR_lm, wR_lm0, wL_lm, qArr_lm, l19, l29, l39, l49, l59, l69, l79, l89, wI_def, up2_at, up2_2, pk_us, j10, j20, j21, j30, j31, j32, j40, j41, j42, j43, j50, j51, j52, j53, j54, j60, j70, j71, j80, j01, j02, j03, j04, j05, j06, j07, j08, j12, j13, j14, j15, j23, j24, j25, j34, j35, j45, j56, j57, j58, j65, j67, j68, j75, j76, j78, j85, j86, j87, ite_false_, ite_true_, qA_iA s0, qA_iA s4, qA_iA s5, v0 (show 0 < 21 by decide), v0 (show 0 < 22 by decide), ci0, c10, c20, c19, c18, w10, w20, w19, w18, g10, g20, g19, g18, g0, f0, b0, one0, eq_self, or_true, true_or, not_true_eq_false, not_false_eq_true, true_imp_iff, false_imp_iff, true_and, and_true, Classical.not_not]
    exact go
  · have em : meaF m.s = FP.ddiv (FP.i2d (m.s 64)) (FP.i2d (m.s 9)) := by
      unfold meaF
      rw [if_neg hz]
    have nn : vf_n64 (FP.ddiv (FP.i2d (m.s 64)) (FP.i2d (m.s 9))) := dd_ok _ hz
    simp only [eL_isSo_92, eL_isSo_93, eL_isSo_94, eL_isSo_95, eL_isSo_98, eL_isSo_99, eL_isSo_102, eL_isSo_103, eL_isSo_105, eL_isSo_106, eL_isSo_107, eL_isSo_108, eL_isSo_109, eL_isSo_110, eL_isSo_111, eL_isSo_112, eL_isSo_113, eL_isSo_116, eL_isSo_117, eL_isSo_120, eL_isSo_121, eL_isSo_123, eL_isSo_124, em, dcm_s nn, nn, hz, mI_lm0, mI_lm, mJ_lm, wR_lm, wR_lm0, wL_lm, qArr_lm, l19, l29, l39, l49, l59, l69, l79, l89, wI_def, up2_at, up2_2, pk_us, j10, j20, j21, j30, j31, j32, j40, j41, j42, j43, j50, j51, j52, j53, j54, j60, j70, j71, j80, j01, j02, j03, j04, j05, j06, j07, j08, j12, j13, j14, j15, j23, j24, j25, j34, j35, j45, j56, j57, j58, j65, j67, j68, j75, j76, j78, j85, j86, j87, ite_false_, ite_true_, qA_iA s0, qA_iA s4, qA_iA s5, v0 (show 0 < 21 by decide), v0 (show 0 < 22 by decide), ci0, c10, c20, c19, c18, w10, w20, w19, w18, g10, g20, g19, g18, g0, f0, b0, one0, eq_self, or_true, true_or, not_true_eq_false, not_false_eq_true, true_imp_iff, false_imp_iff, true_and, and_true, Classical.not_not]
    exact go
theorem xL_isSo (x1 : Nat) (x2 : Nat) (x3 : Nat) (x4 : Nat) (x5 : Int64) (x6 : Nat) (x7 : Nat) (x8 : Nat) (x9 : Nat) (x10 : Nat) (x11 : Int32) (μ : qMM) (hp : PL_isSo x1 x2 x3 x4 x5 x6 x7 x8 x9 x10 x11 μ) : EX (SL_isSo (rti 700 4200 (QL_isSo x1 x2 x3 x4 x5 x6 x7 x8 x9 x10 x11 μ)) (fun _ _ _ => False)) 0 [some (.ref x1), some (.ref x2), some (.ref x3), some (.ref x4), none, none, some (.ref x6), some (.ref x7), some (.ref x8), some (.ref x9), some (.ref x10), some (.int x11), none, none, none, none, none] [none, none, none, none, some (.long x5), none, none, none, none, none, none, none, none, none, none, none, none] [] μ (0, 0) := by
  obtain ⟨rfl, rfl, rfl, rfl, rfl, rfl, rfl, rfl, H, m, I, J, ν, rfl, hV, kk⟩ := hp
  have iv := HsP_iv hV.1
  refine is0 kk iv (by have := hV.1.2.2.1; omega) (fun ν' c hν hc => ?_) ⟨hV, Kp_refl⟩
  simp only [rtv_at, rti_at, rtj_at, rtd_at, rta_at, qOk, qOkR]
  exact ⟨⟨rfl, hν.2⟩, hc, by omega⟩
