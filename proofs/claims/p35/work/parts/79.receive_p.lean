/-! ===== bodies: a packet is received (by program: wip/p35/gen/recv.py) ===== -/
theorem slx {x : Int32} (h : 0 ≤ x) : vp_in (x - x / 64 * 64) 64 ∧ (x - x / 64 * 64).toNatClampNeg = slotOf x := by
  have e := rem_nn h
  have s := slot_and x
  rw [e, s.1]
  exact ⟨vp64 s.2, nI_clamp (by omega)⟩
theorem up2_self {α : Type} {I : Nat → α} {k : Nat} : up2 I k (I k) = I := by
  funext j
  unfold up2
  by_cases h : j = k
  · rw [if_pos h, h]
  · rw [if_neg h]
theorem up2_n {α : Type} {I : Nat → α} {k j : Nat} {f : α} (h : j ≠ k) : up2 I k f j = I j := if_neg h
theorem rvC {R : Option Value → qMM → Nat × Nat → Prop} {X : String → qMM → Nat × Nat → Prop} {μ : qMM} {x1 p : Nat} {I : Nat → Nat → Int32} {J : Nat → Nat → Int64} (hS : LaS μ x1) (hp : p < 64) (x : Int32) (hh : Int64) {l9 l13 l14 l15 j16 j18 : Option Value} (hR : R (some (.int (if x = nI p ∧ hh = J 1 p then 0 else 1))) (lm μ x1 (up2 I 0 (if x = nI p ∧ hh = J 1 p then upd (I 0) 13 (I 0 13 + 1) else upd (I 0) 14 (I 0 14 + 1))) J) (0, 0)) : EX (SL_receive R X) 489 [some (.ref x1), some (.ref (x1 + 1)), some (.ref (x1 + 2)), some (.ref (x1 + 3)), some (.ref (x1 + 6)), some (.ref (x1 + 7)), some (.ref (x1 + 8)), some (.ref (x1 + 5)), some (.int (nI p)), l9, some (.int (x)), none, none, l13, l14, l15, none, none, none, none] [none, none, none, none, none, none, none, none, none, none, none, some (.long (hh)), none, none, none, none, j16, none, j18, none] [] (lm μ x1 I J) (0, 0) := by
  obtain ⟨s0, s1, s2, s3, s4, s5, s6, s7, s8⟩ := id hS
  have c8 : (8 : Int32).toNatClampNeg = 8 := by decide
  have c9 : (9 : Int32).toNatClampNeg = 9 := by decide
  have c10 : (10 : Int32).toNatClampNeg = 10 := by decide
  have c11 : (11 : Int32).toNatClampNeg = 11 := by decide
  have c12 : (12 : Int32).toNatClampNeg = 12 := by decide
  have c13 : (13 : Int32).toNatClampNeg = 13 := by decide
  have c14 : (14 : Int32).toNatClampNeg = 14 := by decide
  have c15 : (15 : Int32).toNatClampNeg = 15 := by decide
  have c16 : (16 : Int32).toNatClampNeg = 16 := by decide
  have c17 : (17 : Int32).toNatClampNeg = 17 := by decide
  have c20 : (20 : Int32).toNatClampNeg = 20 := by decide
  have w8 : vp_in (8 : Int32) 21 := vpn (i := 8) (by decide) (by decide)
  have w9 : vp_in (9 : Int32) 21 := vpn (i := 9) (by decide) (by decide)
  have w10 : vp_in (10 : Int32) 21 := vpn (i := 10) (by decide) (by decide)
  have w11 : vp_in (11 : Int32) 21 := vpn (i := 11) (by decide) (by decide)
  have w12 : vp_in (12 : Int32) 21 := vpn (i := 12) (by decide) (by decide)
  have w13 : vp_in (13 : Int32) 21 := vpn (i := 13) (by decide) (by decide)
  have w14 : vp_in (14 : Int32) 21 := vpn (i := 14) (by decide) (by decide)
  have w15 : vp_in (15 : Int32) 21 := vpn (i := 15) (by decide) (by decide)
  have w16 : vp_in (16 : Int32) 21 := vpn (i := 16) (by decide) (by decide)
  have w17 : vp_in (17 : Int32) 21 := vpn (i := 17) (by decide) (by decide)
  have w20 : vp_in (20 : Int32) 21 := vpn (i := 20) (by decide) (by decide)
  have vp : vp_in (nI p) 64 := vpn hp (by decide)
  have cp : (nI p).toNatClampNeg = p := nI_clamp (by omega)
  have z64 : ¬ (64 : Int32) = 0 := by decide
  by_cases g : x = nI p ∧ hh = J 1 p
  · rw [if_pos g, if_pos g] at hR
    simp only [eL_receive_489, eL_receive_491, eL_receive_493, eL_receive_496, eL_receive_498, eL_receive_499, eL_receive_501, eL_receive_502, eL_receive_503, eL_receive_506, eL_receive_507, eL_receive_510, eL_receive_511, eL_receive_513, eL_receive_514, eL_receive_516, eL_receive_519, eL_receive_521, eL_receive_524, eL_receive_526, eL_receive_527, eL_receive_528, eL_receive_529, eL_receive_530, eL_receive_531, eL_receive_533, eL_receive_536, eL_receive_537, eL_receive_540, eL_receive_541, mI_lm0, mI_lm, mJ_lm, wR_lm, wR_lm0, wL_lm, qArr_lm, l19, l29, l39, l49, l59, l69, l79, l89, wI_def, up2_at, up2_2, pk_us, j10, j20, j21, j30, j31, j32, j40, j41, j42, j43, j50, j51, j52, j53, j54, j60, j70, j71, j80, j01, j02, j03, j04, j05, j06, j07, j08, j12, j13, j14, j15, j23, j24, j25, j34, j35, j45, j56, j57, j58, j65, j67, j68, j75, j76, j78, j85, j86, j87, ite_false_, ite_true_, qA_iA s0, qA_jA s1, c8, c9, c10, c11, c12, c13, c14, c15, c16, c17, c20, w8, w9, w10, w11, w12, w13, w14, w15, w16, w17, w20, vp, cp, z64, lg_cmp_eq, g.1, g.2, one0, eq_self, or_true, true_or, not_true_eq_false, not_false_eq_true, true_imp_iff, false_imp_iff, true_and, and_true, Classical.not_not, one0]
    exact ⟨trivial, hR⟩
  · rw [if_neg g, if_neg g] at hR
    by_cases g1 : x = nI p
    · have g2 : ¬ hh = J 1 p := fun q => g ⟨g1, q⟩
      simp only [eL_receive_489, eL_receive_491, eL_receive_493, eL_receive_496, eL_receive_498, eL_receive_499, eL_receive_501, eL_receive_502, eL_receive_503, eL_receive_506, eL_receive_507, eL_receive_510, eL_receive_511, eL_receive_513, eL_receive_514, eL_receive_516, eL_receive_519, eL_receive_521, eL_receive_524, eL_receive_526, eL_receive_527, eL_receive_528, eL_receive_529, eL_receive_530, eL_receive_531, eL_receive_533, eL_receive_536, eL_receive_537, eL_receive_540, eL_receive_541, mI_lm0, mI_lm, mJ_lm, wR_lm, wR_lm0, wL_lm, qArr_lm, l19, l29, l39, l49, l59, l69, l79, l89, wI_def, up2_at, up2_2, pk_us, j10, j20, j21, j30, j31, j32, j40, j41, j42, j43, j50, j51, j52, j53, j54, j60, j70, j71, j80, j01, j02, j03, j04, j05, j06, j07, j08, j12, j13, j14, j15, j23, j24, j25, j34, j35, j45, j56, j57, j58, j65, j67, j68, j75, j76, j78, j85, j86, j87, ite_false_, ite_true_, qA_iA s0, qA_jA s1, c8, c9, c10, c11, c12, c13, c14, c15, c16, c17, c20, w8, w9, w10, w11, w12, w13, w14, w15, w16, w17, w20, vp, cp, z64, lg_cmp_eq, g1, g2, one0, eq_self, or_true, true_or, not_true_eq_false, not_false_eq_true, true_imp_iff, false_imp_iff, true_and, and_true, Classical.not_not, one0]
      exact ⟨trivial, hR⟩
    · simp only [eL_receive_489, eL_receive_491, eL_receive_493, eL_receive_496, eL_receive_498, eL_receive_499, eL_receive_501, eL_receive_502, eL_receive_503, eL_receive_506, eL_receive_507, eL_receive_510, eL_receive_511, eL_receive_513, eL_receive_514, eL_receive_516, eL_receive_519, eL_receive_521, eL_receive_524, eL_receive_526, eL_receive_527, eL_receive_528, eL_receive_529, eL_receive_530, eL_receive_531, eL_receive_533, eL_receive_536, eL_receive_537, eL_receive_540, eL_receive_541, mI_lm0, mI_lm, mJ_lm, wR_lm, wR_lm0, wL_lm, qArr_lm, l19, l29, l39, l49, l59, l69, l79, l89, wI_def, up2_at, up2_2, pk_us, j10, j20, j21, j30, j31, j32, j40, j41, j42, j43, j50, j51, j52, j53, j54, j60, j70, j71, j80, j01, j02, j03, j04, j05, j06, j07, j08, j12, j13, j14, j15, j23, j24, j25, j34, j35, j45, j56, j57, j58, j65, j67, j68, j75, j76, j78, j85, j86, j87, ite_false_, ite_true_, qA_iA s0, qA_jA s1, c8, c9, c10, c11, c12, c13, c14, c15, c16, c17, c20, w8, w9, w10, w11, w12, w13, w14, w15, w16, w17, w20, vp, cp, z64, lg_cmp_eq, g1, one0, eq_self, or_true, true_or, not_true_eq_false, not_false_eq_true, true_imp_iff, false_imp_iff, true_and, and_true, Classical.not_not, one0]
      exact ⟨trivial, hR⟩
theorem rvB {R : Option Value → qMM → Nat × Nat → Prop} {X : String → qMM → Nat × Nat → Prop} {μ : qMM} {x1 p : Nat} {I : Nat → Nat → Int32} {J : Nat → Nat → Int64} (hS : LaS μ x1) (hp : p < 64) (x : Int32) (hh : Int64) (h8 : ¬ I 0 8 = 0) (hb : ∃ b : Nat, b ≤ 20 ∧ I 5 0 = nI b) {l9 l13 l14 l15 j16 j18 : Option Value} (hR : R (some (.int (if x = nI p ∧ hh = J 1 p then 0 else 1))) (lm μ x1 (up2 (up2 (up2 I 0 (upd (upd (I 0) 12 (I 0 12 + 1)) 11 0)) 5 (if remF (I 0 12 + 1) (I 0 8) = 0 then msF (I 5) x else I 5)) 0 (if x = nI p ∧ hh = J 1 p then upd (upd (upd (I 0) 12 (I 0 12 + 1)) 11 0) 13 (I 0 13 + 1) else upd (upd (upd (I 0) 12 (I 0 12 + 1)) 11 0) 14 (I 0 14 + 1))) J) (0, 0)) : EX (SL_receive R X) 457 [some (.ref x1), some (.ref (x1 + 1)), some (.ref (x1 + 2)), some (.ref (x1 + 3)), some (.ref (x1 + 6)), some (.ref (x1 + 7)), some (.ref (x1 + 8)), some (.ref (x1 + 5)), some (.int (nI p)), l9, some (.int (x)), none, none, l13, l14, l15, none, none, none, none] [none, none, none, none, none, none, none, none, none, none, none, some (.long (hh)), none, none, none, none, j16, none, j18, none] [] (lm μ x1 I J) (0, 0) := by
  obtain ⟨s0, s1, s2, s3, s4, s5, s6, s7, s8⟩ := id hS
  have c8 : (8 : Int32).toNatClampNeg = 8 := by decide
  have c9 : (9 : Int32).toNatClampNeg = 9 := by decide
  have c10 : (10 : Int32).toNatClampNeg = 10 := by decide
  have c11 : (11 : Int32).toNatClampNeg = 11 := by decide
  have c12 : (12 : Int32).toNatClampNeg = 12 := by decide
  have c13 : (13 : Int32).toNatClampNeg = 13 := by decide
  have c14 : (14 : Int32).toNatClampNeg = 14 := by decide
  have c15 : (15 : Int32).toNatClampNeg = 15 := by decide
  have c16 : (16 : Int32).toNatClampNeg = 16 := by decide
  have c17 : (17 : Int32).toNatClampNeg = 17 := by decide
  have c20 : (20 : Int32).toNatClampNeg = 20 := by decide
  have w8 : vp_in (8 : Int32) 21 := vpn (i := 8) (by decide) (by decide)
  have w9 : vp_in (9 : Int32) 21 := vpn (i := 9) (by decide) (by decide)
  have w10 : vp_in (10 : Int32) 21 := vpn (i := 10) (by decide) (by decide)
  have w11 : vp_in (11 : Int32) 21 := vpn (i := 11) (by decide) (by decide)
  have w12 : vp_in (12 : Int32) 21 := vpn (i := 12) (by decide) (by decide)
  have w13 : vp_in (13 : Int32) 21 := vpn (i := 13) (by decide) (by decide)
  have w14 : vp_in (14 : Int32) 21 := vpn (i := 14) (by decide) (by decide)
  have w15 : vp_in (15 : Int32) 21 := vpn (i := 15) (by decide) (by decide)
  have w16 : vp_in (16 : Int32) 21 := vpn (i := 16) (by decide) (by decide)
  have w17 : vp_in (17 : Int32) 21 := vpn (i := 17) (by decide) (by decide)
  have w20 : vp_in (20 : Int32) 21 := vpn (i := 20) (by decide) (by decide)
  have vp : vp_in (nI p) 64 := vpn hp (by decide)
  have cp : (nI p).toNatClampNeg = p := nI_clamp (by omega)
  have z64 : ¬ (64 : Int32) = 0 := by decide
  have e12 : (upd (upd (I 0) 12 (I 0 12 + 1)) 11 0) 12 = I 0 12 + 1 := by simp [up_at]
  have e8 : (upd (upd (I 0) 12 (I 0 12 + 1)) 11 0) 8 = I 0 8 := by simp [up_at]
  have e13 : (upd (upd (I 0) 12 (I 0 12 + 1)) 11 0) 13 = I 0 13 := by simp [up_at]
  have e14 : (upd (upd (I 0) 12 (I 0 12 + 1)) 11 0) 14 = I 0 14 := by simp [up_at]
  obtain ⟨b, hb1, hb2⟩ := hb
  have hM : ∀ K, K 5 = I 5 → PL_message (x1 + 5) x (lm μ x1 K J) := fun K hK => ⟨s5, b, hb1, by rw [mI_lm (by decide), hK]; exact hb2⟩
  simp only [eL_receive_457, eL_receive_458, eL_receive_460, eL_receive_461, eL_receive_462, eL_receive_463, eL_receive_464, eL_receive_465, eL_receive_466, eL_receive_468, eL_receive_469, eL_receive_470, eL_receive_471, eL_receive_473, eL_receive_474, eL_receive_475, eL_receive_477, eL_receive_478, eL_receive_479, mI_lm0, mI_lm, mJ_lm, wR_lm, wR_lm0, wL_lm, qArr_lm, l19, l29, l39, l49, l59, l69, l79, l89, wI_def, up2_at, up2_2, pk_us, j10, j20, j21, j30, j31, j32, j40, j41, j42, j43, j50, j51, j52, j53, j54, j60, j70, j71, j80, j01, j02, j03, j04, j05, j06, j07, j08, j12, j13, j14, j15, j23, j24, j25, j34, j35, j45, j56, j57, j58, j65, j67, j68, j75, j76, j78, j85, j86, j87, ite_false_, ite_true_, qA_iA s0, c8, c9, c10, c11, c12, c13, c14, c15, c16, c17, c20, w8, w9, w10, w11, w12, w13, w14, w15, w16, w17, w20, vp, cp, z64, e12, e8, h8, one0, eq_self, or_true, true_or, not_true_eq_false, not_false_eq_true, true_imp_iff, false_imp_iff, true_and, and_true, Classical.not_not]
  by_cases g : remF (I 0 12 + 1) (I 0 8) = 0
  · rw [if_pos g] at hR
    refine ⟨fun h => absurd g h, fun _ => ?_⟩
    simp only [eL_receive_482, eL_receive_484, eL_receive_486, hM _ (up2_n (show (5 : Nat) ≠ 0 by decide)), QL_message, forall_eq, mI_lm0, mI_lm, mJ_lm, wR_lm, wR_lm0, wL_lm, qArr_lm, l19, l29, l39, l49, l59, l69, l79, l89, wI_def, up2_at, up2_2, pk_us, j10, j20, j21, j30, j31, j32, j40, j41, j42, j43, j50, j51, j52, j53, j54, j60, j70, j71, j80, j01, j02, j03, j04, j05, j06, j07, j08, j12, j13, j14, j15, j23, j24, j25, j34, j35, j45, j56, j57, j58, j65, j67, j68, j75, j76, j78, j85, j86, j87, ite_false_, ite_true_, c8, c9, c10, c11, c12, c13, c14, c15, c16, c17, c20, w8, w9, w10, w11, w12, w13, w14, w15, w16, w17, w20, vp, cp, z64, List.length_nil, List.length_cons, ll0, ll1, ll2, ll3, ll4, Nat.le_refl, and_true, Nat.zero_add, Nat.add_zero, Nat.zero_le, one0, eq_self, or_true, true_or, not_true_eq_false, not_false_eq_true, true_imp_iff, false_imp_iff, true_and, and_true, Classical.not_not]
    refine rvC hS hp x hh ?_
    simp only [mI_lm0, mI_lm, mJ_lm, wR_lm, wR_lm0, wL_lm, qArr_lm, l19, l29, l39, l49, l59, l69, l79, l89, wI_def, up2_at, up2_2, pk_us, j10, j20, j21, j30, j31, j32, j40, j41, j42, j43, j50, j51, j52, j53, j54, j60, j70, j71, j80, j01, j02, j03, j04, j05, j06, j07, j08, j12, j13, j14, j15, j23, j24, j25, j34, j35, j45, j56, j57, j58, j65, j67, j68, j75, j76, j78, j85, j86, j87, ite_false_, ite_true_, e13, e14]
    exact hR
  · rw [if_neg g] at hR
    refine ⟨fun _ => ?_, fun h => absurd h g⟩
    refine rvC hS hp x hh ?_
    have e5 : up2 (up2 I 0 (upd (upd (I 0) 12 (I 0 12 + 1)) 11 0)) 5 (I 5) = up2 I 0 (upd (upd (I 0) 12 (I 0 12 + 1)) 11 0) := up2_self (I := up2 I 0 (upd (upd (I 0) 12 (I 0 12 + 1)) 11 0)) (k := 5)
    rw [e5, up2_2] at hR
    simp only [mI_lm0, mI_lm, mJ_lm, wR_lm, wR_lm0, wL_lm, qArr_lm, l19, l29, l39, l49, l59, l69, l79, l89, wI_def, up2_at, up2_2, pk_us, j10, j20, j21, j30, j31, j32, j40, j41, j42, j43, j50, j51, j52, j53, j54, j60, j70, j71, j80, j01, j02, j03, j04, j05, j06, j07, j08, j12, j13, j14, j15, j23, j24, j25, j34, j35, j45, j56, j57, j58, j65, j67, j68, j75, j76, j78, j85, j86, j87, ite_false_, ite_true_, e13, e14]
    exact hR
theorem rvA {R : Option Value → qMM → Nat × Nat → Prop} {X : String → qMM → Nat × Nat → Prop} {μ : qMM} {x1 p : Nat} {I : Nat → Nat → Int32} {J : Nat → Nat → Int64} (hS : LaS μ x1) (hp : p < 64) (x st : Int32) (hh : Int64) (hx : 0 ≤ x) (h8 : ¬ I 0 8 = 0) (hb : ∃ b : Nat, b ≤ 20 ∧ I 5 0 = nI b) {l9 l14 l15 j16 j18 : Option Value} (hR : ∀ K M, K = (if I 0 10 - 64 < x then up2 (up2 I 6 (upd (I 6) (slotOf x) x)) 8 (upd (I 8) (slotOf x) st) else I) → M = (if I 0 10 - 64 < x then up2 J 7 (vp_updL (J 7) (slotOf x) hh) else J) → R (some (.int (if x = nI p ∧ hh = J 1 p then 0 else 1))) (lm μ x1 (up2 (up2 (up2 K 0 (upd (upd (I 0) 12 (I 0 12 + 1)) 11 0)) 5 (if remF (I 0 12 + 1) (I 0 8) = 0 then msF (I 5) x else I 5)) 0 (if x = nI p ∧ hh = J 1 p then upd (upd (upd (I 0) 12 (I 0 12 + 1)) 11 0) 13 (I 0 13 + 1) else upd (upd (upd (I 0) 12 (I 0 12 + 1)) 11 0) 14 (I 0 14 + 1))) M) (0, 0)) : EX (SL_receive R X) 415 [some (.ref x1), some (.ref (x1 + 1)), some (.ref (x1 + 2)), some (.ref (x1 + 3)), some (.ref (x1 + 6)), some (.ref (x1 + 7)), some (.ref (x1 + 8)), some (.ref (x1 + 5)), some (.int (nI p)), l9, some (.int (x)), none, none, some (.int (st)), l14, l15, none, none, none, none] [none, none, none, none, none, none, none, none, none, none, none, some (.long (hh)), none, none, none, none, j16, none, j18, none] [] (lm μ x1 I J) (0, 0) := by
  obtain ⟨s0, s1, s2, s3, s4, s5, s6, s7, s8⟩ := id hS
  have c8 : (8 : Int32).toNatClampNeg = 8 := by decide
  have c9 : (9 : Int32).toNatClampNeg = 9 := by decide
  have c10 : (10 : Int32).toNatClampNeg = 10 := by decide
  have c11 : (11 : Int32).toNatClampNeg = 11 := by decide
  have c12 : (12 : Int32).toNatClampNeg = 12 := by decide
  have c13 : (13 : Int32).toNatClampNeg = 13 := by decide
  have c14 : (14 : Int32).toNatClampNeg = 14 := by decide
  have c15 : (15 : Int32).toNatClampNeg = 15 := by decide
  have c16 : (16 : Int32).toNatClampNeg = 16 := by decide
  have c17 : (17 : Int32).toNatClampNeg = 17 := by decide
  have c20 : (20 : Int32).toNatClampNeg = 20 := by decide
  have w8 : vp_in (8 : Int32) 21 := vpn (i := 8) (by decide) (by decide)
  have w9 : vp_in (9 : Int32) 21 := vpn (i := 9) (by decide) (by decide)
  have w10 : vp_in (10 : Int32) 21 := vpn (i := 10) (by decide) (by decide)
  have w11 : vp_in (11 : Int32) 21 := vpn (i := 11) (by decide) (by decide)
  have w12 : vp_in (12 : Int32) 21 := vpn (i := 12) (by decide) (by decide)
  have w13 : vp_in (13 : Int32) 21 := vpn (i := 13) (by decide) (by decide)
  have w14 : vp_in (14 : Int32) 21 := vpn (i := 14) (by decide) (by decide)
  have w15 : vp_in (15 : Int32) 21 := vpn (i := 15) (by decide) (by decide)
  have w16 : vp_in (16 : Int32) 21 := vpn (i := 16) (by decide) (by decide)
  have w17 : vp_in (17 : Int32) 21 := vpn (i := 17) (by decide) (by decide)
  have w20 : vp_in (20 : Int32) 21 := vpn (i := 20) (by decide) (by decide)
  have vp : vp_in (nI p) 64 := vpn hp (by decide)
  have cp : (nI p).toNatClampNeg = p := nI_clamp (by omega)
  have z64 : ¬ (64 : Int32) = 0 := by decide
  obtain ⟨v, cv⟩ := slx hx
  simp only [eL_receive_415, eL_receive_417, eL_receive_418, eL_receive_420, eL_receive_421, eL_receive_423, eL_receive_424, mI_lm0, mI_lm, mJ_lm, wR_lm, wR_lm0, wL_lm, qArr_lm, l19, l29, l39, l49, l59, l69, l79, l89, wI_def, up2_at, up2_2, pk_us, j10, j20, j21, j30, j31, j32, j40, j41, j42, j43, j50, j51, j52, j53, j54, j60, j70, j71, j80, j01, j02, j03, j04, j05, j06, j07, j08, j12, j13, j14, j15, j23, j24, j25, j34, j35, j45, j56, j57, j58, j65, j67, j68, j75, j76, j78, j85, j86, j87, ite_false_, ite_true_, qA_iA s0, c8, c9, c10, c11, c12, c13, c14, c15, c16, c17, c20, w8, w9, w10, w11, w12, w13, w14, w15, w16, w17, w20, vp, cp, z64, one0, eq_self, or_true, true_or, not_true_eq_false, not_false_eq_true, true_imp_iff, false_imp_iff, true_and, and_true, Classical.not_not]
  by_cases g : I 0 10 - 64 < x
  · refine ⟨fun h => absurd g (Int32.not_lt.mpr h), fun _ => ?_⟩
    simp only [eL_receive_427, eL_receive_429, eL_receive_431, eL_receive_433, eL_receive_434, eL_receive_436, eL_receive_437, eL_receive_439, eL_receive_441, eL_receive_443, eL_receive_444, eL_receive_446, eL_receive_447, eL_receive_449, eL_receive_451, eL_receive_453, eL_receive_454, eL_receive_456, mI_lm0, mI_lm, mJ_lm, wR_lm, wR_lm0, wL_lm, qArr_lm, l19, l29, l39, l49, l59, l69, l79, l89, wI_def, up2_at, up2_2, pk_us, j10, j20, j21, j30, j31, j32, j40, j41, j42, j43, j50, j51, j52, j53, j54, j60, j70, j71, j80, j01, j02, j03, j04, j05, j06, j07, j08, j12, j13, j14, j15, j23, j24, j25, j34, j35, j45, j56, j57, j58, j65, j67, j68, j75, j76, j78, j85, j86, j87, ite_false_, ite_true_, qA_iA s6, qA_iA s8, qA_jA s7, c8, c9, c10, c11, c12, c13, c14, c15, c16, c17, c20, w8, w9, w10, w11, w12, w13, w14, w15, w16, w17, w20, vp, cp, z64, v, cv, one0, eq_self, or_true, true_or, not_true_eq_false, not_false_eq_true, true_imp_iff, false_imp_iff, true_and, and_true, Classical.not_not]
    have h := hR _ _ (if_pos g).symm (if_pos g).symm
    refine rvB hS hp x hh (by simpa [up2_at] using h8) (by simpa [up2_at] using hb) ?_
    simp only [mI_lm0, mI_lm, mJ_lm, wR_lm, wR_lm0, wL_lm, qArr_lm, l19, l29, l39, l49, l59, l69, l79, l89, wI_def, up2_at, up2_2, pk_us, j10, j20, j21, j30, j31, j32, j40, j41, j42, j43, j50, j51, j52, j53, j54, j60, j70, j71, j80, j01, j02, j03, j04, j05, j06, j07, j08, j12, j13, j14, j15, j23, j24, j25, j34, j35, j45, j56, j57, j58, j65, j67, j68, j75, j76, j78, j85, j86, j87, ite_false_, ite_true_]
    exact h
  · refine ⟨fun _ => ?_, fun h => absurd (Int32.not_lt.mp g) h⟩
    exact rvB hS hp x hh h8 hb (hR _ _ (if_neg g).symm (if_neg g).symm)
theorem rvD_l {R : Option Value → qMM → Nat × Nat → Prop} {X : String → qMM → Nat × Nat → Prop} {μ : qMM} {x1 p : Nat} {I : Nat → Nat → Int32} {J : Nat → Nat → Int64} (hS : LaS μ x1) (hp : p < 64) (x st : Int32) (hh : Int64) (G : Nat → Int32) (hI0 : I 0 = G) {l9 l15 j16 j18 : Option Value} (hK : EX (SL_receive R X) 415 [some (.ref x1), some (.ref (x1 + 1)), some (.ref (x1 + 2)), some (.ref (x1 + 3)), some (.ref (x1 + 6)), some (.ref (x1 + 7)), some (.ref (x1 + 8)), some (.ref (x1 + 5)), some (.int (nI p)), l9, some (.int (x)), none, none, some (.int (st)), some (.int (nI 64)), l15, none, none, none, none] [none, none, none, none, none, none, none, none, none, none, none, some (.long (hh)), none, none, none, none, j16, none, j18, none] [] (lm μ x1 (up2 I 6 (kdF (I 6) (G 10) 64)) J) (0, 0)) : ∀ k j : Nat, j + k = 64 → EX (SL_receive R X) 373 [some (.ref x1), some (.ref (x1 + 1)), some (.ref (x1 + 2)), some (.ref (x1 + 3)), some (.ref (x1 + 6)), some (.ref (x1 + 7)), some (.ref (x1 + 8)), some (.ref (x1 + 5)), some (.int (nI p)), l9, some (.int (x)), none, none, some (.int (st)), some (.int (nI j)), l15, none, none, none, none] [none, none, none, none, none, none, none, none, none, none, none, some (.long (hh)), none, none, none, none, j16, none, j18, none] [] (lm μ x1 (up2 I 6 (kdF (I 6) (G 10) j)) J) (0, 0) := by
  obtain ⟨s0, s1, s2, s3, s4, s5, s6, s7, s8⟩ := id hS
  have c8 : (8 : Int32).toNatClampNeg = 8 := by decide
  have c9 : (9 : Int32).toNatClampNeg = 9 := by decide
  have c10 : (10 : Int32).toNatClampNeg = 10 := by decide
  have c11 : (11 : Int32).toNatClampNeg = 11 := by decide
  have c12 : (12 : Int32).toNatClampNeg = 12 := by decide
  have c13 : (13 : Int32).toNatClampNeg = 13 := by decide
  have c14 : (14 : Int32).toNatClampNeg = 14 := by decide
  have c15 : (15 : Int32).toNatClampNeg = 15 := by decide
  have c16 : (16 : Int32).toNatClampNeg = 16 := by decide
  have c17 : (17 : Int32).toNatClampNeg = 17 := by decide
  have c20 : (20 : Int32).toNatClampNeg = 20 := by decide
  have w8 : vp_in (8 : Int32) 21 := vpn (i := 8) (by decide) (by decide)
  have w9 : vp_in (9 : Int32) 21 := vpn (i := 9) (by decide) (by decide)
  have w10 : vp_in (10 : Int32) 21 := vpn (i := 10) (by decide) (by decide)
  have w11 : vp_in (11 : Int32) 21 := vpn (i := 11) (by decide) (by decide)
  have w12 : vp_in (12 : Int32) 21 := vpn (i := 12) (by decide) (by decide)
  have w13 : vp_in (13 : Int32) 21 := vpn (i := 13) (by decide) (by decide)
  have w14 : vp_in (14 : Int32) 21 := vpn (i := 14) (by decide) (by decide)
  have w15 : vp_in (15 : Int32) 21 := vpn (i := 15) (by decide) (by decide)
  have w16 : vp_in (16 : Int32) 21 := vpn (i := 16) (by decide) (by decide)
  have w17 : vp_in (17 : Int32) 21 := vpn (i := 17) (by decide) (by decide)
  have w20 : vp_in (20 : Int32) 21 := vpn (i := 20) (by decide) (by decide)
  have vp : vp_in (nI p) 64 := vpn hp (by decide)
  have cp : (nI p).toNatClampNeg = p := nI_clamp (by omega)
  have z64 : ¬ (64 : Int32) = 0 := by decide
  have e64 : (64 : Int32) = nI 64 := rfl
  intro k
  induction k with
  | zero =>
    intro j hj
    have : j = 64 := by omega
    subst this
    rw [eL_receive_373]
    simp only [eL_receive_375, eL_receive_377]
    refine ⟨fun _ => hK, fun h => absurd (Int32.le_refl _) h⟩
  | succ k ih =>
    intro j hj
    rw [eL_receive_373]
    have lt : ¬ (64 : Int32) ≤ nI j := by
      rw [e64]
      exact nI_ge (by omega) (by omega)
    have vj : vp_in (nI j) 64 := vpn (by omega) (by decide)
    simp only [eL_receive_375, eL_receive_377]
    refine ⟨fun h => absurd h lt, fun _ => ?_⟩
    have ej : kdF (I 6) (G 10) j j = I 6 j := by
      unfold kdF
      rw [if_neg (by omega)]
    simp only [eL_receive_380, eL_receive_382, eL_receive_384, eL_receive_386, eL_receive_388, eL_receive_389, eL_receive_390, eL_receive_392, eL_receive_393, eL_receive_395, eL_receive_396, eL_receive_399, eL_receive_400, eL_receive_403, eL_receive_405, eL_receive_407, mI_lm0, mI_lm, mJ_lm, wR_lm, wR_lm0, wL_lm, qArr_lm, l19, l29, l39, l49, l59, l69, l79, l89, wI_def, up2_at, up2_2, pk_us, j10, j20, j21, j30, j31, j32, j40, j41, j42, j43, j50, j51, j52, j53, j54, j60, j70, j71, j80, j01, j02, j03, j04, j05, j06, j07, j08, j12, j13, j14, j15, j23, j24, j25, j34, j35, j45, j56, j57, j58, j65, j67, j68, j75, j76, j78, j85, j86, j87, ite_false_, ite_true_, hI0, ej, qA_iA s0, qA_iA s6, c8, c9, c10, c11, c12, c13, c14, c15, c16, c17, c20, w8, w9, w10, w11, w12, w13, w14, w15, w16, w17, w20, vp, cp, z64, vj, nI_clamp (show j < 2 ^ 31 by omega), one0, eq_self, or_true, true_or, not_true_eq_false, not_false_eq_true, true_imp_iff, false_imp_iff, true_and, and_true, Classical.not_not, mrgI, mrgN]
    simp only [eL_receive_408, eL_receive_409, eL_receive_412, mI_lm0, mI_lm, mJ_lm, wR_lm, wR_lm0, wL_lm, qArr_lm, l19, l29, l39, l49, l59, l69, l79, l89, wI_def, up2_at, up2_2, pk_us, j10, j20, j21, j30, j31, j32, j40, j41, j42, j43, j50, j51, j52, j53, j54, j60, j70, j71, j80, j01, j02, j03, j04, j05, j06, j07, j08, j12, j13, j14, j15, j23, j24, j25, j34, j35, j45, j56, j57, j58, j65, j67, j68, j75, j76, j78, j85, j86, j87, ite_false_, ite_true_, qA_iA s6, vj, nI_clamp (show j < 2 ^ 31 by omega), one0, eq_self, or_true, true_or, not_true_eq_false, not_false_eq_true, true_imp_iff, false_imp_iff, true_and, and_true, Classical.not_not, nI_1]
    have e : upd (kdF (I 6) (G 10) j) j (if G 10 - 64 < I 6 j then I 6 j else -1) = kdF (I 6) (G 10) (j + 1) := by
      funext q
      by_cases g : q = j
      · subst g
        rw [pk_us]
        unfold kdF
        by_cases g2 : G 10 - 64 < I 6 q
        · rw [if_pos g2, if_neg (fun z => Int32.not_le.mpr g2 z.2)]
        · rw [if_neg g2, if_pos ⟨by omega, Int32.not_lt.mp g2⟩]
      · rw [pk_un g]
        unfold kdF
        by_cases g2 : q < j ∧ I 6 q ≤ G 10 - 64
        · rw [if_pos g2, if_pos ⟨by omega, g2.2⟩]
        · rw [if_neg g2, if_neg (fun z => g2 ⟨by omega, z.2⟩)]
    rw [e]
    exact ih (j + 1) (by omega)
theorem rvD {R : Option Value → qMM → Nat × Nat → Prop} {X : String → qMM → Nat × Nat → Prop} {μ : qMM} {x1 p : Nat} {I : Nat → Nat → Int32} {J : Nat → Nat → Int64} (hS : LaS μ x1) (hp : p < 64) (x st : Int32) (hh : Int64) (hx : 0 ≤ x) (h8 : ¬ I 0 8 = 0) (hb : ∃ b : Nat, b ≤ 20 ∧ I 5 0 = nI b) {l9 l14 l15 j16 j18 : Option Value} (hR : ∀ I1 K M, I1 = up2 (up2 I 0 (keG (I 0) x)) 6 (kdF (I 6) (keG (I 0) x 10) 64) → K = (if keG (I 0) x 10 - 64 < x then up2 (up2 I1 6 (upd (I1 6) (slotOf x) x)) 8 (upd (I 8) (slotOf x) st) else I1) → M = (if keG (I 0) x 10 - 64 < x then up2 J 7 (vp_updL (J 7) (slotOf x) hh) else J) → R (some (.int (if x = nI p ∧ hh = J 1 p then 0 else 1))) (lm μ x1 (up2 (up2 (up2 K 0 (ke2 (I 0) x)) 5 (if remF (I 0 12 + 1) (I 0 8) = 0 then msF (I 5) x else I 5)) 0 (if x = nI p ∧ hh = J 1 p then upd (ke2 (I 0) x) 13 (I 0 13 + 1) else upd (ke2 (I 0) x) 14 (I 0 14 + 1))) M) (0, 0)) : EX (SL_receive R X) 348 [some (.ref x1), some (.ref (x1 + 1)), some (.ref (x1 + 2)), some (.ref (x1 + 3)), some (.ref (x1 + 6)), some (.ref (x1 + 7)), some (.ref (x1 + 8)), some (.ref (x1 + 5)), some (.int (nI p)), l9, some (.int (x)), none, none, some (.int (st)), l14, l15, none, none, none, none] [none, none, none, none, none, none, none, none, none, none, none, some (.long (hh)), none, none, none, none, j16, none, j18, none] [] (lm μ x1 I J) (0, 0) := by
  obtain ⟨s0, s1, s2, s3, s4, s5, s6, s7, s8⟩ := id hS
  have c8 : (8 : Int32).toNatClampNeg = 8 := by decide
  have c9 : (9 : Int32).toNatClampNeg = 9 := by decide
  have c10 : (10 : Int32).toNatClampNeg = 10 := by decide
  have c11 : (11 : Int32).toNatClampNeg = 11 := by decide
  have c12 : (12 : Int32).toNatClampNeg = 12 := by decide
  have c13 : (13 : Int32).toNatClampNeg = 13 := by decide
  have c14 : (14 : Int32).toNatClampNeg = 14 := by decide
  have c15 : (15 : Int32).toNatClampNeg = 15 := by decide
  have c16 : (16 : Int32).toNatClampNeg = 16 := by decide
  have c17 : (17 : Int32).toNatClampNeg = 17 := by decide
  have c20 : (20 : Int32).toNatClampNeg = 20 := by decide
  have w8 : vp_in (8 : Int32) 21 := vpn (i := 8) (by decide) (by decide)
  have w9 : vp_in (9 : Int32) 21 := vpn (i := 9) (by decide) (by decide)
  have w10 : vp_in (10 : Int32) 21 := vpn (i := 10) (by decide) (by decide)
  have w11 : vp_in (11 : Int32) 21 := vpn (i := 11) (by decide) (by decide)
  have w12 : vp_in (12 : Int32) 21 := vpn (i := 12) (by decide) (by decide)
  have w13 : vp_in (13 : Int32) 21 := vpn (i := 13) (by decide) (by decide)
  have w14 : vp_in (14 : Int32) 21 := vpn (i := 14) (by decide) (by decide)
  have w15 : vp_in (15 : Int32) 21 := vpn (i := 15) (by decide) (by decide)
  have w16 : vp_in (16 : Int32) 21 := vpn (i := 16) (by decide) (by decide)
  have w17 : vp_in (17 : Int32) 21 := vpn (i := 17) (by decide) (by decide)
  have w20 : vp_in (20 : Int32) 21 := vpn (i := 20) (by decide) (by decide)
  have vp : vp_in (nI p) 64 := vpn hp (by decide)
  have cp : (nI p).toNatClampNeg = p := nI_clamp (by omega)
  have z64 : ¬ (64 : Int32) = 0 := by decide
  simp only [eL_receive_348, eL_receive_349, eL_receive_351, eL_receive_353, eL_receive_354, eL_receive_356, eL_receive_357, eL_receive_360, eL_receive_362, eL_receive_365, eL_receive_366, eL_receive_368, mI_lm0, mI_lm, mJ_lm, wR_lm, wR_lm0, wL_lm, qArr_lm, l19, l29, l39, l49, l59, l69, l79, l89, wI_def, up2_at, up2_2, pk_us, j10, j20, j21, j30, j31, j32, j40, j41, j42, j43, j50, j51, j52, j53, j54, j60, j70, j71, j80, j01, j02, j03, j04, j05, j06, j07, j08, j12, j13, j14, j15, j23, j24, j25, j34, j35, j45, j56, j57, j58, j65, j67, j68, j75, j76, j78, j85, j86, j87, ite_false_, ite_true_, qA_iA s0, c8, c9, c10, c11, c12, c13, c14, c15, c16, c17, c20, w8, w9, w10, w11, w12, w13, w14, w15, w16, w17, w20, vp, cp, z64, one0, eq_self, or_true, true_or, not_true_eq_false, not_false_eq_true, true_imp_iff, false_imp_iff, true_and, and_true, Classical.not_not, mrgI, mrgN]
  simp only [eL_receive_369, eL_receive_370, eL_receive_371, mI_lm0, mI_lm, mJ_lm, wR_lm, wR_lm0, wL_lm, qArr_lm, l19, l29, l39, l49, l59, l69, l79, l89, wI_def, up2_at, up2_2, pk_us, j10, j20, j21, j30, j31, j32, j40, j41, j42, j43, j50, j51, j52, j53, j54, j60, j70, j71, j80, j01, j02, j03, j04, j05, j06, j07, j08, j12, j13, j14, j15, j23, j24, j25, j34, j35, j45, j56, j57, j58, j65, j67, j68, j75, j76, j78, j85, j86, j87, ite_false_, ite_true_, qA_iA s0, c8, c9, c10, c11, c12, c13, c14, c15, c16, c17, c20, w8, w9, w10, w11, w12, w13, w14, w15, w16, w17, w20, vp, cp, z64, one0, eq_self, or_true, true_or, not_true_eq_false, not_false_eq_true, true_imp_iff, false_imp_iff, true_and, and_true, Classical.not_not]
  have e8 : keG (I 0) x 8 = I 0 8 := by simp [keG, up_at]
  have e12 : keG (I 0) x 12 = I 0 12 := by simp [keG, up_at]
  have e13 : keG (I 0) x 13 = I 0 13 := by simp [keG, up_at]
  have e14 : keG (I 0) x 14 = I 0 14 := by simp [keG, up_at]
  have key := rvD_l (R := R) (X := X) (I := up2 I 0 (keG (I 0) x)) (J := J) (l9 := l9) (l15 := l15) (j16 := j16) (j18 := j18) hS hp x st hh (keG (I 0) x) up2_s ?_ 64 0 (by omega)
  · have e0 : up2 (up2 I 0 (keG (I 0) x)) 6 (kdF (up2 I 0 (keG (I 0) x) 6) (keG (I 0) x 10) 0) = up2 I 0 (keG (I 0) x) := by
      have : kdF (up2 I 0 (keG (I 0) x) 6) (keG (I 0) x 10) 0 = up2 I 0 (keG (I 0) x) 6 := by
        funext q
        unfold kdF
        rw [if_neg (by omega)]
      rw [this, up2_self]
    rw [e0] at key
    exact key
  · refine rvA hS hp x st hh hx ?_ ?_ ?_
    · rw [up2_n (by decide), up2_s, e8]
      exact h8
    · rw [up2_n (by decide), up2_n (by decide)]
      exact hb
    · intro K M hK hM
      have h := hR _ K M rfl ?_ ?_
      · simp only [up2_n (show (0 : Nat) ≠ 6 by decide), up2_n (show (5 : Nat) ≠ 6 by decide), up2_n (show (5 : Nat) ≠ 0 by decide), up2_s, e8, e12, e13, e14] at *
        exact h
      · simp only [up2_n (show (0 : Nat) ≠ 6 by decide), up2_n (show (8 : Nat) ≠ 6 by decide), up2_n (show (8 : Nat) ≠ 0 by decide), up2_n (show (6 : Nat) ≠ 0 by decide), up2_s] at *
        exact hK
      · simp only [up2_n (show (0 : Nat) ≠ 6 by decide), up2_s] at *
        exact hM
theorem rvM {R : Option Value → qMM → Nat × Nat → Prop} {X : String → qMM → Nat × Nat → Prop} {μ : qMM} {x1 p : Nat} {I : Nat → Nat → Int32} {J : Nat → Nat → Int64} (hS : LaS μ x1) (hp : p < 64) (hb : ∃ b : Nat, b ≤ 20 ∧ I 5 0 = nI b) {l9 l10 l13 l14 l15 j11 j16 j18 : Option Value} (hR : R (some (.int 2)) (lm μ x1 (up2 (up2 I 0 (flG (I 0))) 5 (flB (I 0) (I 5))) J) (0, 0)) : EX (SL_receive R X) 148 [some (.ref x1), some (.ref (x1 + 1)), some (.ref (x1 + 2)), some (.ref (x1 + 3)), some (.ref (x1 + 6)), some (.ref (x1 + 7)), some (.ref (x1 + 8)), some (.ref (x1 + 5)), some (.int (nI p)), l9, l10, none, none, l13, l14, l15, none, none, none, none] [none, none, none, none, none, none, none, none, none, none, none, j11, none, none, none, none, j16, none, j18, none] [] (lm μ x1 I J) (0, 0) := by
  obtain ⟨s0, s1, s2, s3, s4, s5, s6, s7, s8⟩ := id hS
  have c8 : (8 : Int32).toNatClampNeg = 8 := by decide
  have c9 : (9 : Int32).toNatClampNeg = 9 := by decide
  have c10 : (10 : Int32).toNatClampNeg = 10 := by decide
  have c11 : (11 : Int32).toNatClampNeg = 11 := by decide
  have c12 : (12 : Int32).toNatClampNeg = 12 := by decide
  have c13 : (13 : Int32).toNatClampNeg = 13 := by decide
  have c14 : (14 : Int32).toNatClampNeg = 14 := by decide
  have c15 : (15 : Int32).toNatClampNeg = 15 := by decide
  have c16 : (16 : Int32).toNatClampNeg = 16 := by decide
  have c17 : (17 : Int32).toNatClampNeg = 17 := by decide
  have c20 : (20 : Int32).toNatClampNeg = 20 := by decide
  have w8 : vp_in (8 : Int32) 21 := vpn (i := 8) (by decide) (by decide)
  have w9 : vp_in (9 : Int32) 21 := vpn (i := 9) (by decide) (by decide)
  have w10 : vp_in (10 : Int32) 21 := vpn (i := 10) (by decide) (by decide)
  have w11 : vp_in (11 : Int32) 21 := vpn (i := 11) (by decide) (by decide)
  have w12 : vp_in (12 : Int32) 21 := vpn (i := 12) (by decide) (by decide)
  have w13 : vp_in (13 : Int32) 21 := vpn (i := 13) (by decide) (by decide)
  have w14 : vp_in (14 : Int32) 21 := vpn (i := 14) (by decide) (by decide)
  have w15 : vp_in (15 : Int32) 21 := vpn (i := 15) (by decide) (by decide)
  have w16 : vp_in (16 : Int32) 21 := vpn (i := 16) (by decide) (by decide)
  have w17 : vp_in (17 : Int32) 21 := vpn (i := 17) (by decide) (by decide)
  have w20 : vp_in (20 : Int32) 21 := vpn (i := 20) (by decide) (by decide)
  have vp : vp_in (nI p) 64 := vpn hp (by decide)
  have cp : (nI p).toNatClampNeg = p := nI_clamp (by omega)
  have z64 : ¬ (64 : Int32) = 0 := by decide
  obtain ⟨b, hb1, hb2⟩ := hb
  have hM : ∀ K, K 5 = I 5 → PL_message (x1 + 5) (-1) (lm μ x1 K J) := fun K hK => ⟨s5, b, hb1, by rw [mI_lm (by decide), hK]; exact hb2⟩
  have e11 : upd (I 0) 15 (I 0 15 + 1) 11 = I 0 11 := by simp [up_at]
  have f1 : upd (upd (I 0) 15 (I 0 15 + 1)) 11 (I 0 11 + 1) = fl1 (I 0) := rfl
  have f2 : fl1 (I 0) 9 = I 0 9 := by simp [fl1, up_at]
  simp only [eL_receive_148, eL_receive_149, eL_receive_151, eL_receive_152, eL_receive_153, eL_receive_154, eL_receive_155, eL_receive_156, eL_receive_157, eL_receive_159, eL_receive_160, eL_receive_161, eL_receive_162, eL_receive_163, eL_receive_164, eL_receive_165, eL_receive_167, eL_receive_168, eL_receive_169, eL_receive_171, eL_receive_172, mI_lm0, mI_lm, mJ_lm, wR_lm, wR_lm0, wL_lm, qArr_lm, l19, l29, l39, l49, l59, l69, l79, l89, wI_def, up2_at, up2_2, pk_us, j10, j20, j21, j30, j31, j32, j40, j41, j42, j43, j50, j51, j52, j53, j54, j60, j70, j71, j80, j01, j02, j03, j04, j05, j06, j07, j08, j12, j13, j14, j15, j23, j24, j25, j34, j35, j45, j56, j57, j58, j65, j67, j68, j75, j76, j78, j85, j86, j87, ite_false_, ite_true_, qA_iA s0, c8, c9, c10, c11, c12, c13, c14, c15, c16, c17, c20, w8, w9, w10, w11, w12, w13, w14, w15, w16, w17, w20, vp, cp, z64, e11, f1, f2, one0, eq_self, or_true, true_or, not_true_eq_false, not_false_eq_true, true_imp_iff, false_imp_iff, true_and, and_true, Classical.not_not]
  unfold flG flB at hR
  by_cases g : fl1 (I 0) 11 < I 0 9
  · rw [if_pos g, if_pos g] at hR
    refine ⟨fun _ => ?_, fun h => absurd g h⟩
    rw [show up2 (up2 I 0 (fl1 (I 0))) 5 (I 5) = up2 I 0 (fl1 (I 0)) from up2_self (I := up2 I 0 (fl1 (I 0))) (k := 5)] at hR
    simp only [eL_receive_194, eL_receive_195, rtv_at, rti_at, rtj_at, rtd_at, rta_at, qOk, qOkR, one0, eq_self, or_true, true_or, not_true_eq_false, not_false_eq_true, true_imp_iff, false_imp_iff, true_and, and_true, Classical.not_not]
    exact hR
  · rw [if_neg g, if_neg g] at hR
    refine ⟨fun h => absurd h g, fun _ => ?_⟩
    have e17 : upd (fl1 (I 0)) 11 0 17 = I 0 17 := by simp [fl1, up_at]
    simp only [eL_receive_175, eL_receive_176, eL_receive_178, eL_receive_179, eL_receive_180, eL_receive_181, eL_receive_183, eL_receive_184, eL_receive_185, eL_receive_186, eL_receive_187, eL_receive_188, eL_receive_190, eL_receive_191, eL_receive_194, eL_receive_195, hM _ (up2_n (show (5 : Nat) ≠ 0 by decide)), QL_message, forall_eq, mI_lm0, mI_lm, mJ_lm, wR_lm, wR_lm0, wL_lm, qArr_lm, l19, l29, l39, l49, l59, l69, l79, l89, wI_def, up2_at, up2_2, pk_us, j10, j20, j21, j30, j31, j32, j40, j41, j42, j43, j50, j51, j52, j53, j54, j60, j70, j71, j80, j01, j02, j03, j04, j05, j06, j07, j08, j12, j13, j14, j15, j23, j24, j25, j34, j35, j45, j56, j57, j58, j65, j67, j68, j75, j76, j78, j85, j86, j87, ite_false_, ite_true_, qA_iA s0, e17, c8, c9, c10, c11, c12, c13, c14, c15, c16, c17, c20, w8, w9, w10, w11, w12, w13, w14, w15, w16, w17, w20, vp, cp, z64, List.length_nil, List.length_cons, ll0, ll1, ll2, ll3, ll4, Nat.le_refl, and_true, Nat.zero_add, Nat.add_zero, Nat.zero_le, rtv_at, rti_at, rtj_at, rtd_at, rta_at, qOk, qOkR, one0, eq_self, or_true, true_or, not_true_eq_false, not_false_eq_true, true_imp_iff, false_imp_iff, true_and, and_true, Classical.not_not]
    exact hR
theorem rvH {R : Option Value → qMM → Nat × Nat → Prop} {X : String → qMM → Nat × Nat → Prop} {μ : qMM} {x1 p : Nat} {I : Nat → Nat → Int32} {J : Nat → Nat → Int64} (hS : LaS μ x1) (hp : p < 64) (fo x rr ar : Int32) (h mine its : Int64) (r : Nat) (hr : r < 64) (hr2 : rr = nI r) (ha : 0 ≤ ar) (hm : mine = bsF (J 1) (I 2) fo rr (nI p - rr)) (hi : its = bsF (J 7) (I 8) fo (nI (slotOf ar)) (nI p - rr)) {l13 j16 j18 : Option Value} (hK : EX (SL_receive R X) 348 [some (.ref x1), some (.ref (x1 + 1)), some (.ref (x1 + 2)), some (.ref (x1 + 3)), some (.ref (x1 + 6)), some (.ref (x1 + 7)), some (.ref (x1 + 8)), some (.ref (x1 + 5)), some (.int (nI p)), some (.int (fo)), some (.int (x)), none, none, some (.int (I 8 (slotOf ar))), some (.int (rr)), some (.int (ar)), none, none, none, none] [none, none, none, none, none, none, none, none, none, none, none, some (.long ((hdF (if ptF h 0 = ptF mine 0 then ptF its 0 else ptF h 0) (ptF its 1 + ptF h 1 - ptF mine 1) (ptF its 2 + ptF h 2 - ptF mine 2) (if ptF h 3 = ptF mine 3 then ptF its 3 else ptF h 3)))), none, none, none, none, some (.long (mine)), none, some (.long (its)), none] [] (lm μ x1 I J) (0, 0)) : EX (SL_receive R X) 196 [some (.ref x1), some (.ref (x1 + 1)), some (.ref (x1 + 2)), some (.ref (x1 + 3)), some (.ref (x1 + 6)), some (.ref (x1 + 7)), some (.ref (x1 + 8)), some (.ref (x1 + 5)), some (.int (nI p)), some (.int (fo)), some (.int (x)), none, none, l13, some (.int (rr)), some (.int (ar)), none, none, none, none] [none, none, none, none, none, none, none, none, none, none, none, some (.long (h)), none, none, none, none, j16, none, j18, none] [] (lm μ x1 I J) (0, 0) := by
  obtain ⟨s0, s1, s2, s3, s4, s5, s6, s7, s8⟩ := id hS
  have c8 : (8 : Int32).toNatClampNeg = 8 := by decide
  have c9 : (9 : Int32).toNatClampNeg = 9 := by decide
  have c10 : (10 : Int32).toNatClampNeg = 10 := by decide
  have c11 : (11 : Int32).toNatClampNeg = 11 := by decide
  have c12 : (12 : Int32).toNatClampNeg = 12 := by decide
  have c13 : (13 : Int32).toNatClampNeg = 13 := by decide
  have c14 : (14 : Int32).toNatClampNeg = 14 := by decide
  have c15 : (15 : Int32).toNatClampNeg = 15 := by decide
  have c16 : (16 : Int32).toNatClampNeg = 16 := by decide
  have c17 : (17 : Int32).toNatClampNeg = 17 := by decide
  have c20 : (20 : Int32).toNatClampNeg = 20 := by decide
  have w8 : vp_in (8 : Int32) 21 := vpn (i := 8) (by decide) (by decide)
  have w9 : vp_in (9 : Int32) 21 := vpn (i := 9) (by decide) (by decide)
  have w10 : vp_in (10 : Int32) 21 := vpn (i := 10) (by decide) (by decide)
  have w11 : vp_in (11 : Int32) 21 := vpn (i := 11) (by decide) (by decide)
  have w12 : vp_in (12 : Int32) 21 := vpn (i := 12) (by decide) (by decide)
  have w13 : vp_in (13 : Int32) 21 := vpn (i := 13) (by decide) (by decide)
  have w14 : vp_in (14 : Int32) 21 := vpn (i := 14) (by decide) (by decide)
  have w15 : vp_in (15 : Int32) 21 := vpn (i := 15) (by decide) (by decide)
  have w16 : vp_in (16 : Int32) 21 := vpn (i := 16) (by decide) (by decide)
  have w17 : vp_in (17 : Int32) 21 := vpn (i := 17) (by decide) (by decide)
  have w20 : vp_in (20 : Int32) 21 := vpn (i := 20) (by decide) (by decide)
  have vp : vp_in (nI p) 64 := vpn hp (by decide)
  have cp : (nI p).toNatClampNeg = p := nI_clamp (by omega)
  have z64 : ¬ (64 : Int32) = 0 := by decide
  obtain ⟨v, cv⟩ := slx ha
  have e1 : ar - ar / 64 * 64 = nI (slotOf ar) := by rw [rem_nn ha, (slot_and ar).1]
  have b1 : PL_base (x1 + 1) (x1 + 2) fo rr (nI p - rr) (lm μ x1 I J) := ⟨s1, s2, r, hr, hr2⟩
  have b2 : PL_base (x1 + 7) (x1 + 8) fo (ar - ar / 64 * 64) (nI p - rr) (lm μ x1 I J) := ⟨s7, s8, slotOf ar, slot_lt ar, e1⟩
  simp only [eL_receive_196, eL_receive_197, eL_receive_198, eL_receive_200, eL_receive_202, eL_receive_204, eL_receive_206, eL_receive_207, eL_receive_210, eL_receive_212, eL_receive_214, eL_receive_216, eL_receive_218, eL_receive_220, eL_receive_222, b1, b2, QL_base, fEq, e1, ← hm, ← hi, mI_lm0, mI_lm, mJ_lm, wR_lm, wR_lm0, wL_lm, qArr_lm, l19, l29, l39, l49, l59, l69, l79, l89, wI_def, up2_at, up2_2, pk_us, j10, j20, j21, j30, j31, j32, j40, j41, j42, j43, j50, j51, j52, j53, j54, j60, j70, j71, j80, j01, j02, j03, j04, j05, j06, j07, j08, j12, j13, j14, j15, j23, j24, j25, j34, j35, j45, j56, j57, j58, j65, j67, j68, j75, j76, j78, j85, j86, j87, ite_false_, ite_true_, c8, c9, c10, c11, c12, c13, c14, c15, c16, c17, c20, w8, w9, w10, w11, w12, w13, w14, w15, w16, w17, w20, vp, cp, z64, List.length_nil, List.length_cons, ll0, ll1, ll2, ll3, ll4, Nat.le_refl, and_true, Nat.zero_add, Nat.add_zero, Nat.zero_le, one0, eq_self, or_true, true_or, not_true_eq_false, not_false_eq_true, true_imp_iff, false_imp_iff, true_and, and_true, Classical.not_not]
  rw [e1] at b2
  simp only [eL_receive_223, eL_receive_225, eL_receive_227, eL_receive_228, eL_receive_231, eL_receive_233, eL_receive_235, eL_receive_236, eL_receive_239, eL_receive_241, eL_receive_242, eL_receive_245, eL_receive_248, eL_receive_250, eL_receive_251, eL_receive_254, eL_receive_257, eL_receive_259, eL_receive_260, b2, QL_base, PL_part, QL_part, fEq, ← hm, ← hi, mI_lm0, mI_lm, mJ_lm, wR_lm, wR_lm0, wL_lm, qArr_lm, l19, l29, l39, l49, l59, l69, l79, l89, wI_def, up2_at, up2_2, pk_us, j10, j20, j21, j30, j31, j32, j40, j41, j42, j43, j50, j51, j52, j53, j54, j60, j70, j71, j80, j01, j02, j03, j04, j05, j06, j07, j08, j12, j13, j14, j15, j23, j24, j25, j34, j35, j45, j56, j57, j58, j65, j67, j68, j75, j76, j78, j85, j86, j87, ite_false_, ite_true_, c8, c9, c10, c11, c12, c13, c14, c15, c16, c17, c20, w8, w9, w10, w11, w12, w13, w14, w15, w16, w17, w20, vp, cp, z64, List.length_nil, List.length_cons, ll0, ll1, ll2, ll3, ll4, Nat.le_refl, and_true, Nat.zero_add, Nat.add_zero, Nat.zero_le, one0, eq_self, or_true, true_or, not_true_eq_false, not_false_eq_true, true_imp_iff, false_imp_iff, true_and, and_true, Classical.not_not, mrgI, mrgN]
  simp only [eL_receive_263, eL_receive_265, eL_receive_266, eL_receive_269, eL_receive_271, eL_receive_272, eL_receive_275, eL_receive_276, eL_receive_278, eL_receive_279, eL_receive_282, eL_receive_283, eL_receive_285, eL_receive_286, eL_receive_289, eL_receive_291, eL_receive_292, eL_receive_295, eL_receive_296, eL_receive_298, eL_receive_299, eL_receive_302, eL_receive_303, eL_receive_305, eL_receive_306, eL_receive_309, eL_receive_311, eL_receive_312, eL_receive_315, eL_receive_318, eL_receive_320, eL_receive_321, eL_receive_324, eL_receive_327, eL_receive_329, eL_receive_330, PL_part, QL_part, fEq, List.length_nil, List.length_cons, ll0, ll1, ll2, ll3, ll4, Nat.le_refl, and_true, Nat.zero_add, Nat.add_zero, Nat.zero_le, one0, eq_self, or_true, true_or, not_true_eq_false, not_false_eq_true, true_imp_iff, false_imp_iff, true_and, and_true, Classical.not_not, mrgI, mrgN]
  rw [e1] at v cv
  simp only [eL_receive_333, eL_receive_336, eL_receive_338, eL_receive_340, eL_receive_342, eL_receive_344, eL_receive_345, eL_receive_346, PL_part, QL_part, PL_header, QL_header, fEq, e1, v, cv, mI_lm0, mI_lm, mJ_lm, wR_lm, wR_lm0, wL_lm, qArr_lm, l19, l29, l39, l49, l59, l69, l79, l89, wI_def, up2_at, up2_2, pk_us, j10, j20, j21, j30, j31, j32, j40, j41, j42, j43, j50, j51, j52, j53, j54, j60, j70, j71, j80, j01, j02, j03, j04, j05, j06, j07, j08, j12, j13, j14, j15, j23, j24, j25, j34, j35, j45, j56, j57, j58, j65, j67, j68, j75, j76, j78, j85, j86, j87, ite_false_, ite_true_, qA_iA s8, c8, c9, c10, c11, c12, c13, c14, c15, c16, c17, c20, w8, w9, w10, w11, w12, w13, w14, w15, w16, w17, w20, vp, cp, z64, List.length_nil, List.length_cons, ll0, ll1, ll2, ll3, ll4, Nat.le_refl, and_true, Nat.zero_add, Nat.add_zero, Nat.zero_le, one0, eq_self, or_true, true_or, not_true_eq_false, not_false_eq_true, true_imp_iff, false_imp_iff, true_and, and_true, Classical.not_not]
  exact hK
theorem rvE {R : Option Value → qMM → Nat × Nat → Prop} {X : String → qMM → Nat × Nat → Prop} {μ : qMM} {x1 p : Nat} {I : Nat → Nat → Int32} {J : Nat → Nat → Int64} (hS : LaS μ x1) (hp : p < 64) (fo x : Int32) (hx : x = rxF I p) (hfo : fo = remF (I 3 p) 4) (h8 : ¬ I 0 8 = 0) (hb : ∃ b : Nat, b ≤ 20 ∧ I 5 0 = nI b) (hr : 0 < fo → ∃ r : Nat, r < 64 ∧ rrF I p = nI r) (h0 : ¬ rcU I p → 0 ≤ x) {l13 l14 l15 j11 j16 j18 : Option Value} (hR2 : rcU I p → R (some (.int 2)) (lm μ x1 (up2 (up2 I 0 (flG (I 0))) 5 (flB (I 0) (I 5))) J) (0, 0)) (hR : ¬ rcU I p → ∀ I1 K M, I1 = up2 (up2 I 0 (keG (I 0) x)) 6 (kdF (I 6) (keG (I 0) x 10) 64) → K = (if keG (I 0) x 10 - 64 < x then up2 (up2 I1 6 (upd (I1 6) (slotOf x) x)) 8 (upd (I 8) (slotOf x) (rsF I p)) else I1) → M = (if keG (I 0) x 10 - 64 < x then up2 J 7 (vp_updL (J 7) (slotOf x) (rhF I J p)) else J) → R (some (.int (if x = nI p ∧ (rhF I J p) = J 1 p then 0 else 1))) (lm μ x1 (up2 (up2 (up2 K 0 (ke2 (I 0) x)) 5 (if remF (I 0 12 + 1) (I 0 8) = 0 then msF (I 5) x else I 5)) 0 (if x = nI p ∧ (rhF I J p) = J 1 p then upd (ke2 (I 0) x) 13 (I 0 13 + 1) else upd (ke2 (I 0) x) 14 (I 0 14 + 1))) M) (0, 0)) : EX (SL_receive R X) 89 [some (.ref x1), some (.ref (x1 + 1)), some (.ref (x1 + 2)), some (.ref (x1 + 3)), some (.ref (x1 + 6)), some (.ref (x1 + 7)), some (.ref (x1 + 8)), some (.ref (x1 + 5)), some (.int (nI p)), some (.int (fo)), some (.int (x)), none, none, l13, l14, l15, none, none, none, none] [none, none, none, none, none, none, none, none, none, none, none, j11, none, none, none, none, j16, none, j18, none] [] (lm μ x1 I J) (0, 0) := by
  obtain ⟨s0, s1, s2, s3, s4, s5, s6, s7, s8⟩ := id hS
  have c8 : (8 : Int32).toNatClampNeg = 8 := by decide
  have c9 : (9 : Int32).toNatClampNeg = 9 := by decide
  have c10 : (10 : Int32).toNatClampNeg = 10 := by decide
  have c11 : (11 : Int32).toNatClampNeg = 11 := by decide
  have c12 : (12 : Int32).toNatClampNeg = 12 := by decide
  have c13 : (13 : Int32).toNatClampNeg = 13 := by decide
  have c14 : (14 : Int32).toNatClampNeg = 14 := by decide
  have c15 : (15 : Int32).toNatClampNeg = 15 := by decide
  have c16 : (16 : Int32).toNatClampNeg = 16 := by decide
  have c17 : (17 : Int32).toNatClampNeg = 17 := by decide
  have c20 : (20 : Int32).toNatClampNeg = 20 := by decide
  have w8 : vp_in (8 : Int32) 21 := vpn (i := 8) (by decide) (by decide)
  have w9 : vp_in (9 : Int32) 21 := vpn (i := 9) (by decide) (by decide)
  have w10 : vp_in (10 : Int32) 21 := vpn (i := 10) (by decide) (by decide)
  have w11 : vp_in (11 : Int32) 21 := vpn (i := 11) (by decide) (by decide)
  have w12 : vp_in (12 : Int32) 21 := vpn (i := 12) (by decide) (by decide)
  have w13 : vp_in (13 : Int32) 21 := vpn (i := 13) (by decide) (by decide)
  have w14 : vp_in (14 : Int32) 21 := vpn (i := 14) (by decide) (by decide)
  have w15 : vp_in (15 : Int32) 21 := vpn (i := 15) (by decide) (by decide)
  have w16 : vp_in (16 : Int32) 21 := vpn (i := 16) (by decide) (by decide)
  have w17 : vp_in (17 : Int32) 21 := vpn (i := 17) (by decide) (by decide)
  have w20 : vp_in (20 : Int32) 21 := vpn (i := 20) (by decide) (by decide)
  have vp : vp_in (nI p) 64 := vpn hp (by decide)
  have cp : (nI p).toNatClampNeg = p := nI_clamp (by omega)
  have z64 : ¬ (64 : Int32) = 0 := by decide
  simp only [eL_receive_89, eL_receive_90, eL_receive_92, eL_receive_93, eL_receive_95, eL_receive_96, eL_receive_98, eL_receive_99, eL_receive_101, eL_receive_103, mI_lm0, mI_lm, mJ_lm, wR_lm, wR_lm0, wL_lm, qArr_lm, l19, l29, l39, l49, l59, l69, l79, l89, wI_def, up2_at, up2_2, pk_us, j10, j20, j21, j30, j31, j32, j40, j41, j42, j43, j50, j51, j52, j53, j54, j60, j70, j71, j80, j01, j02, j03, j04, j05, j06, j07, j08, j12, j13, j14, j15, j23, j24, j25, j34, j35, j45, j56, j57, j58, j65, j67, j68, j75, j76, j78, j85, j86, j87, ite_false_, ite_true_, qA_iA s2, qA_jA s1, c8, c9, c10, c11, c12, c13, c14, c15, c16, c17, c20, w8, w9, w10, w11, w12, w13, w14, w15, w16, w17, w20, vp, cp, z64, one0, eq_self, or_true, true_or, not_true_eq_false, not_false_eq_true, true_imp_iff, false_imp_iff, true_and, and_true, Classical.not_not]
  by_cases g : fo ≤ 0
  · have nu : ¬ rcU I p := fun q => Int32.not_le.mpr q.1 (hfo ▸ g)
    have e1 : rhF I J p = J 1 p := by
      unfold rhF
      rw [← hfo, if_pos g]
    have e2 : rsF I p = I 2 p := by
      unfold rsF
      rw [← hfo, if_pos g]
    refine ⟨fun _ => ?_, fun h => absurd g h⟩
    have k := hR nu
    rw [e1, e2] at k
    exact rvD hS hp x (I 2 p) (J 1 p) (h0 nu) h8 hb k
  · obtain ⟨r, hr1, hr2⟩ := hr (Int32.not_le.mp g)
    refine ⟨fun h => absurd h g, fun _ => ?_⟩
    have er : I 3 p - I 3 p / 1000 * 1000 = remF (I 3 p) 1000 := rfl
    have z1000 : ¬ (1000 : Int32) = 0 := by decide
    have z4 : ¬ (4 : Int32) = 0 := by decide
    have f1 : (I 3 p - I 3 p / 1000 * 1000) / 4 - 1 = rrF I p := rfl
    have f2 : x - nI p + rrF I p = raF I p := by
      unfold raF
      rw [hx]
    simp only [eL_receive_106, eL_receive_107, eL_receive_109, eL_receive_110, eL_receive_113, eL_receive_114, eL_receive_115, eL_receive_116, eL_receive_117, eL_receive_118, eL_receive_120, eL_receive_122, eL_receive_124, eL_receive_125, eL_receive_127, eL_receive_128, eL_receive_130, eL_receive_132, mI_lm0, mI_lm, mJ_lm, wR_lm, wR_lm0, wL_lm, qArr_lm, l19, l29, l39, l49, l59, l69, l79, l89, wI_def, up2_at, up2_2, pk_us, j10, j20, j21, j30, j31, j32, j40, j41, j42, j43, j50, j51, j52, j53, j54, j60, j70, j71, j80, j01, j02, j03, j04, j05, j06, j07, j08, j12, j13, j14, j15, j23, j24, j25, j34, j35, j45, j56, j57, j58, j65, j67, j68, j75, j76, j78, j85, j86, j87, ite_false_, ite_true_, qA_iA s3, z1000, z4, f1, f2, c8, c9, c10, c11, c12, c13, c14, c15, c16, c17, c20, w8, w9, w10, w11, w12, w13, w14, w15, w16, w17, w20, vp, cp, z64, one0, eq_self, or_true, true_or, not_true_eq_false, not_false_eq_true, true_imp_iff, false_imp_iff, true_and, and_true, Classical.not_not]
    have bad : rcU I p → EX (SL_receive R X) 148 [some (.ref x1), some (.ref (x1 + 1)), some (.ref (x1 + 2)), some (.ref (x1 + 3)), some (.ref (x1 + 6)), some (.ref (x1 + 7)), some (.ref (x1 + 8)), some (.ref (x1 + 5)), some (.int (nI p)), some (.int (fo)), some (.int (x)), none, none, some (.int (I 2 p)), some (.int (rrF I p)), some (.int (raF I p)), none, none, none, none] [none, none, none, none, none, none, none, none, none, none, none, some (.long (J 1 p)), none, none, none, none, j16, none, j18, none] [] (lm μ x1 I J) (0, 0) := fun u => rvM hS hp hb (hR2 u)
    by_cases ga : raF I p < 0
    · exact ⟨fun _ => bad ⟨hfo ▸ Int32.not_le.mp g, fun q => Int32.not_le.mpr ga q.1⟩, fun h => absurd ga h⟩
    · have ga' : 0 ≤ raF I p := Int32.not_lt.mp ga
      obtain ⟨v, cv⟩ := slx ga'
      refine ⟨fun h => absurd h ga, fun _ => ?_⟩
      simp only [eL_receive_135, eL_receive_137, eL_receive_139, eL_receive_141, eL_receive_142, eL_receive_143, eL_receive_145, mI_lm0, mI_lm, mJ_lm, wR_lm, wR_lm0, wL_lm, qArr_lm, l19, l29, l39, l49, l59, l69, l79, l89, wI_def, up2_at, up2_2, pk_us, j10, j20, j21, j30, j31, j32, j40, j41, j42, j43, j50, j51, j52, j53, j54, j60, j70, j71, j80, j01, j02, j03, j04, j05, j06, j07, j08, j12, j13, j14, j15, j23, j24, j25, j34, j35, j45, j56, j57, j58, j65, j67, j68, j75, j76, j78, j85, j86, j87, ite_false_, ite_true_, qA_iA s6, v, cv, c8, c9, c10, c11, c12, c13, c14, c15, c16, c17, c20, w8, w9, w10, w11, w12, w13, w14, w15, w16, w17, w20, vp, cp, z64, one0, eq_self, or_true, true_or, not_true_eq_false, not_false_eq_true, true_imp_iff, false_imp_iff, true_and, and_true, Classical.not_not]
      by_cases gk : I 6 (slotOf (raF I p)) = raF I p
      · have nu : ¬ rcU I p := fun q => q.2 ⟨ga', gk⟩
        refine ⟨fun _ => ?_, fun h => absurd gk h⟩
        have k := hR nu
        refine rvH hS hp fo x (rrF I p) (raF I p) (J 1 p) _ _ r hr1 hr2 ga' rfl rfl ?_
        have e1 : rhF I J p = (hdF (if ptF (J 1 p) 0 = ptF (bsF (J 1) (I 2) fo (rrF I p) (nI p - rrF I p)) 0 then ptF (bsF (J 7) (I 8) fo (nI (slotOf (raF I p))) (nI p - rrF I p)) 0 else ptF (J 1 p) 0) (ptF (bsF (J 7) (I 8) fo (nI (slotOf (raF I p))) (nI p - rrF I p)) 1 + ptF (J 1 p) 1 - ptF (bsF (J 1) (I 2) fo (rrF I p) (nI p - rrF I p)) 1) (ptF (bsF (J 7) (I 8) fo (nI (slotOf (raF I p))) (nI p - rrF I p)) 2 + ptF (J 1 p) 2 - ptF (bsF (J 1) (I 2) fo (rrF I p) (nI p - rrF I p)) 2) (if ptF (J 1 p) 3 = ptF (bsF (J 1) (I 2) fo (rrF I p) (nI p - rrF I p)) 3 then ptF (bsF (J 7) (I 8) fo (nI (slotOf (raF I p))) (nI p - rrF I p)) 3 else ptF (J 1 p) 3)) := by
          unfold rhF
          rw [← hfo, if_neg g]
        have e2 : rsF I p = I 8 (slotOf (raF I p)) := by
          unfold rsF
          rw [← hfo, if_neg g]
        rw [e1, e2] at k
        exact rvD hS hp x _ _ (h0 nu) h8 hb k
      · exact ⟨fun h => absurd h gk, fun _ => bad ⟨hfo ▸ Int32.not_le.mp g, fun q => gk q.2⟩⟩
theorem xL_receive (x1 : Nat) (x2 : Nat) (x3 : Nat) (x4 : Nat) (x5 : Nat) (x6 : Nat) (x7 : Nat) (x8 : Nat) (x9 : Int32) (μ : qMM) (hp : PL_receive x1 x2 x3 x4 x5 x6 x7 x8 x9 μ) : EX (SL_receive (rti 0 0 (QL_receive x1 x2 x3 x4 x5 x6 x7 x8 x9 μ)) (fun _ _ _ => False)) 0 [some (.ref x1), some (.ref x2), some (.ref x3), some (.ref x4), some (.ref x5), some (.ref x6), some (.ref x7), some (.ref x8), some (.int x9), none, none, none, none, none, none, none, none, none, none, none] [none, none, none, none, none, none, none, none, none, none, none, none, none, none, none, none, none, none, none, none] [] μ (0, 0) := by
  obtain ⟨hS, rfl, rfl, rfl, rfl, rfl, rfl, rfl, p, hp, rfl, hq⟩ := hp
  suffices h : EX (SL_receive (rti 0 0 (QL_receive x1 (x1 + 1) (x1 + 2) (x1 + 3) (x1 + 6) (x1 + 7) (x1 + 8) (x1 + 5) (nI p) μ)) (fun _ _ _ => False)) 0 [some (.ref x1), some (.ref (x1 + 1)), some (.ref (x1 + 2)), some (.ref (x1 + 3)), some (.ref (x1 + 6)), some (.ref (x1 + 7)), some (.ref (x1 + 8)), some (.ref (x1 + 5)), some (.int (nI p)), none, none, none, none, none, none, none, none, none, none, none] [none, none, none, none, none, none, none, none, none, none, none, none, none, none, none, none, none, none, none, none] [] (lm μ x1 (lI μ x1) (lJ μ x1)) (0, 0) by rwa [lm_self] at h
  unfold QL_receive
  rw [nI_clamp (show p < 2 ^ 31 by omega)]
  generalize lI μ x1 = I at *
  generalize lJ μ x1 = J at *
  obtain ⟨hb, h8, hr, h0, hf⟩ := hq
  obtain ⟨s0, s1, s2, s3, s4, s5, s6, s7, s8⟩ := id hS
  have c8 : (8 : Int32).toNatClampNeg = 8 := by decide
  have c9 : (9 : Int32).toNatClampNeg = 9 := by decide
  have c10 : (10 : Int32).toNatClampNeg = 10 := by decide
  have c11 : (11 : Int32).toNatClampNeg = 11 := by decide
  have c12 : (12 : Int32).toNatClampNeg = 12 := by decide
  have c13 : (13 : Int32).toNatClampNeg = 13 := by decide
  have c14 : (14 : Int32).toNatClampNeg = 14 := by decide
  have c15 : (15 : Int32).toNatClampNeg = 15 := by decide
  have c16 : (16 : Int32).toNatClampNeg = 16 := by decide
  have c17 : (17 : Int32).toNatClampNeg = 17 := by decide
  have c20 : (20 : Int32).toNatClampNeg = 20 := by decide
  have w8 : vp_in (8 : Int32) 21 := vpn (i := 8) (by decide) (by decide)
  have w9 : vp_in (9 : Int32) 21 := vpn (i := 9) (by decide) (by decide)
  have w10 : vp_in (10 : Int32) 21 := vpn (i := 10) (by decide) (by decide)
  have w11 : vp_in (11 : Int32) 21 := vpn (i := 11) (by decide) (by decide)
  have w12 : vp_in (12 : Int32) 21 := vpn (i := 12) (by decide) (by decide)
  have w13 : vp_in (13 : Int32) 21 := vpn (i := 13) (by decide) (by decide)
  have w14 : vp_in (14 : Int32) 21 := vpn (i := 14) (by decide) (by decide)
  have w15 : vp_in (15 : Int32) 21 := vpn (i := 15) (by decide) (by decide)
  have w16 : vp_in (16 : Int32) 21 := vpn (i := 16) (by decide) (by decide)
  have w17 : vp_in (17 : Int32) 21 := vpn (i := 17) (by decide) (by decide)
  have w20 : vp_in (20 : Int32) 21 := vpn (i := 20) (by decide) (by decide)
  have vp : vp_in (nI p) 64 := vpn hp (by decide)
  have cp : (nI p).toNatClampNeg = p := nI_clamp (by omega)
  have z64 : ¬ (64 : Int32) = 0 := by decide
  have z4 : ¬ (4 : Int32) = 0 := by decide
  simp only [eL_receive_0, eL_receive_1, eL_receive_3, eL_receive_4, eL_receive_6, eL_receive_7, eL_receive_9, eL_receive_10, eL_receive_11, eL_receive_13, eL_receive_14, eL_receive_17, eL_receive_18, eL_receive_20, eL_receive_21, eL_receive_23, eL_receive_24, eL_receive_27, eL_receive_28, eL_receive_30, mI_lm0, mI_lm, mJ_lm, wR_lm, wR_lm0, wL_lm, qArr_lm, l19, l29, l39, l49, l59, l69, l79, l89, wI_def, up2_at, up2_2, pk_us, j10, j20, j21, j30, j31, j32, j40, j41, j42, j43, j50, j51, j52, j53, j54, j60, j70, j71, j80, j01, j02, j03, j04, j05, j06, j07, j08, j12, j13, j14, j15, j23, j24, j25, j34, j35, j45, j56, j57, j58, j65, j67, j68, j75, j76, j78, j85, j86, j87, ite_false_, ite_true_, qA_iA s0, c8, c9, c10, c11, c12, c13, c14, c15, c16, c17, c20, w8, w9, w10, w11, w12, w13, w14, w15, w16, w17, w20, vp, cp, z64, one0, eq_self, or_true, true_or, not_true_eq_false, not_false_eq_true, true_imp_iff, false_imp_iff, true_and, and_true, Classical.not_not, mrgI, mrgN]
  have er : upd (I 0) 20 (if I 0 10 - nI p ≤ I 0 20 then I 0 20 else I 0 10 - nI p) = rlF I p := rfl
  have nuE : ∀ u, nuF (rlF I p) u = nuF (I 0) u := fun u => by simp [nuF, rlF, up_at]
  have rm : nI p - nI p / 64 * 64 = remF (nI p) 64 := rfl
  simp only [eL_receive_31, eL_receive_32, eL_receive_33, eL_receive_35, eL_receive_36, eL_receive_37, eL_receive_38, eL_receive_40, eL_receive_42, eL_receive_45, eL_receive_47, eL_receive_50, eL_receive_51, eL_receive_53, eL_receive_55, eL_receive_56, PL_numberFor, QL_numberFor, fEq, er, iA_lm, s0, nuE, rm, z4, mI_lm0, mI_lm, mJ_lm, wR_lm, wR_lm0, wL_lm, qArr_lm, l19, l29, l39, l49, l59, l69, l79, l89, wI_def, up2_at, up2_2, pk_us, j10, j20, j21, j30, j31, j32, j40, j41, j42, j43, j50, j51, j52, j53, j54, j60, j70, j71, j80, j01, j02, j03, j04, j05, j06, j07, j08, j12, j13, j14, j15, j23, j24, j25, j34, j35, j45, j56, j57, j58, j65, j67, j68, j75, j76, j78, j85, j86, j87, ite_false_, ite_true_, qA_iA s0, qA_iA s3, c8, c9, c10, c11, c12, c13, c14, c15, c16, c17, c20, w8, w9, w10, w11, w12, w13, w14, w15, w16, w17, w20, vp, cp, z64, List.length_nil, List.length_cons, ll0, ll1, ll2, ll3, ll4, Nat.le_refl, and_true, Nat.zero_add, Nat.add_zero, Nat.zero_le, one0, eq_self, or_true, true_or, not_true_eq_false, not_false_eq_true, true_imp_iff, false_imp_iff, true_and, and_true, Classical.not_not, mrgI, mrgN]
  have ex : (if I 3 p - I 3 p / 4 * 4 = 0 then nI p else nuF (I 0) (remF (nI p) 64)) = rxF I p := rfl
  have ef : I 3 p - I 3 p / 4 * 4 = remF (I 3 p) 4 := rfl
  rw [ex, ef]
  have n30 : up2 I 0 (rlF I p) 3 = I 3 := up2_n (by decide)
  have n20 : up2 I 0 (rlF I p) 2 = I 2 := up2_n (by decide)
  have n50 : up2 I 0 (rlF I p) 5 = I 5 := up2_n (by decide)
  have n60 : up2 I 0 (rlF I p) 6 = I 6 := up2_n (by decide)
  have n80 : up2 I 0 (rlF I p) 8 = I 8 := up2_n (by decide)
  have a1 : rxF (up2 I 0 (rlF I p)) p = rxF I p := by
    unfold rxF
    rw [n30, up2_s, nuE]
  have a2 : rrF (up2 I 0 (rlF I p)) p = rrF I p := by
    unfold rrF
    rw [n30]
  have a3 : raF (up2 I 0 (rlF I p)) p = raF I p := by
    unfold raF
    rw [a1, a2]
  have a4 : rcU (up2 I 0 (rlF I p)) p = rcU I p := by
    unfold rcU
    rw [n30, n60, a3]
  have a5 : rhF (up2 I 0 (rlF I p)) J p = rhF I J p := by
    unfold rhF
    rw [n30, n20, n80, a2, a3]
  have a6 : rsF (up2 I 0 (rlF I p)) p = rsF I p := by
    unfold rsF
    rw [n30, n20, n80, a3]
  have a7 : rlF I p 8 = I 0 8 := by simp [rlF, up_at]
  have a12 : rlF I p 12 = I 0 12 := by simp [rlF, up_at]
  have a16 : rlF I p 16 = I 0 16 := by simp [rlF, up_at]
  have key : ∀ {l13 l14 l15 j11 j16 j18 : Option Value}, ¬ rcD I p → EX (SL_receive (rti 0 0 (fun r μ' => r = rcR I J p ∧ LaU μ μ' x1 (rcI I J p) (rcJ I J p))) (fun _ _ _ => False)) 89 [some (.ref x1), some (.ref (x1 + 1)), some (.ref (x1 + 2)), some (.ref (x1 + 3)), some (.ref (x1 + 6)), some (.ref (x1 + 7)), some (.ref (x1 + 8)), some (.ref (x1 + 5)), some (.int (nI p)), some (.int (remF (I 3 p) 4)), some (.int (rxF I p)), none, none, l13, l14, l15, none, none, none, none] [none, none, none, none, none, none, none, none, none, none, none, j11, none, none, none, none, j16, none, j18, none] [] (lm μ x1 (up2 I 0 (rlF I p)) J) (0, 0) := by
    intro l13 l14 l15 j11 j16 j18 hD
    refine rvE hS hp (remF (I 3 p) 4) (rxF I p) a1.symm (by rw [n30]) (by rw [up2_s, a7]; exact h8) (by rw [n50]; exact hb) (by rw [a2]; exact hr) (by rw [a4]; exact h0 hD) (fun u => ?_) (fun u => ?_)
    · rw [a4] at u
      rw [up2_s, n50, up2_2]
      simp only [rtv_at, rti_at, rtj_at, rtd_at, rta_at, qOk, qOkR]
      refine ⟨⟨?_, LaU_lm (k9 ?_ ?_ ?_ ?_ ?_ ?_ ?_ ?_ ?_) ?_⟩, Nat.le_refl _, Nat.le_refl _⟩
      · unfold rcR
        rw [if_neg hD, if_pos u]
      all_goals try (unfold rcI; dsimp only; rw [if_neg hD, if_pos u]; simp [up2_at])
      · intro k hk
        unfold rcJ
        rw [if_neg hD, if_pos u]
    · rw [a4] at u
      rw [up2_s, n60, n80, n50, a5, a6, up2_2, a12, a7]
      intro I1 K M e1 e2 e3
      subst e1 e2 e3
      simp only [rtv_at, rti_at, rtj_at, rtd_at, rta_at, qOk, qOkR]
      refine ⟨⟨?_, LaU_lm (k9 ?_ ?_ ?_ ?_ ?_ ?_ ?_ ?_ ?_) ?_⟩, Nat.le_refl _, Nat.le_refl _⟩
      · unfold rcR
        rw [if_neg hD, if_neg u]
      · unfold rcI
        dsimp only
        rw [if_neg hD, if_neg u]
        simp [up2_at, a12]
      all_goals try (unfold rcI; dsimp only; rw [if_neg hD, if_neg u]; by_cases gq : keG (rlF I p) (rxF I p) 10 - 64 < rxF I p <;> simp [gq, up2_at, a12, a7])
      intro k hk
      unfold rcJ
      rw [if_neg hD, if_neg u]
      by_cases gq : keG (rlF I p) (rxF I p) 10 - 64 < rxF I p
      · by_cases g7 : k = 7
        · subst g7
          simp [gq, up2_at]
        · simp [gq, g7, up2_at]
      · by_cases g7 : k = 7
        · subst g7
          simp [gq]
        · simp [gq, g7]
  by_cases gx : rxF I p < 0
  · simp only [eL_receive_59, eL_receive_61, eL_receive_63, gx, one0, eq_self, or_true, true_or, not_true_eq_false, not_false_eq_true, true_imp_iff, false_imp_iff, true_and, and_true, Classical.not_not]
    exact key (fun q => Int32.not_le.mpr gx q.1)
  · have gx' : 0 ≤ rxF I p := Int32.not_lt.mp gx
    obtain ⟨v, cv⟩ := slx gx'
    simp only [eL_receive_59, eL_receive_61, eL_receive_63, eL_receive_66, eL_receive_68, eL_receive_70, eL_receive_72, eL_receive_73, eL_receive_74, eL_receive_76, gx, mI_lm0, mI_lm, mJ_lm, wR_lm, wR_lm0, wL_lm, qArr_lm, l19, l29, l39, l49, l59, l69, l79, l89, wI_def, up2_at, up2_2, pk_us, j10, j20, j21, j30, j31, j32, j40, j41, j42, j43, j50, j51, j52, j53, j54, j60, j70, j71, j80, j01, j02, j03, j04, j05, j06, j07, j08, j12, j13, j14, j15, j23, j24, j25, j34, j35, j45, j56, j57, j58, j65, j67, j68, j75, j76, j78, j85, j86, j87, ite_false_, ite_true_, qA_iA s6, v, cv, z64, one0, eq_self, or_true, true_or, not_true_eq_false, not_false_eq_true, true_imp_iff, false_imp_iff, true_and, and_true, Classical.not_not]
    by_cases gk : I 6 (slotOf (rxF I p)) = rxF I p
    · refine ⟨fun h => absurd gk h, fun _ => ?_⟩
      have hD : rcD I p := ⟨gx', gk⟩
      simp only [eL_receive_79, eL_receive_80, eL_receive_82, eL_receive_83, eL_receive_84, eL_receive_85, eL_receive_86, eL_receive_87, eL_receive_88, mI_lm0, mI_lm, mJ_lm, wR_lm, wR_lm0, wL_lm, qArr_lm, l19, l29, l39, l49, l59, l69, l79, l89, wI_def, up2_at, up2_2, pk_us, j10, j20, j21, j30, j31, j32, j40, j41, j42, j43, j50, j51, j52, j53, j54, j60, j70, j71, j80, j01, j02, j03, j04, j05, j06, j07, j08, j12, j13, j14, j15, j23, j24, j25, j34, j35, j45, j56, j57, j58, j65, j67, j68, j75, j76, j78, j85, j86, j87, ite_false_, ite_true_, qA_iA s0, a16, c8, c9, c10, c11, c12, c13, c14, c15, c16, c17, c20, w8, w9, w10, w11, w12, w13, w14, w15, w16, w17, w20, vp, cp, z64, rtv_at, rti_at, rtj_at, rtd_at, rta_at, qOk, qOkR, one0, eq_self, or_true, true_or, not_true_eq_false, not_false_eq_true, true_imp_iff, false_imp_iff, true_and, and_true, Classical.not_not]
      refine ⟨⟨?_, LaU_lm (k9 ?_ ?_ ?_ ?_ ?_ ?_ ?_ ?_ ?_) ?_⟩, Nat.le_refl _, Nat.le_refl _⟩
      · unfold rcR
        rw [if_pos hD]
      all_goals try (unfold rcI; dsimp only; rw [if_pos hD]; simp [up2_at, dupG, a16])
      · intro k hk
        unfold rcJ
        rw [if_pos hD]
    · exact ⟨fun _ => key (fun q => gk q.2), fun h => absurd h gk⟩
