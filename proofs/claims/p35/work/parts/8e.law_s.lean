/-! ===== the law's beginning ===== -/
theorem fgt_id {μ : qMM} (h : mN μ = none) : fgt μ = μ := by
  obtain ⟨⟨n, f⟩, g⟩ := μ
  have : n = none := h
  subst this
  rfl
theorem HsS_fr {μ μ' : qMM} {x : Nat} (h : Agr μ μ' x (x + 1492)) (g : HsS μ x) : HsS μ' x := by
  obtain ⟨g1, g2, g3, g4, g5, g6⟩ := g
  refine ⟨?_, LgS_fr (fun c a b => h c (by omega) (by omega)) g2, StS_fr (fun c a b => h c (by omega) (by omega)) g3, ?_, fun i hi => StS_fr (fun c a b => h c (by omega) (by omega)) (g5 i hi), ?_⟩
  · unfold obX8 at g1 ⊢
    rw [(h x (by omega) (by omega)).1, g1]
  · unfold PlA at g4 ⊢
    rw [(h _ (by omega) (by omega)).1, g4]
  · have k : Agr μ μ' (x + 1488) (x + 1492) := fun c a b => h c (by omega) (by omega)
    refine ⟨?_, iA_fr (k _ (by omega) (by omega)).1 g6.2.1, iA_fr (k _ (by omega) (by omega)).1 g6.2.2.1, iA_fr (k _ (by omega) (by omega)).1 g6.2.2.2⟩
    have := g6.1
    unfold obX4 at this ⊢
    rw [(k _ (by omega) (by omega)).1, this]
theorem Iv_stI : Iv 600 stI := ⟨by decide, ⟨0, by decide, by decide, fun p hp => absurd hp (by omega), 0, by decide, by decide, fun i hi => absurd hi (by omega)⟩, ⟨0, by decide, by decide, fun i hi => absurd hi (by omega)⟩, Or.inl ⟨by decide, fun k hk => stI_k hk⟩, ⟨3, by decide, by decide⟩, ⟨1, by decide, by decide, by decide⟩, Or.inl (by decide), Or.inl (by decide), by decide, by decide⟩
def mu0 (n : Nat) : qMM := ((some n, fun _ => none), (fun _ _ => 0, fun _ _ => 0))
/-- a new object's state -/
def mod0 : Mod := (zI, stI, zI, zI, zI, zI, 0)
/-- what the law's rows are -/
def rwT (i : Nat) : Nat × Nat × (Nat → Option Nat) := (if i = 1 ∨ i = 7 then 1 else 0, if i = 0 then 21 else if i = 4 ∨ i = 5 then 22 else 64, fun _ => none)
/-- k of the law's rows are made behind a memory -/
def Sta (x k : Nat) (μ1 μ : qMM) : Prop := mN μ = some (x + 1492 + k) ∧ (∀ b, b < x + 1492 → mS μ b = mS μ1 b ∧ mI μ b = mI μ1 b) ∧ ∀ i, i < k → mS μ (x + 1492 + i) = some (.inr (rwT i)) ∧ mI μ (x + 1492 + i) = zI ∧ mJ μ (x + 1492 + i) = fun _ => 0
theorem Sta_mk {x k : Nat} {μ1 μ : qMM} (h : Sta x k μ1 μ) : Sta x (k + 1) μ1 (mk1 μ (x + 1492 + k) (.inr (rwT k))) := by
  obtain ⟨h1, h2, h3⟩ := h
  refine ⟨by rw [mN_mk1]; rfl, fun b hb => ?_, fun i hi => ?_⟩
  · rw [mS_mk1, mI_mk1, if_neg (by omega), if_neg (by omega)]
    exact h2 b hb
  · rw [mS_mk1, mI_mk1, mJ_mk1]
    by_cases e : i = k
    · subst e
      rw [if_pos rfl, if_pos rfl, if_pos rfl]
      exact ⟨rfl, rfl, rfl⟩
    · rw [if_neg (by omega), if_neg (by omega), if_neg (by omega)]
      exact h3 i (by omega)
theorem fgt_lm {ν : qMM} {a : Nat} {I : Nat → Nat → Int32} {J : Nat → Nat → Int64} (h : mN ν = none) : fgt (lm ν a I J) = lm ν a I J := fgt_id h
/-- the rows at the start of the first turn -/
theorem st_ok {I : Nat → Nat → Int32} {J : Nat → Nat → Int64} (h0 : I 0 = upd (upd (upd (upd (upd zI 4 4256) 7 3) 8 1) 9 2) 10 (-1)) (h4 : I 4 = zI) (h5 : I 5 = zI) (h6 : ∀ j, j < 64 → I 6 j = -1) : LwR I J stI 0 := by
  have n0 : nOf stI = 0 := by decide
  refine ⟨⟨0, 0, 0, 0, by decide, by decide, by decide, by decide, by decide, by decide, by decide, by decide, by decide⟩, ?_, fun p hp => absurd hp (by omega), ⟨?_, fun i hi => ?_⟩, ⟨?_, fun i hi => ?_⟩, fun j hj => ?_, by omega⟩
  · rw [h0]
    refine ⟨by decide, by decide, by decide, by decide, ⟨1, 160, by decide, by decide, by decide, by decide, by decide⟩, by decide, by decide, by decide, fun i h1 h2 => ?_⟩
    rcases (by omega : i = 10 ∨ i = 11 ∨ i = 12 ∨ i = 13 ∨ i = 14 ∨ i = 15 ∨ i = 16 ∨ i = 17 ∨ i = 18 ∨ i = 19 ∨ i = 20) with rfl | rfl | rfl | rfl | rfl | rfl | rfl | rfl | rfl | rfl | rfl <;> decide
  · rw [h4]; decide
  · have : (stI 10).toNatClampNeg = 0 := by decide
    omega
  · rw [h5]; decide
  · have : (stI 31).toNatClampNeg = 0 := by decide
    omega
  · rw [h6 j hj, stI_k hj]
    exact ⟨rfl, fun z => absurd rfl z⟩
theorem fil_s (f : Nat → Int32) (j : Nat) : upd (filF f (-1) j) j (-1) = filF f (-1) (j + 1) := by
  funext q
  unfold filF
  by_cases g : q = j
  · subst g
    rw [pk_us, if_pos (by omega)]
  · rw [pk_un g]
    by_cases g2 : q < j
    · rw [if_pos g2, if_pos (by omega)]
    · rw [if_neg g2, if_neg (by omega)]
/-! the rows are made -/
theorem fgt_lm2 {μ : qMM} {a : Nat} {I : Nat → Nat → Int32} {J : Nat → Nat → Int64} : fgt (lm μ a I J) = lm (fgt μ) a I J := rfl
theorem fgt_2 {μ : qMM} : fgt (fgt μ) = fgt μ := rfl
theorem law_fill {b L : Nat} {xs : Nat → Int32} {R : Option Value → qMM → Nat × Nat → Prop} {X : String → qMM → Nat × Nat → Prop} {x : Nat} {I : Nat → Nat → Int32} {J : Nat → Nat → Int64} {f : Nat → Int32} {c s : Nat} {ν : qMM} (s6 : iA (fgt ν) (x + 1492 + 6) 64) (hK : EX (SL_law b L xs R X) 111 [some (.ref b), some (.ref x), some (.ref (x + 1492)), some (.ref (x + 1492 + 1)), some (.ref (x + 1492 + 2)), some (.ref (x + 1492 + 3)), some (.ref (x + 1492 + 4)), some (.ref (x + 1492 + 5)), some (.ref (x + 1492 + 6)), some (.ref (x + 1492 + 7)), some (.ref (x + 1492 + 8)), none, none, some (.int (nI 64)), none, none, none, none, none, none, none, none, none, none] [none, none, none, none, none, none, none, none, none, none, none, some (.long 0), none, none, none, none, none, none, none, none, none, none, none, none] [] (lm (fgt ν) (x + 1492) (up2 I 6 (filF f (-1) 64)) J) (c, s)) : ∀ (k j : Nat), j + k = 64 → EX (SL_law b L xs R X) 94 [some (.ref b), some (.ref x), some (.ref (x + 1492)), some (.ref (x + 1492 + 1)), some (.ref (x + 1492 + 2)), some (.ref (x + 1492 + 3)), some (.ref (x + 1492 + 4)), some (.ref (x + 1492 + 5)), some (.ref (x + 1492 + 6)), some (.ref (x + 1492 + 7)), some (.ref (x + 1492 + 8)), none, none, some (.int (nI j)), none, none, none, none, none, none, none, none, none, none] [none, none, none, none, none, none, none, none, none, none, none, some (.long 0), none, none, none, none, none, none, none, none, none, none, none, none] [.int (nI j)] (lm (fgt ν) (x + 1492) (up2 I 6 (filF f (-1) j)) J) (c, s) := by
  intro k
  induction k with
  | zero =>
    intro j h
    have : j = 64 := by omega
    subst this
    have e : (64 : Int32) ≤ nI 64 := by decide
    simp only [eL_law_94, eL_law_96, e, one0, eq_self, or_true, true_or, not_true_eq_false, not_false_eq_true, true_imp_iff, false_imp_iff, true_and, and_true, Classical.not_not]
    exact hK
  | succ k ih =>
    intro j h
    have e : ¬ (64 : Int32) ≤ nI j := nI_ge (show j < 64 by omega) (by decide)
    have cn : (nI j).toNatClampNeg = j := nI_clamp (by omega)
    have e1 : nI j + 1 = nI (j + 1) := nI_1 j
    simp only [eL_law_94, eL_law_96, e, eL_law_99, eL_law_101, eL_law_103, eL_law_104, eL_law_105, eL_law_108, mI_lm0, mI_lm, mJ_lm, wR_lm, wR_lm0, wL_lm, qArr_lm, l19, l29, l39, l49, l59, l69, l79, l89, wI_def, up2_at, up2_2, pk_us, j10, j20, j21, j30, j31, j32, j40, j41, j42, j43, j50, j51, j52, j53, j54, j60, j70, j71, j80, j01, j02, j03, j04, j05, j06, j07, j08, j12, j13, j14, j15, j23, j24, j25, j34, j35, j45, j56, j57, j58, j65, j67, j68, j75, j76, j78, j85, j86, j87, ite_false_, ite_true_, qA_iA s6, vpn (show j < 64 by omega) (by decide), cn, fil_s, e1, one0, eq_self, or_true, true_or, not_true_eq_false, not_false_eq_true, true_imp_iff, false_imp_iff, true_and, and_true, Classical.not_not]
    rw [eL_law_92, fgt_lm2, fgt_2]
    exact ih (j + 1) (by omega)
theorem law_mid {b L : Nat} {xs : Nat → Int32} {R : Option Value → qMM → Nat × Nat → Prop} {X : String → qMM → Nat × Nat → Prop} {x : Nat} (hE : ∀ (μ : qMM) (c s : Nat), c ≤ 600130 → s ≤ 7301079 → R (some (.int 1)) μ (c, s)) {I : Nat → Nat → Int32} {J : Nat → Nat → Int64} {ν : qMM} {m : Mod} {v : Int32} (h1 : SoV 600 x m I J ν) (h2 : LwR I J m.s 0) : EX (SL_law b L xs R X) 111 [some (.ref b), some (.ref x), some (.ref (x + 1492)), some (.ref (x + 1492 + 1)), some (.ref (x + 1492 + 2)), some (.ref (x + 1492 + 3)), some (.ref (x + 1492 + 4)), some (.ref (x + 1492 + 5)), some (.ref (x + 1492 + 6)), some (.ref (x + 1492 + 7)), some (.ref (x + 1492 + 8)), none, none, some (.int v), none, none, none, none, none, none, none, none, none, none] [none, none, none, none, none, none, none, none, none, none, none, some (.long 0), none, none, none, none, none, none, none, none, none, none, none, none] [] (lm ν (x + 1492) I J) (1501, 14829) := by
  obtain ⟨u, hu, eu⟩ := low_N (cellF L xs 0) (n := 52) (by decide) (by decide)
  have n1 : nI 52 = 52 := by decide
  rw [n1] at eu
  have e0 : (0 : Int32) = nI 0 := by decide
  have e8 : (8 : Int32) + nI u = nI (8 + u) := nI_add 8 u
  simp only [eL_law_111, eL_law_112, eL_law_114, eL_law_116, eL_law_117]
  rw [eL_law_118]
  refine ⟨by simp, by decide, by decide, ⟨rfl, 0, by decide, rfl⟩, fun r μ' q => ?_⟩
  obtain ⟨rfl, rfl⟩ := q
  rw [show (0 : Int32).toNatClampNeg = 0 by decide]
  simp only [eL_law_121]
  rw [eL_law_123]
  refine ⟨by simp, by decide, by decide, (by decide : ¬ (52 : Int32) = 0), fun r μ' q => ?_⟩
  obtain ⟨rfl, rfl⟩ := q
  rw [eu]
  simp only [eL_law_126, eL_law_127, eL_law_129, eL_law_130, e8]
  have hl := law_loop (b := b) (L := L) (xs := xs) (R := R) (X := X) (x := x) (U := 8 + u) (by omega) hE (8 + u) 0 600 1501 14829 m I J 0 ν none none none none none none none none (by omega) (by omega) (by omega) (by omega) h1 h2
  exact hl
theorem law_w {b L : Nat} {xs : Nat → Int32} {R : Option Value → qMM → Nat × Nat → Prop} {X : String → qMM → Nat × Nat → Prop} {x : Nat} (hE : ∀ (μ : qMM) (c s : Nat), c ≤ 600130 → s ≤ 7301079 → R (some (.int 1)) μ (c, s)) {I : Nat → Nat → Int32} {J : Nat → Nat → Int64} {ν : qMM} {m : Mod} (h1 : SoV 600 x m I J (fgt ν)) (i0 : I 0 = zI) (h2 : LwR (up2 (up2 I 0 (upd (upd (upd (upd (upd zI 4 4256) 7 3) 8 1) 9 2) 10 (-1))) 6 (filF (I 6) (-1) 64)) J m.s 0) : EX (SL_law b L xs R X) 60 [some (.ref b), some (.ref x), some (.ref (x + 1492)), some (.ref (x + 1492 + 1)), some (.ref (x + 1492 + 2)), some (.ref (x + 1492 + 3)), some (.ref (x + 1492 + 4)), some (.ref (x + 1492 + 5)), some (.ref (x + 1492 + 6)), some (.ref (x + 1492 + 7)), some (.ref (x + 1492 + 8)), none, none, none, none, none, none, none, none, none, none, none, none, none] [none, none, none, none, none, none, none, none, none, none, none, none, none, none, none, none, none, none, none, none, none, none, none, none] [] (lm ν (x + 1492) I J) (1501, 14829) := by
  obtain ⟨s0, s1, s2, s3, s4, s5, s6, s7, s8⟩ : LaS ν (x + 1492) := h1.2
  have c4 : (4 : Int32).toNatClampNeg = 4 := by decide
  have c7 : (7 : Int32).toNatClampNeg = 7 := by decide
  have c8 : (8 : Int32).toNatClampNeg = 8 := by decide
  have c9 : (9 : Int32).toNatClampNeg = 9 := by decide
  have c10 : (10 : Int32).toNatClampNeg = 10 := by decide
  have v4 : vp_in 4 21 := vpn (i := 4) (by decide) (by decide)
  have v7 : vp_in 7 21 := vpn (i := 7) (by decide) (by decide)
  have v8 : vp_in 8 21 := vpn (i := 8) (by decide) (by decide)
  have v9 : vp_in 9 21 := vpn (i := 9) (by decide) (by decide)
  have v10 : vp_in 10 21 := vpn (i := 10) (by decide) (by decide)
  simp only [eL_law_60, eL_law_61, eL_law_63, eL_law_64, eL_law_65, eL_law_68, eL_law_69, eL_law_70, eL_law_72, eL_law_73, eL_law_74, eL_law_75, eL_law_77, eL_law_78, eL_law_79, eL_law_80, eL_law_82, eL_law_83, eL_law_84, eL_law_85, eL_law_87, eL_law_88, eL_law_89, eL_law_90, qA_iA s0, c4, c7, c8, c9, c10, v4, v7, v8, v9, v10, mI_lm0, mI_lm, mJ_lm, wR_lm, wR_lm0, wL_lm, qArr_lm, l19, l29, l39, l49, l59, l69, l79, l89, wI_def, up2_at, up2_2, pk_us, j10, j20, j21, j30, j31, j32, j40, j41, j42, j43, j50, j51, j52, j53, j54, j60, j70, j71, j80, j01, j02, j03, j04, j05, j06, j07, j08, j12, j13, j14, j15, j23, j24, j25, j34, j35, j45, j56, j57, j58, j65, j67, j68, j75, j76, j78, j85, j86, j87, ite_false_, ite_true_, i0, one0, eq_self, or_true, true_or, not_true_eq_false, not_false_eq_true, true_imp_iff, false_imp_iff, true_and, and_true, Classical.not_not]
  rw [eL_law_92, fgt_lm2]
  generalize hI : up2 I 0 (upd (upd (upd (upd (upd zI 4 4256) 7 3) 8 1) 9 2) 10 (-1)) = I1 at h2 ⊢
  have h6 : I 6 = I1 6 := by
    rw [← hI]
    rfl
  have e0 : up2 I1 6 (filF (I1 6) (-1) 0) = I1 := by
    funext q
    unfold up2
    by_cases g : q = 6
    · subst g
      rw [if_pos rfl]
      funext z
      exact if_neg (by omega)
    · rw [if_neg g]
  have hf := law_fill (b := b) (L := L) (xs := xs) (R := R) (X := X) (x := x) (I := I1) (J := J) (f := I1 6) (c := 1501) (s := 14829) (ν := ν) s6 (law_mid hE (so_lm h1) (by rw [← h6]; exact h2)) 64 0 rfl
  rw [e0] at hf
  exact hf
theorem law_st {b L : Nat} {xs : Nat → Int32} {R : Option Value → qMM → Nat × Nat → Prop} {X : String → qMM → Nat × Nat → Prop} {x : Nat} (hE : ∀ (μ : qMM) (c s : Nat), c ≤ 600130 → s ≤ 7301079 → R (some (.int 1)) μ (c, s)) {μ1 μ : qMM} (t : Sta x 9 μ1 μ) (q3 : HsS μ1 x) (q4 : mI μ1 x = zI) (q5 : CsR μ1 (x + 1007) stI) (q6 : mI μ1 (x + 1488) = zI) (q7 : mI μ1 (x + 1489) = zI) : EX (SL_law b L xs R X) 60 [some (.ref b), some (.ref x), some (.ref (x + 1492)), some (.ref (x + 1492 + 1)), some (.ref (x + 1492 + 2)), some (.ref (x + 1492 + 3)), some (.ref (x + 1492 + 4)), some (.ref (x + 1492 + 5)), some (.ref (x + 1492 + 6)), some (.ref (x + 1492 + 7)), some (.ref (x + 1492 + 8)), none, none, none, none, none, none, none, none, none, none, none, none, none] [none, none, none, none, none, none, none, none, none, none, none, none, none, none, none, none, none, none, none, none, none, none, none, none] [] μ (1501, 14829) := by
  have hI : ∀ k, k < 9 → lI μ (x + 1492) k = zI := fun k hk => (t.2.2 k hk).2.1
  have hS : ∀ k, k < 9 → mS μ (x + 1492 + k) = some (.inr (rwT k)) := fun k hk => (t.2.2 k hk).1
  have a1 : Agr μ1 (fgt μ) x (x + 1492) := fun c a b => t.2.1 c b
  have la : LaS (fgt μ) (x + 1492) := ⟨hS 0 (by decide), hS 1 (by decide), hS 2 (by decide), hS 3 (by decide), hS 4 (by decide), hS 5 (by decide), hS 6 (by decide), hS 7 (by decide), hS 8 (by decide)⟩
  have e3 : (mod0).s = stI := rfl
  have hV : HsV 600 (fgt μ) x mod0 := by
    have hx : mI (fgt μ) x = zI := (a1 _ (by omega) (by omega)).2.trans q4
    refine ⟨⟨0, 0, by decide, ⟨?_, by decide, ?_, by decide⟩, ⟨?_, ?_, ?_⟩, fun i hi => absurd hi (by omega), fun i j _ hj => absurd hj (by omega)⟩, 0, by decide, ?_, ?_, ?_⟩
    · rw [hx]
      decide
    · rw [hx]
      decide
    · exact CsR_fr (fun c a b => a1 c (by omega) (by omega)) q5
    · intro p hp
      exact absurd hp (by rw [e3, show nOf stI = 0 by decide]; omega)
    · exact Iv_stI
    · rw [(a1 (x + 1488) (by omega) (by omega)).2, q6]
      decide
    · decide
    · rw [(a1 (x + 1489) (by omega) (by omega)).2, q7]
      rfl
  have so : SoV 600 x mod0 (lI μ (x + 1492)) (lJ μ (x + 1492)) (fgt μ) := by
    unfold SoV
    rw [show lm (fgt μ) (x + 1492) (lI μ (x + 1492)) (lJ μ (x + 1492)) = fgt μ from lm_eq (fun k hk => rfl) (fun k hk => rfl)]
    exact ⟨⟨HsS_fr a1 q3, rfl, by decide, hV⟩, la⟩
  have hh := law_w (b := b) (L := L) (xs := xs) (R := R) (X := X) (x := x) hE so (hI 0 (by decide)) (st_ok ?_ ?_ ?_ ?_)
  · rw [lm_self] at hh
    exact hh
  · rfl
  · exact hI 4 (by decide)
  · exact hI 5 (by decide)
  · intro j hj
    exact if_pos hj
theorem law_start {b L : Nat} {xs : Nat → Int32} {R : Option Value → qMM → Nat × Nat → Prop} {X : String → qMM → Nat × Nat → Prop} {x : Nat} (hE : ∀ (μ : qMM) (c s : Nat), c ≤ 600130 → s ≤ 7301079 → R (some (.int 1)) μ (c, s)) : EX (SL_law b L xs R X) 0 [some (.ref b), none, none, none, none, none, none, none, none, none, none, none, none, none, none, none, none, none, none, none, none, none, none, none] [none, none, none, none, none, none, none, none, none, none, none, none, none, none, none, none, none, none, none, none, none, none, none, none] [] (mu0 x) (0, 0) := by
  have hN : mN (mu0 x) = some x := rfl
  simp [eL_law_0, eL_law_3r, hN, qNwO, nL, nlt, nle, Nat.add_assoc, qNwA, qNwM, qPut, qOkR, qOk, mS_mk1, mS_wT, mS_wI, mS_wR, mS_mkM, mN_mk1, mN_wT, mN_wI, mN_wR, mN_mkM, rtv_at, (show ¬ (4 : Int32) < 0 by decide), (show (4 : Int32).toNatClampNeg = 4 by decide), (show ¬ (6 : Int32) < 0 by decide), (show (6 : Int32).toNatClampNeg = 6 by decide), (show ¬ (20 : Int32) < 0 by decide), (show (20 : Int32).toNatClampNeg = 20 by decide), (show ¬ (50 : Int32) < 0 by decide), (show (50 : Int32).toNatClampNeg = 50 by decide), (show ¬ (64 : Int32) < 0 by decide), (show (64 : Int32).toNatClampNeg = 64 by decide), (show ¬ (100 : Int32) < 0 by decide), (show (100 : Int32).toNatClampNeg = 100 by decide), (show ¬ (500 : Int32) < 0 by decide), (show (500 : Int32).toNatClampNeg = 500 by decide), (show ¬ (5514 : Int32) < 0 by decide), (show (5514 : Int32).toNatClampNeg = 5514 by decide), (show ¬ (22056 : Int32) < 0 by decide), (show (22056 : Int32).toNatClampNeg = 22056 by decide), -Prod.forall]
  simp [eL_law_4, PX8_init, NwP, nlt, nle, Nat.add_assoc, qNwA, qNwM, qPut, qOkR, qOk, mS_mk1, mS_wT, mS_wI, mS_wR, mS_mkM, mN_mk1, mN_wT, mN_wI, mN_wR, mN_mkM, rtv_at, (show ¬ (4 : Int32) < 0 by decide), (show (4 : Int32).toNatClampNeg = 4 by decide), (show ¬ (6 : Int32) < 0 by decide), (show (6 : Int32).toNatClampNeg = 6 by decide), (show ¬ (20 : Int32) < 0 by decide), (show (20 : Int32).toNatClampNeg = 20 by decide), (show ¬ (50 : Int32) < 0 by decide), (show (50 : Int32).toNatClampNeg = 50 by decide), (show ¬ (64 : Int32) < 0 by decide), (show (64 : Int32).toNatClampNeg = 64 by decide), (show ¬ (100 : Int32) < 0 by decide), (show (100 : Int32).toNatClampNeg = 100 by decide), (show ¬ (500 : Int32) < 0 by decide), (show (500 : Int32).toNatClampNeg = 500 by decide), (show ¬ (5514 : Int32) < 0 by decide), (show (5514 : Int32).toNatClampNeg = 5514 by decide), (show ¬ (22056 : Int32) < 0 by decide), (show (22056 : Int32).toNatClampNeg = 22056 by decide), -Prod.forall]
  refine ⟨?_, fun μ1 q => ?_⟩
  · simp [nlt, nle, Nat.add_assoc, wI_def, mS_wR, mS_wT, mS_mk1, mS_mkM, mI_wR, mI_wT, mI_mk1, mI_mkM, mJ_wR, mJ_wT, mJ_mk1, mJ_mkM, mN_wR, mN_wT, mN_mk1, mN_mkM, mu0]
  obtain ⟨⟨q1, q2⟩, q3, q4, q5, q6, q7⟩ := q
  clear q2
  simp [Nat.add_assoc] at q1
  have t0 : Sta x 0 μ1 μ1 := ⟨q1, fun b hb => ⟨rfl, rfl⟩, fun i hi => absurd hi (by omega)⟩
  rw [eL_law_7]
  simp only [eL_law_8, eL_law_10]
  rw [qNwA_at (n := x + 1492 + 0) (N := 21) t0.1 (by decide) (by decide) (by decide)]
  refine ⟨by decide, by decide, ?_⟩
  rw [eL_law_12]
  have t1 := Sta_mk t0
  rw [show rwT 0 = (0, 21, fun _ => none) from rfl] at t1
  generalize mk1 μ1 (x + 1492 + 0) (.inr (0, 21, fun _ => none)) = ν1 at t1 ⊢
  simp only [eL_law_13, eL_law_15]
  rw [qNwA_at (n := x + 1492 + 1) (N := 64) t1.1 (by decide) (by decide) (by decide)]
  refine ⟨by decide, by decide, ?_⟩
  rw [eL_law_17]
  have t2 := Sta_mk t1
  rw [show rwT 1 = (1, 64, fun _ => none) from rfl] at t2
  generalize mk1 ν1 (x + 1492 + 1) (.inr (1, 64, fun _ => none)) = ν2 at t2 ⊢
  simp only [eL_law_18, eL_law_20]
  rw [qNwA_at (n := x + 1492 + 2) (N := 64) t2.1 (by decide) (by decide) (by decide)]
  refine ⟨by decide, by decide, ?_⟩
  rw [eL_law_22]
  have t3 := Sta_mk t2
  rw [show rwT 2 = (0, 64, fun _ => none) from rfl] at t3
  generalize mk1 ν2 (x + 1492 + 2) (.inr (0, 64, fun _ => none)) = ν3 at t3 ⊢
  simp only [eL_law_24, eL_law_26]
  rw [qNwA_at (n := x + 1492 + 3) (N := 64) t3.1 (by decide) (by decide) (by decide)]
  refine ⟨by decide, by decide, ?_⟩
  rw [eL_law_28]
  have t4 := Sta_mk t3
  rw [show rwT 3 = (0, 64, fun _ => none) from rfl] at t4
  generalize mk1 ν3 (x + 1492 + 3) (.inr (0, 64, fun _ => none)) = ν4 at t4 ⊢
  simp only [eL_law_30, eL_law_32]
  rw [qNwA_at (n := x + 1492 + 4) (N := 22) t4.1 (by decide) (by decide) (by decide)]
  refine ⟨by decide, by decide, ?_⟩
  rw [eL_law_34]
  have t5 := Sta_mk t4
  rw [show rwT 4 = (0, 22, fun _ => none) from rfl] at t5
  generalize mk1 ν4 (x + 1492 + 4) (.inr (0, 22, fun _ => none)) = ν5 at t5 ⊢
  simp only [eL_law_36, eL_law_38]
  rw [qNwA_at (n := x + 1492 + 5) (N := 22) t5.1 (by decide) (by decide) (by decide)]
  refine ⟨by decide, by decide, ?_⟩
  rw [eL_law_40]
  have t6 := Sta_mk t5
  rw [show rwT 5 = (0, 22, fun _ => none) from rfl] at t6
  generalize mk1 ν5 (x + 1492 + 5) (.inr (0, 22, fun _ => none)) = ν6 at t6 ⊢
  simp only [eL_law_42, eL_law_44]
  rw [qNwA_at (n := x + 1492 + 6) (N := 64) t6.1 (by decide) (by decide) (by decide)]
  refine ⟨by decide, by decide, ?_⟩
  rw [eL_law_46]
  have t7 := Sta_mk t6
  rw [show rwT 6 = (0, 64, fun _ => none) from rfl] at t7
  generalize mk1 ν6 (x + 1492 + 6) (.inr (0, 64, fun _ => none)) = ν7 at t7 ⊢
  simp only [eL_law_48, eL_law_50]
  rw [qNwA_at (n := x + 1492 + 7) (N := 64) t7.1 (by decide) (by decide) (by decide)]
  refine ⟨by decide, by decide, ?_⟩
  rw [eL_law_52]
  have t8 := Sta_mk t7
  rw [show rwT 7 = (1, 64, fun _ => none) from rfl] at t8
  generalize mk1 ν7 (x + 1492 + 7) (.inr (1, 64, fun _ => none)) = ν8 at t8 ⊢
  simp only [eL_law_54, eL_law_56]
  rw [qNwA_at (n := x + 1492 + 8) (N := 64) t8.1 (by decide) (by decide) (by decide)]
  refine ⟨by decide, by decide, ?_⟩
  rw [eL_law_58]
  have t9 := Sta_mk t8
  rw [show rwT 8 = (0, 64, fun _ => none) from rfl] at t9
  generalize mk1 ν8 (x + 1492 + 8) (.inr (0, 64, fun _ => none)) = ν9 at t9 ⊢
  exact law_st hE t9 q3 q4 q5 q6 q7
