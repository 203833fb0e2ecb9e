/-! ===== the law's loop, and its beginning ===== -/
theorem and31 (v : Int32) : ∃ j : Nat, j < 32 ∧ v &&& 31 = nI j := by
  refine ⟨(v &&& 31).toBitVec.toNat, ?_, ?_⟩
  · rw [Int32.toBitVec_and, BitVec.toNat_and]
    exact Nat.lt_of_le_of_lt Nat.and_le_right (by decide)
  · apply Int32.toBitVec_inj.mp
    unfold nI
    simp
theorem tl4 : ∀ L, L < 2049 → (nI L - 4).toInt = (L : Int) - 4 := by decide +kernel
theorem lt4 {L i : Nat} (hL : L ≤ 2048) (hi : 4 * i ≤ 2048) : nI L - 4 < nI (4 * i) ↔ L < 4 * i + 4 := by
  rw [Int32.lt_iff_toInt_lt, tl4 L (by omega), nI_toInt (by omega)]
  omega
theorem fgt_id {μ : qMM} (h : mN μ = none) : fgt μ = μ := by
  obtain ⟨⟨n, f⟩, g⟩ := μ
  have : n = none := h
  subst this
  rfl
theorem qAln_s {n : Nat} {xs : Nat → Int32} {μ : qMM} {a : Nat} {k : Int32 → Prop} : qAln (some (n, xs)) μ a k = k (nI n) := rfl
theorem ix4 {i : Nat} : nI (4 * i) + 4 = nI (4 * (i + 1)) := by
  rw [show (4 : Int32) = nI 4 by decide, nI_add]
  rfl
theorem law_sw {sc : Nat → Option (Nat × (Nat → Int32))} {R : Option Value → qMM → Nat × Nat → Prop} {X : String → qMM → Nat × Nat → Prop} {b L x i H c s : Nat} {xs : Nat → Int32} {m : Mod} {μ : qMM} {a5 a6 a7 a8 b0 b1 b2 b3 b4 b5 b6 b7 b8 : Option Value} (hsc : sc b = some (L, xs)) (hi : 4 * i + 4 ≤ L) (hL : L ≤ 2048) (hH : H + 4000 < 2 ^ 30) (hI : InvL H μ x m) (hc : c + 1 ≤ 601024) (hs : s + 6 ≤ 7293034) (hk : LcK sc R X b x i H c s) : EX (SL_law sc R X) 32 [some (.ref b), some (.ref x), some (.ref (x + 1492)), some (.ref (x + 1498)), some (.int (nI (4 * i))), a5, a6, a7, a8] [b0, b1, b2, b3, b4, b5, b6, b7, b8] [] μ (c, s) := by
  have v0 : vp_in (nI (4 * i)) L := vp_in_nI (by omega) (by omega)
  have w0 : (nI (4 * i)).toNatClampNeg = 4 * i := nI_clamp (by omega)
  simp only [eL_law_32, eL_law_33, eL_law_35, eL_law_36, eL_law_38, eL_law_39, hsc, qIld_s, v0, w0, true_and]
  obtain ⟨j, hj, he⟩ := and31 (xs (4 * i))
  rcases (by omega : j = 0 ∨ j = 1 ∨ j = 2 ∨ j = 3 ∨ j = 4 ∨ j = 5 ∨ j = 6 ∨ j = 7 ∨ j = 8 ∨ j = 9 ∨ j = 10 ∨ j = 11 ∨ j = 12 ∨ j = 13 ∨ j = 14 ∨ j = 15 ∨ j = 16 ∨ j = 17 ∨ j = 18 ∨ j = 19 ∨ j = 20 ∨ j = 21 ∨ j = 22 ∨ j = 23 ∨ j = 24 ∨ j = 25 ∨ j = 26 ∨ j = 27 ∨ j = 28 ∨ j = 29 ∨ j = 30 ∨ j = 31) with rfl | rfl | rfl | rfl | rfl | rfl | rfl | rfl | rfl | rfl | rfl | rfl | rfl | rfl | rfl | rfl | rfl | rfl | rfl | rfl | rfl | rfl | rfl | rfl | rfl | rfl | rfl | rfl | rfl | rfl | rfl | rfl
  · have e : xs (4 * i) &&& 31 = 0 := he.trans (by decide)
    simp only [e, sw_0, qGo]
    exact lc_0 hsc hi hL (by omega) hI (by omega) (by omega) hk
  · have e : xs (4 * i) &&& 31 = 1 := he.trans (by decide)
    simp only [e, sw_1, qGo]
    exact lc_1 hsc hi hL (by omega) hI (by omega) (by omega) hk
  · have e : xs (4 * i) &&& 31 = 2 := he.trans (by decide)
    simp only [e, sw_2, qGo]
    exact lc_2 hsc hi hL (by omega) hI (by omega) (by omega) hk
  · have e : xs (4 * i) &&& 31 = 3 := he.trans (by decide)
    simp only [e, sw_3, qGo]
    exact lc_3 hsc hi hL (by omega) hI (by omega) (by omega) hk
  · have e : xs (4 * i) &&& 31 = 4 := he.trans (by decide)
    simp only [e, sw_4, qGo]
    exact lc_4 hsc hi hL (by omega) hI (by omega) (by omega) hk
  · have e : xs (4 * i) &&& 31 = 5 := he.trans (by decide)
    simp only [e, sw_5, qGo]
    exact lc_5 hsc hi hL (by omega) hI (by omega) (by omega) hk
  · have e : xs (4 * i) &&& 31 = 6 := he.trans (by decide)
    simp only [e, sw_6, qGo]
    exact lc_6 hsc hi hL (by omega) hI (by omega) (by omega) hk
  · have e : xs (4 * i) &&& 31 = 7 := he.trans (by decide)
    simp only [e, sw_7, qGo]
    exact lc_7 hsc hi hL (by omega) hI (by omega) (by omega) hk
  · have e : xs (4 * i) &&& 31 = 8 := he.trans (by decide)
    simp only [e, sw_8, qGo]
    exact lc_8 hsc hi hL (by omega) hI (by omega) (by omega) hk
  · have e : xs (4 * i) &&& 31 = 9 := he.trans (by decide)
    simp only [e, sw_9, qGo]
    exact lc_9 hsc hi hL (by omega) hI (by omega) (by omega) hk
  · have e : xs (4 * i) &&& 31 = 10 := he.trans (by decide)
    simp only [e, sw_10, qGo]
    exact lc_10 hsc hi hL (by omega) hI (by omega) (by omega) hk
  · have e : xs (4 * i) &&& 31 = 11 := he.trans (by decide)
    simp only [e, sw_11, qGo]
    exact lc_11 hsc hi hL (by omega) hI (by omega) (by omega) hk
  · have e : xs (4 * i) &&& 31 = 12 := he.trans (by decide)
    simp only [e, sw_12, qGo]
    exact lc_12 hsc hi hL (by omega) hI (by omega) (by omega) hk
  · have e : xs (4 * i) &&& 31 = 13 := he.trans (by decide)
    simp only [e, sw_13, qGo]
    exact lc_13 hsc hi hL (by omega) hI (by omega) (by omega) hk
  · have e : xs (4 * i) &&& 31 = 14 := he.trans (by decide)
    simp only [e, sw_14, qGo]
    exact lc_14 hsc hi hL (by omega) hI (by omega) (by omega) hk
  · have e : xs (4 * i) &&& 31 = 15 := he.trans (by decide)
    simp only [e, sw_15, qGo]
    exact lc_15 hsc hi hL (by omega) hI (by omega) (by omega) hk
  · have e : xs (4 * i) &&& 31 = 16 := he.trans (by decide)
    simp only [e, sw_16, qGo]
    exact lc_16 hsc hi hL (by omega) hI (by omega) (by omega) hk
  · have e : xs (4 * i) &&& 31 = 17 := he.trans (by decide)
    simp only [e, sw_17, qGo]
    exact lc_17 hsc hi hL (by omega) hI (by omega) (by omega) hk
  · have e : xs (4 * i) &&& 31 = 18 := he.trans (by decide)
    simp only [e, sw_18, qGo]
    exact lc_18 hsc hi hL (by omega) hI (by omega) (by omega) hk
  · have e : xs (4 * i) &&& 31 = 19 := he.trans (by decide)
    simp only [e, sw_19, qGo]
    exact lc_19 hsc hi hL (by omega) hI (by omega) (by omega) hk
  · have e : xs (4 * i) &&& 31 = 20 := he.trans (by decide)
    simp only [e, sw_20, qGo]
    exact lc_20 hsc hi hL (by omega) hI (by omega) (by omega) hk
  · have e : xs (4 * i) &&& 31 = 21 := he.trans (by decide)
    simp only [e, sw_21, qGo]
    exact lc_21 hsc hi hL (by omega) hI (by omega) (by omega) hk
  · have e : xs (4 * i) &&& 31 = 22 := he.trans (by decide)
    simp only [e, sw_22, qGo]
    exact lc_22 hsc hi hL (by omega) hI (by omega) (by omega) hk
  · have e : xs (4 * i) &&& 31 = 23 := he.trans (by decide)
    simp only [e, sw_23, qGo]
    exact lc_23 hsc hi hL (by omega) hI (by omega) (by omega) hk
  · have e : xs (4 * i) &&& 31 = 24 := he.trans (by decide)
    simp only [e, sw_24, qGo]
    exact lc_24 hsc hi hL (by omega) hI (by omega) (by omega) hk
  · have e : xs (4 * i) &&& 31 = 25 := he.trans (by decide)
    simp only [e, sw_25, qGo]
    exact lc_25 hsc hi hL (by omega) hI (by omega) (by omega) hk
  · have e : xs (4 * i) &&& 31 = 26 := he.trans (by decide)
    simp only [e, sw_26, qGo]
    exact lc_26 hsc hi hL (by omega) hI (by omega) (by omega) hk
  · have e : xs (4 * i) &&& 31 = 27 := he.trans (by decide)
    simp only [e, sw_27, qGo]
    exact lc_27 hsc hi hL (by omega) hI (by omega) (by omega) hk
  · have e : xs (4 * i) &&& 31 = 28 := he.trans (by decide)
    simp only [e, sw_28, qGo]
    exact lc_28 hsc hi hL (by omega) hI (by omega) (by omega) hk
  · have e : xs (4 * i) &&& 31 = 29 := he.trans (by decide)
    simp only [e, sw_29, qGo]
    exact lc_29 hsc hi hL (by omega) hI (by omega) (by omega) hk
  · have e : xs (4 * i) &&& 31 = 30 := he.trans (by decide)
    simp only [e, sw_30, qGo]
    exact lc_30 hsc hi hL (by omega) hI (by omega) (by omega) hk
  · have e : xs (4 * i) &&& 31 = 31 := he.trans (by decide)
    simp only [e, sw_31, qGo]
    exact lc_31 hsc hi hL (by omega) hI (by omega) (by omega) hk
theorem law_loop {sc : Nat → Option (Nat × (Nat → Int32))} {R : Option Value → qMM → Nat × Nat → Prop} {X : String → qMM → Nat × Nat → Prop} {b L x : Nat} {xs : Nat → Int32} (hsc : sc b = some (L, xs)) (hL : L ≤ 2048) (hE : ∀ (μ : qMM) (c s : Nat), c ≤ 601024 → s ≤ 7293034 → R (some (.int 1)) μ (c, s)) : ∀ (k i H c s : Nat) (m : Mod) (μ : qMM) (a5 a6 a7 a8 b0 b1 b2 b3 b4 b5 b6 b7 b8 : Option Value), i + k = L / 4 → H + 2000 * k + 4000 < 2 ^ 30 → c + k ≤ 601024 → s + 6 * k ≤ 7293034 → InvL H (fgt μ) x m → EX (SL_law sc R X) 23 [some (.ref b), some (.ref x), some (.ref (x + 1492)), some (.ref (x + 1498)), some (.int (nI (4 * i))), a5, a6, a7, a8] [b0, b1, b2, b3, b4, b5, b6, b7, b8] [] μ (c, s) := by
  intro k
  induction k with
  | zero =>
    intro i H c s m μ a5 a6 a7 a8 b0 b1 b2 b3 b4 b5 b6 b7 b8 hi hH hc hs hI
    rw [eL_law_23]
    simp only [eL_law_25, eL_law_26, eL_law_27, eL_law_28, eL_law_29, eL_law_1619, eL_law_1620, hsc, qAln_s]
    refine ⟨fun _ => ⟨Or.inr rfl, hE _ _ _ (by omega) (by omega)⟩, fun h => absurd ((lt4 hL (by omega)).mpr (by omega)) h⟩
  | succ k ih =>
    intro i H c s m μ a5 a6 a7 a8 b0 b1 b2 b3 b4 b5 b6 b7 b8 hi hH hc hs hI
    rw [eL_law_23]
    simp only [eL_law_25, eL_law_26, eL_law_27, eL_law_28, eL_law_29, hsc, qAln_s]
    refine ⟨fun h => absurd ((lt4 hL (by omega)).mp h) (by omega), fun _ => ?_⟩
    refine law_sw hsc (by omega) hL (by omega) hI (by omega) (by omega) ?_
    intro a5 a6 a7 a8 b0 b1 b2 b3 b4 b5 b6 b7 b8 μ' m' c' s' hI' hc' hs'
    simp only [eL_law_1613, eL_law_1616, ix4]
    exact ih (i + 1) (H + 2000) c' s' m' μ' _ _ _ _ _ _ _ _ _ _ _ _ _ (by omega) (by omega) (by omega) (by omega) (by rw [fgt_id hI'.1.2.1]; exact hI')
theorem HsS_fr {μ μ' : qMM} {x : Nat} (h : Agr μ μ' x (x + 1492)) (g : HsS μ x) : HsS μ' x := by
  obtain ⟨g1, g2, g3, g4, g5, g6⟩ := g
  refine ⟨?_, LgS_fr (fun c a b => h c (by omega) (by omega)) g2, StS_fr (fun c a b => h c (by omega) (by omega)) g3, ?_, fun i hi => StS_fr (fun c a b => h c (by omega) (by omega)) (g5 i hi), ?_⟩
  · unfold obX8 at g1 ⊢
    rw [(h x (by omega) (by omega)).1, g1]
  · unfold PlA at g4 ⊢
    rw [(h _ (by omega) (by omega)).1, g4]
  · have k : Agr μ μ' (x + 1488) (x + 1492) := fun c a b => h c (by omega) (by omega)
    refine ⟨?_, iA_fr (k _ (by omega) (by omega)).1 g6.2.1, iA_fr (k _ (by omega) (by omega)).1 g6.2.2.1, iA_fr (k _ (by omega) (by omega)).1 g6.2.2.2⟩
    have := g6.1
    unfold obX4 at this ⊢
    rw [(k _ (by omega) (by omega)).1, this]
theorem Iv_stI : Iv 600 stI := ⟨by decide, ⟨0, by decide, by decide, fun p hp => absurd hp (by omega), 0, by decide, by decide, fun i hi => absurd hi (by omega)⟩, ⟨0, by decide, by decide, fun i hi => absurd hi (by omega)⟩, Or.inl ⟨by decide, fun k hk => stI_k hk⟩, ⟨3, by decide, by decide⟩, ⟨1, by decide, by decide, by decide⟩, Or.inl (by decide), Or.inl (by decide), by decide, by decide⟩
def mu0 (n : Nat) : qMM := ((some n, fun _ => none), (fun _ _ => 0, fun _ _ => 0))
theorem law_start {sc : Nat → Option (Nat × (Nat → Int32))} {R : Option Value → qMM → Nat × Nat → Prop} {X : String → qMM → Nat × Nat → Prop} {b L x : Nat} {xs : Nat → Int32} (hsc : sc b = some (L, xs)) (hL : L ≤ 2048) (hE : ∀ (μ : qMM) (c s : Nat), c ≤ 601024 → s ≤ 7293034 → R (some (.int 1)) μ (c, s)) : EX (SL_law sc R X) 0 [some (.ref b), none, none, none, none, none, none, none, none] [none, none, none, none, none, none, none, none, none] [] (mu0 x) (0, 0) := by
  have hN : mN (mu0 x) = some x := rfl
  simp [eL_law_0, eL_law_3r, hN, qNwO, nLw, nlt, nle, Nat.add_assoc, qNwA, qNwM, qPut, qOkR, qOk, mS_mk1, mS_wT, mS_wI, mS_wR, mS_mkM, mN_mk1, mN_wT, mN_wI, mN_wR, mN_mkM, rtv_at, (show ¬ (4 : Int32) < 0 by decide), (show (4 : Int32).toNatClampNeg = 4 by decide), (show ¬ (6 : Int32) < 0 by decide), (show (6 : Int32).toNatClampNeg = 6 by decide), (show ¬ (20 : Int32) < 0 by decide), (show (20 : Int32).toNatClampNeg = 20 by decide), (show ¬ (50 : Int32) < 0 by decide), (show (50 : Int32).toNatClampNeg = 50 by decide), (show ¬ (64 : Int32) < 0 by decide), (show (64 : Int32).toNatClampNeg = 64 by decide), (show ¬ (100 : Int32) < 0 by decide), (show (100 : Int32).toNatClampNeg = 100 by decide), (show ¬ (500 : Int32) < 0 by decide), (show (500 : Int32).toNatClampNeg = 500 by decide), (show ¬ (5514 : Int32) < 0 by decide), (show (5514 : Int32).toNatClampNeg = 5514 by decide), (show ¬ (22056 : Int32) < 0 by decide), (show (22056 : Int32).toNatClampNeg = 22056 by decide), -Prod.forall]
  simp [eL_law_4, PX8_init, NwP, nlt, nle, Nat.add_assoc, qNwA, qNwM, qPut, qOkR, qOk, mS_mk1, mS_wT, mS_wI, mS_wR, mS_mkM, mN_mk1, mN_wT, mN_wI, mN_wR, mN_mkM, rtv_at, (show ¬ (4 : Int32) < 0 by decide), (show (4 : Int32).toNatClampNeg = 4 by decide), (show ¬ (6 : Int32) < 0 by decide), (show (6 : Int32).toNatClampNeg = 6 by decide), (show ¬ (20 : Int32) < 0 by decide), (show (20 : Int32).toNatClampNeg = 20 by decide), (show ¬ (50 : Int32) < 0 by decide), (show (50 : Int32).toNatClampNeg = 50 by decide), (show ¬ (64 : Int32) < 0 by decide), (show (64 : Int32).toNatClampNeg = 64 by decide), (show ¬ (100 : Int32) < 0 by decide), (show (100 : Int32).toNatClampNeg = 100 by decide), (show ¬ (500 : Int32) < 0 by decide), (show (500 : Int32).toNatClampNeg = 500 by decide), (show ¬ (5514 : Int32) < 0 by decide), (show (5514 : Int32).toNatClampNeg = 5514 by decide), (show ¬ (22056 : Int32) < 0 by decide), (show (22056 : Int32).toNatClampNeg = 22056 by decide), -Prod.forall]
  refine ⟨?_, fun μ1 q => ?_⟩
  · simp [nlt, nle, Nat.add_assoc, wI_def, mS_wR, mS_wT, mS_mk1, mS_mkM, mI_wR, mI_wT, mI_mk1, mI_mkM, mJ_wR, mJ_wT, mJ_mk1, mJ_mkM, mN_wR, mN_wT, mN_mk1, mN_mkM, mu0]
  obtain ⟨⟨q1, q2⟩, q3, q4, q5, q6, q7⟩ := q
  clear q2
  simp [Nat.add_assoc] at q1
  simp [eL_law_7, eL_law_8, eL_law_11r, q1, qNwO, nLw, nlt, nle, Nat.add_assoc, qNwA, qNwM, qPut, qOkR, qOk, mS_mk1, mS_wT, mS_wI, mS_wR, mS_mkM, mN_mk1, mN_wT, mN_wI, mN_wR, mN_mkM, rtv_at, (show ¬ (4 : Int32) < 0 by decide), (show (4 : Int32).toNatClampNeg = 4 by decide), (show ¬ (6 : Int32) < 0 by decide), (show (6 : Int32).toNatClampNeg = 6 by decide), (show ¬ (20 : Int32) < 0 by decide), (show (20 : Int32).toNatClampNeg = 20 by decide), (show ¬ (50 : Int32) < 0 by decide), (show (50 : Int32).toNatClampNeg = 50 by decide), (show ¬ (64 : Int32) < 0 by decide), (show (64 : Int32).toNatClampNeg = 64 by decide), (show ¬ (100 : Int32) < 0 by decide), (show (100 : Int32).toNatClampNeg = 100 by decide), (show ¬ (500 : Int32) < 0 by decide), (show (500 : Int32).toNatClampNeg = 500 by decide), (show ¬ (5514 : Int32) < 0 by decide), (show (5514 : Int32).toNatClampNeg = 5514 by decide), (show ¬ (22056 : Int32) < 0 by decide), (show (22056 : Int32).toNatClampNeg = 22056 by decide), -Prod.forall]
  simp [eL_law_12, PX9_init, NwP, nlt, nle, Nat.add_assoc, qNwA, qNwM, qPut, qOkR, qOk, mS_mk1, mS_wT, mS_wI, mS_wR, mS_mkM, mN_mk1, mN_wT, mN_wI, mN_wR, mN_mkM, rtv_at, (show ¬ (4 : Int32) < 0 by decide), (show (4 : Int32).toNatClampNeg = 4 by decide), (show ¬ (6 : Int32) < 0 by decide), (show (6 : Int32).toNatClampNeg = 6 by decide), (show ¬ (20 : Int32) < 0 by decide), (show (20 : Int32).toNatClampNeg = 20 by decide), (show ¬ (50 : Int32) < 0 by decide), (show (50 : Int32).toNatClampNeg = 50 by decide), (show ¬ (64 : Int32) < 0 by decide), (show (64 : Int32).toNatClampNeg = 64 by decide), (show ¬ (100 : Int32) < 0 by decide), (show (100 : Int32).toNatClampNeg = 100 by decide), (show ¬ (500 : Int32) < 0 by decide), (show (500 : Int32).toNatClampNeg = 500 by decide), (show ¬ (5514 : Int32) < 0 by decide), (show (5514 : Int32).toNatClampNeg = 5514 by decide), (show ¬ (22056 : Int32) < 0 by decide), (show (22056 : Int32).toNatClampNeg = 22056 by decide), -Prod.forall]
  refine ⟨?_, fun μ2 q => ?_⟩
  · simp [nlt, nle, Nat.add_assoc, wI_def, mS_wR, mS_wT, mS_mk1, mS_mkM, mI_wR, mI_wT, mI_mk1, mI_mkM, mJ_wR, mJ_wT, mJ_mk1, mJ_mkM, mN_wR, mN_wT, mN_mk1, mN_mkM]
  obtain ⟨⟨p1, p2⟩, p3, p4, p5, p6⟩ := q
  have fr : ∀ b, b < x + 1492 → mS μ2 b = mS μ1 b ∧ mI μ2 b = mI μ1 b ∧ mJ μ2 b = mJ μ1 b := fun b hb => by
    have b2 : b ≠ x + 1492 := by omega
    have := p2 b hb
    simpa [nlt, nle, Nat.add_assoc, wI_def, mS_wR, mS_wT, mS_mk1, mS_mkM, mI_wR, mI_wT, mI_mk1, mI_mkM, mJ_wR, mJ_wT, mJ_mk1, mJ_mkM, mN_wR, mN_wT, mN_mk1, mN_mkM, b2] using this
  clear p2
  simp [Nat.add_assoc] at p1 p5 p6
  simp only [eL_law_15, eL_law_16, eL_law_17, qNwA_at (n := x + 1498) (N := 1) (x := 1) p1 (by decide) (by decide) (by decide)]
  refine ⟨by decide, by decide, ?_⟩
  simp only [eL_law_19, eL_law_20, eL_law_21]
  have ag : Agr μ2 (mk1 μ2 (x + 1498) (.inr (1, 1, fun _ => none))) 0 (x + 1498) := fun c a b => by
    have b2 : c ≠ x + 1498 := by omega
    simp [nlt, nle, Nat.add_assoc, wI_def, mS_wR, mS_wT, mS_mk1, mS_mkM, mI_wR, mI_wT, mI_mk1, mI_mkM, mJ_wR, mJ_wT, mJ_mk1, mJ_mkM, mN_wR, mN_wT, mN_mk1, mN_mkM, b2]
  have hLa : mS (mk1 μ2 (x + 1498) (.inr (1, 1, fun _ => none))) (x + 1498) = some (.inr (1, 1, fun _ => none)) := by
    simp [nlt, nle, Nat.add_assoc, wI_def, mS_wR, mS_wT, mS_mk1, mS_mkM, mI_wR, mI_wT, mI_mk1, mI_mkM, mJ_wR, mJ_wT, mJ_mk1, mJ_mkM, mN_wR, mN_wT, mN_mk1, mN_mkM]
  generalize mk1 μ2 (x + 1498) (.inr (1, 1, fun _ => none)) = μ3 at ag hLa ⊢
  have a1 : Agr μ1 (fgt μ3) x (x + 1492) := fun c a b => ⟨(ag c (by omega) (by omega)).1.trans (fr c (by omega)).1, (ag c (by omega) (by omega)).2.trans (fr c (by omega)).2.1⟩
  have a2 : Agr μ2 (fgt μ3) (x + 1492) (x + 1498) := fun c a b => ⟨(ag c (by omega) (by omega)).1, (ag c (by omega) (by omega)).2⟩
  have hf : mI (fgt μ3) (x + 1492) = zI := (a2 _ (by omega) (by omega)).2.trans p4
  have hs : mI (fgt μ3) (x + 1492 + 1) = stI := (a2 _ (by omega) (by omega)).2.trans p5
  have ht : mI (fgt μ3) (x + 1492 + 4) = zI := (a2 _ (by omega) (by omega)).2.trans p6
  have hM : MoS (fgt μ3) (x + 1492) := by
    obtain ⟨m1, m2, m3, m4, m5, m6⟩ := p3
    refine ⟨?_, iA_fr (a2 _ (by omega) (by omega)).1 m2, iA_fr (a2 _ (by omega) (by omega)).1 m3, iA_fr (a2 _ (by omega) (by omega)).1 m4, iA_fr (a2 _ (by omega) (by omega)).1 m5, iA_fr (a2 _ (by omega) (by omega)).1 m6⟩
    unfold obX9 at m1 ⊢
    rw [(a2 _ (by omega) (by omega)).1, m1]
  have hV : HsV 600 (fgt μ3) x (rd (fgt μ3) (x + 1492)) := by
    have hx : mI (fgt μ3) x = zI := (a1 _ (by omega) (by omega)).2.trans q4
    have es : (rd (fgt μ3) (x + 1492)).s = stI := hs
    have ef : (rd (fgt μ3) (x + 1492)).f = zI := hf
    have et : (rd (fgt μ3) (x + 1492)).t = zI := ht
    refine ⟨⟨0, 0, by rw [ef]; decide, ⟨?_, by decide, ?_, by decide⟩, ⟨?_, ?_, ?_⟩, fun i hi => absurd hi (by omega), fun i j _ hj => absurd hj (by omega)⟩, 0, by decide, ?_, ?_, ?_⟩
    · rw [hx]
      decide
    · rw [hx]
      decide
    · rw [es]
      exact CsR_fr (fun c a b => a1 c (by omega) (by omega)) q5
    · rw [es]
      intro p hp
      exact absurd hp (by rw [show nOf stI = 0 by decide]; omega)
    · rw [es]
      exact Iv_stI
    · rw [(a1 (x + 1488) (by omega) (by omega)).2, q6]
      decide
    · rw [ef]
      decide
    · rw [(a1 (x + 1489) (by omega) (by omega)).2, q7, et]
  have h := law_loop (R := R) (X := X) (x := x) hsc hL hE (L / 4) 0 600 1499 47584 (rd (fgt μ3) (x + 1492)) μ3 none none none none none none none none none none none none none (by omega) (by omega) (by omega) (by omega) ⟨⟨HsS_fr a1 q3, rfl, by decide, hV⟩, hM, rfl, hLa⟩
  rw [show nI (4 * 0) = 0 by decide] at h
  exact h
