/-! ===== the law: its cases (by program: wip/p35/gen/lawp.py) ===== -/
theorem lc_0 {b L : Nat} {xs : Nat → Int32} {R : Option Value → qMM → Nat × Nat → Prop} {X : String → qMM → Nat × Nat → Prop} {H x c s : Nat} {m : Mod} {I : Nat → Nat → Int32} {J : Nat → Nat → Int64} {now : Int64} {tu tt z : Int32} {V : Nat} {ν : qMM} (hV : V < 65536) (hν : SoV H x m I J ν) (kk : LwR I J m.s now) (hH : H + 4000 < 2 ^ 30) (hc : c + 1 ≤ 600130) (hs : s + 6 ≤ 7301079) (hk : LcK b L xs R X x H c s tu tt z (nI V)) {y18 y19 y20 y21 y22 y23 : Option Value} : EX (SL_law b L xs R X) 244 [some (.ref b), some (.ref x), some (.ref (x + 1492)), some (.ref (x + 1492 + 1)), some (.ref (x + 1492 + 2)), some (.ref (x + 1492 + 3)), some (.ref (x + 1492 + 4)), some (.ref (x + 1492 + 5)), some (.ref (x + 1492 + 6)), some (.ref (x + 1492 + 7)), some (.ref (x + 1492 + 8)), none, none, some (.int (1)), some (.int (tu)), some (.int (tt)), some (.int (z)), some (.int (nI V)), y18, y19, y20, y21, y22, y23] [none, none, none, none, none, none, none, none, none, none, none, some (.long (now)), none, none, none, none, none, none, none, none, none, none, none, none] [] (lm ν (x + 1492) I J) (c, s) := by
  have iv : Iv H m.s := HsP_iv hν.1
  have hP : ∃ H m, HsP H (lm ν (x + 1492) I J) x m := ⟨H, m, hν.1⟩
  have e3 : (3 : Int32) = nI 3 := rfl
  have e4 : (4 : Int32) = nI 4 := rfl
  have e16 : (16 : Int32) = nI 16 := rfl
  have e256 : (256 : Int32) = nI 256 := rfl
  obtain ⟨F, hF, eF⟩ : ∃ F : Nat, F < 4 ∧ V % 4 = F := ⟨V % 4, by omega, rfl⟩
  have d4 : nI V - nI V / 4 * 4 = nI F := by
    rw [e4, pk_rem (by omega) (by decide) (by decide), eF]
  have d256 : nI V / 4 - nI V / 4 / 256 * 256 = nI (V / 4 % 256) := by
    rw [e4, e256, pk_div (by omega) (by decide) (by decide), pk_rem (by omega) (by decide) (by decide)]
  have d16 : nI V / 4 - nI V / 4 / 16 * 16 = nI (V / 4 % 16) := by
    rw [e4, e16, pk_div (by omega) (by decide) (by decide), pk_rem (by omega) (by decide) (by decide)]
  obtain ⟨p0, p1, p2, p3⟩ := Hd_pt kk.1
  obtain ⟨r0, ⟨Q1, hQ1, eQ1⟩, ⟨Q2, hQ2, eQ2⟩, r3⟩ := Hd_rg kk.1
  rcases (by omega : F = 0 ∨ F = 1 ∨ F = 2 ∨ F = 3) with rfl | rfl | rfl | rfl
  · have d4' : nI V - nI V / 4 * 4 = 0 := d4
    simp only [eL_law_244, eL_law_246, eL_law_247, eL_law_248, eL_law_250, eL_law_252, eL_law_255, eL_law_257, eL_law_258, eL_law_259, eL_law_262, eL_law_263, eL_law_266, eL_law_268, eL_law_269, eL_law_272, eL_law_274, eL_law_275, eL_law_276, eL_law_278, eL_law_279, eL_law_282, eL_law_284, eL_law_286, eL_law_287, eL_law_289, d4', d256, d16, (show ¬ (3 : Int32) = 0 by decide), (show ¬ (4 : Int32) = 0 by decide), (show ¬ (16 : Int32) = 0 by decide), (show ¬ (256 : Int32) = 0 by decide), (show ¬ (4096 : Int32) = 0 by decide), (show ¬ (2 : Int32) = 0 by decide), (show ¬ (1 : Int32) = 0 by decide), (show ¬ (1000 : Int32) = 0 by decide), (show ¬ (10 : Int32) = 0 by decide), (show ¬ (0 : Int32) = 1 by decide), (show ¬ (0 : Int32) = 2 by decide), (show ¬ (0 : Int32) = 3 by decide), one0, eq_self, or_true, true_or, not_true_eq_false, not_false_eq_true, true_imp_iff, false_imp_iff, true_and, and_true, Classical.not_not]
    rw [eL_law_291]
    refine ⟨by simp, by omega, by omega, hP, fun r μ' q => ?_⟩
    have a1 : inR (0 : Int32) 0 3 := by decide
    have a2 : inR (nI (V / 4 % 256)) 0 (greF 0) := inR_N (b := 255) (by omega) (by decide)
    have ea : setFieldA m 0 (nI (V / 4 % 256)) = (m.s 0, savM m (upd m.s 0 (nI (V / 4 % 256)))) := by
      unfold setFieldA
      rw [if_pos a1, if_pos a2]
      rfl
    obtain ⟨ν1, rfl, rfl, h1⟩ := so_up (A := fun m => setFieldA m 0 (nI (V / 4 % 256))) hH hν q (by show (setFieldA m 0 (nI (V / 4 % 256))).2.f 6 = 0; rw [ea]; exact sav6)
    simp only [ea] at h1
    simp only [eL_law_294, eL_law_296, eL_law_298, eL_law_301, eL_law_304, eL_law_305, eL_law_308, eL_law_309, eL_law_311, eL_law_313, eL_law_316, eL_law_318, eL_law_321, eL_law_323, eL_law_324, eL_law_327, eL_law_329, eL_law_330, eL_law_333, eL_law_335, eL_law_338, eL_law_340, eL_law_341, eL_law_344, eL_law_346, eL_law_347, eL_law_350, eL_law_352, eL_law_355, eL_law_357, eL_law_358, eL_law_361, eL_law_363, eL_law_364, eL_law_367, eL_law_369, eL_law_372, eL_law_374, eL_law_375, eL_law_378, eL_law_381, eL_law_383, ea, p0, p1, p2, p3, PL_low, QL_low, PL_header, QL_header, PL_part, QL_part, PL_moved, QL_moved, fEq, List.length_nil, List.length_cons, ll0, ll1, ll2, ll3, ll4, Nat.le_refl, and_true, Nat.add_zero, (show c + 1 ≤ 600130 by omega), (show s + 6 ≤ 7301079 by omega), (show ¬ (3 : Int32) = 0 by decide), (show ¬ (4 : Int32) = 0 by decide), (show ¬ (16 : Int32) = 0 by decide), (show ¬ (256 : Int32) = 0 by decide), (show ¬ (4096 : Int32) = 0 by decide), (show ¬ (2 : Int32) = 0 by decide), (show ¬ (1 : Int32) = 0 by decide), (show ¬ (1000 : Int32) = 0 by decide), (show ¬ (10 : Int32) = 0 by decide), (show ¬ (0 : Int32) = 1 by decide), (show ¬ (0 : Int32) = 2 by decide), (show ¬ (0 : Int32) = 3 by decide), one0, eq_self, or_true, true_or, not_true_eq_false, not_false_eq_true, true_imp_iff, false_imp_iff, true_and, and_true, Classical.not_not]
    refine hk ν1 _ I J _ _ _ _ _ _ _ _ _ h1 ?_ (Nat.le_refl _) (Nat.le_refl _)
    rw [savS]
    refine LwR_now iv (fun j hj => upd_n (by omega)) (Hd_mk ⟨V / 4 % 256, by omega, rfl⟩ r3 ?_ ?_ ?_ ?_) kk
    · rw [upd_s]
    · rw [upd_n (by decide), eQ1, and_id (by omega)]
    · rw [upd_n (by decide), eQ2, and_id (by omega)]
    · exact upd_n (by decide)
  · have d4' : nI V - nI V / 4 * 4 = 1 := d4
    simp only [eL_law_244, eL_law_246, eL_law_247, eL_law_248, eL_law_250, eL_law_252, eL_law_255, eL_law_257, eL_law_258, eL_law_259, eL_law_262, eL_law_263, eL_law_266, eL_law_268, eL_law_269, eL_law_272, eL_law_274, eL_law_275, eL_law_276, eL_law_278, eL_law_279, eL_law_282, eL_law_284, eL_law_286, eL_law_287, eL_law_289, d4', d256, d16, (show ¬ (3 : Int32) = 0 by decide), (show ¬ (4 : Int32) = 0 by decide), (show ¬ (16 : Int32) = 0 by decide), (show ¬ (256 : Int32) = 0 by decide), (show ¬ (4096 : Int32) = 0 by decide), (show ¬ (2 : Int32) = 0 by decide), (show ¬ (1 : Int32) = 0 by decide), (show ¬ (1000 : Int32) = 0 by decide), (show ¬ (10 : Int32) = 0 by decide), (show ¬ (1 : Int32) = 0 by decide), (show ¬ (1 : Int32) = 2 by decide), (show ¬ (1 : Int32) = 3 by decide), one0, eq_self, or_true, true_or, not_true_eq_false, not_false_eq_true, true_imp_iff, false_imp_iff, true_and, and_true, Classical.not_not]
    rw [eL_law_291]
    refine ⟨by simp, by omega, by omega, hP, fun r μ' q => ?_⟩
    have a1 : inR (1 : Int32) 0 3 := by decide
    have a2 : inR (nI (V)) 0 (greF 1) := inR_N (b := 65535) (by omega) (by decide)
    have ea : setFieldA m 1 (nI (V)) = (m.s 1, savM m (upd m.s 1 (nI (V)))) := by
      unfold setFieldA
      rw [if_pos a1, if_pos a2]
      rfl
    obtain ⟨ν1, rfl, rfl, h1⟩ := so_up (A := fun m => setFieldA m 1 (nI (V))) hH hν q (by show (setFieldA m 1 (nI (V))).2.f 6 = 0; rw [ea]; exact sav6)
    simp only [ea] at h1
    simp only [eL_law_294, eL_law_296, eL_law_298, eL_law_301, eL_law_304, eL_law_305, eL_law_308, eL_law_309, eL_law_311, eL_law_313, eL_law_316, eL_law_318, eL_law_321, eL_law_323, eL_law_324, eL_law_327, eL_law_329, eL_law_330, eL_law_333, eL_law_335, eL_law_338, eL_law_340, eL_law_341, eL_law_344, eL_law_346, eL_law_347, eL_law_350, eL_law_352, eL_law_355, eL_law_357, eL_law_358, eL_law_361, eL_law_363, eL_law_364, eL_law_367, eL_law_369, eL_law_372, eL_law_374, eL_law_375, eL_law_378, eL_law_381, eL_law_383, ea, p0, p1, p2, p3, PL_low, QL_low, PL_header, QL_header, PL_part, QL_part, PL_moved, QL_moved, fEq, List.length_nil, List.length_cons, ll0, ll1, ll2, ll3, ll4, Nat.le_refl, and_true, Nat.add_zero, (show c + 1 ≤ 600130 by omega), (show s + 6 ≤ 7301079 by omega), (show ¬ (3 : Int32) = 0 by decide), (show ¬ (4 : Int32) = 0 by decide), (show ¬ (16 : Int32) = 0 by decide), (show ¬ (256 : Int32) = 0 by decide), (show ¬ (4096 : Int32) = 0 by decide), (show ¬ (2 : Int32) = 0 by decide), (show ¬ (1 : Int32) = 0 by decide), (show ¬ (1000 : Int32) = 0 by decide), (show ¬ (10 : Int32) = 0 by decide), (show ¬ (1 : Int32) = 0 by decide), (show ¬ (1 : Int32) = 2 by decide), (show ¬ (1 : Int32) = 3 by decide), one0, eq_self, or_true, true_or, not_true_eq_false, not_false_eq_true, true_imp_iff, false_imp_iff, true_and, and_true, Classical.not_not]
    refine hk ν1 _ I J _ _ _ _ _ _ _ _ _ h1 ?_ (Nat.le_refl _) (Nat.le_refl _)
    rw [savS]
    refine LwR_now iv (fun j hj => upd_n (by omega)) (Hd_mk r0 r3 ?_ ?_ ?_ ?_) kk
    · exact upd_n (by decide)
    · rw [upd_s, and_id (by omega)]
    · rw [upd_n (by decide), eQ2, and_id (by omega)]
    · exact upd_n (by decide)
  · have d4' : nI V - nI V / 4 * 4 = 2 := d4
    simp only [eL_law_244, eL_law_246, eL_law_247, eL_law_248, eL_law_250, eL_law_252, eL_law_255, eL_law_257, eL_law_258, eL_law_259, eL_law_262, eL_law_263, eL_law_266, eL_law_268, eL_law_269, eL_law_272, eL_law_274, eL_law_275, eL_law_276, eL_law_278, eL_law_279, eL_law_282, eL_law_284, eL_law_286, eL_law_287, eL_law_289, d4', d256, d16, (show ¬ (3 : Int32) = 0 by decide), (show ¬ (4 : Int32) = 0 by decide), (show ¬ (16 : Int32) = 0 by decide), (show ¬ (256 : Int32) = 0 by decide), (show ¬ (4096 : Int32) = 0 by decide), (show ¬ (2 : Int32) = 0 by decide), (show ¬ (1 : Int32) = 0 by decide), (show ¬ (1000 : Int32) = 0 by decide), (show ¬ (10 : Int32) = 0 by decide), (show ¬ (2 : Int32) = 0 by decide), (show ¬ (2 : Int32) = 1 by decide), (show ¬ (2 : Int32) = 3 by decide), one0, eq_self, or_true, true_or, not_true_eq_false, not_false_eq_true, true_imp_iff, false_imp_iff, true_and, and_true, Classical.not_not]
    rw [eL_law_291]
    refine ⟨by simp, by omega, by omega, hP, fun r μ' q => ?_⟩
    have a1 : inR (2 : Int32) 0 3 := by decide
    have a2 : inR (nI (V)) 0 (greF 2) := inR_N (b := 65535) (by omega) (by decide)
    have ea : setFieldA m 2 (nI (V)) = (m.s 2, savM m (upd m.s 2 (nI (V)))) := by
      unfold setFieldA
      rw [if_pos a1, if_pos a2]
      rfl
    obtain ⟨ν1, rfl, rfl, h1⟩ := so_up (A := fun m => setFieldA m 2 (nI (V))) hH hν q (by show (setFieldA m 2 (nI (V))).2.f 6 = 0; rw [ea]; exact sav6)
    simp only [ea] at h1
    simp only [eL_law_294, eL_law_296, eL_law_298, eL_law_301, eL_law_304, eL_law_305, eL_law_308, eL_law_309, eL_law_311, eL_law_313, eL_law_316, eL_law_318, eL_law_321, eL_law_323, eL_law_324, eL_law_327, eL_law_329, eL_law_330, eL_law_333, eL_law_335, eL_law_338, eL_law_340, eL_law_341, eL_law_344, eL_law_346, eL_law_347, eL_law_350, eL_law_352, eL_law_355, eL_law_357, eL_law_358, eL_law_361, eL_law_363, eL_law_364, eL_law_367, eL_law_369, eL_law_372, eL_law_374, eL_law_375, eL_law_378, eL_law_381, eL_law_383, ea, p0, p1, p2, p3, PL_low, QL_low, PL_header, QL_header, PL_part, QL_part, PL_moved, QL_moved, fEq, List.length_nil, List.length_cons, ll0, ll1, ll2, ll3, ll4, Nat.le_refl, and_true, Nat.add_zero, (show c + 1 ≤ 600130 by omega), (show s + 6 ≤ 7301079 by omega), (show ¬ (3 : Int32) = 0 by decide), (show ¬ (4 : Int32) = 0 by decide), (show ¬ (16 : Int32) = 0 by decide), (show ¬ (256 : Int32) = 0 by decide), (show ¬ (4096 : Int32) = 0 by decide), (show ¬ (2 : Int32) = 0 by decide), (show ¬ (1 : Int32) = 0 by decide), (show ¬ (1000 : Int32) = 0 by decide), (show ¬ (10 : Int32) = 0 by decide), (show ¬ (2 : Int32) = 0 by decide), (show ¬ (2 : Int32) = 1 by decide), (show ¬ (2 : Int32) = 3 by decide), one0, eq_self, or_true, true_or, not_true_eq_false, not_false_eq_true, true_imp_iff, false_imp_iff, true_and, and_true, Classical.not_not]
    refine hk ν1 _ I J _ _ _ _ _ _ _ _ _ h1 ?_ (Nat.le_refl _) (Nat.le_refl _)
    rw [savS]
    refine LwR_now iv (fun j hj => upd_n (by omega)) (Hd_mk r0 r3 ?_ ?_ ?_ ?_) kk
    · exact upd_n (by decide)
    · rw [upd_n (by decide), eQ1, and_id (by omega)]
    · rw [upd_s, and_id (by omega)]
    · exact upd_n (by decide)
  · have d4' : nI V - nI V / 4 * 4 = 3 := d4
    simp only [eL_law_244, eL_law_246, eL_law_247, eL_law_248, eL_law_250, eL_law_252, eL_law_255, eL_law_257, eL_law_258, eL_law_259, eL_law_262, eL_law_263, eL_law_266, eL_law_268, eL_law_269, eL_law_272, eL_law_274, eL_law_275, eL_law_276, eL_law_278, eL_law_279, eL_law_282, eL_law_284, eL_law_286, eL_law_287, eL_law_289, d4', d256, d16, (show ¬ (3 : Int32) = 0 by decide), (show ¬ (4 : Int32) = 0 by decide), (show ¬ (16 : Int32) = 0 by decide), (show ¬ (256 : Int32) = 0 by decide), (show ¬ (4096 : Int32) = 0 by decide), (show ¬ (2 : Int32) = 0 by decide), (show ¬ (1 : Int32) = 0 by decide), (show ¬ (1000 : Int32) = 0 by decide), (show ¬ (10 : Int32) = 0 by decide), (show ¬ (3 : Int32) = 0 by decide), (show ¬ (3 : Int32) = 1 by decide), (show ¬ (3 : Int32) = 2 by decide), one0, eq_self, or_true, true_or, not_true_eq_false, not_false_eq_true, true_imp_iff, false_imp_iff, true_and, and_true, Classical.not_not]
    rw [eL_law_291]
    refine ⟨by simp, by omega, by omega, hP, fun r μ' q => ?_⟩
    have a1 : inR (3 : Int32) 0 3 := by decide
    have a2 : inR (nI (V / 4 % 16)) 0 (greF 3) := inR_N (b := 15) (by omega) (by decide)
    have ea : setFieldA m 3 (nI (V / 4 % 16)) = (m.s 3, savM m (upd m.s 3 (nI (V / 4 % 16)))) := by
      unfold setFieldA
      rw [if_pos a1, if_pos a2]
      rfl
    obtain ⟨ν1, rfl, rfl, h1⟩ := so_up (A := fun m => setFieldA m 3 (nI (V / 4 % 16))) hH hν q (by show (setFieldA m 3 (nI (V / 4 % 16))).2.f 6 = 0; rw [ea]; exact sav6)
    simp only [ea] at h1
    simp only [eL_law_294, eL_law_296, eL_law_298, eL_law_301, eL_law_304, eL_law_305, eL_law_308, eL_law_309, eL_law_311, eL_law_313, eL_law_316, eL_law_318, eL_law_321, eL_law_323, eL_law_324, eL_law_327, eL_law_329, eL_law_330, eL_law_333, eL_law_335, eL_law_338, eL_law_340, eL_law_341, eL_law_344, eL_law_346, eL_law_347, eL_law_350, eL_law_352, eL_law_355, eL_law_357, eL_law_358, eL_law_361, eL_law_363, eL_law_364, eL_law_367, eL_law_369, eL_law_372, eL_law_374, eL_law_375, eL_law_378, eL_law_381, eL_law_383, ea, p0, p1, p2, p3, PL_low, QL_low, PL_header, QL_header, PL_part, QL_part, PL_moved, QL_moved, fEq, List.length_nil, List.length_cons, ll0, ll1, ll2, ll3, ll4, Nat.le_refl, and_true, Nat.add_zero, (show c + 1 ≤ 600130 by omega), (show s + 6 ≤ 7301079 by omega), (show ¬ (3 : Int32) = 0 by decide), (show ¬ (4 : Int32) = 0 by decide), (show ¬ (16 : Int32) = 0 by decide), (show ¬ (256 : Int32) = 0 by decide), (show ¬ (4096 : Int32) = 0 by decide), (show ¬ (2 : Int32) = 0 by decide), (show ¬ (1 : Int32) = 0 by decide), (show ¬ (1000 : Int32) = 0 by decide), (show ¬ (10 : Int32) = 0 by decide), (show ¬ (3 : Int32) = 0 by decide), (show ¬ (3 : Int32) = 1 by decide), (show ¬ (3 : Int32) = 2 by decide), one0, eq_self, or_true, true_or, not_true_eq_false, not_false_eq_true, true_imp_iff, false_imp_iff, true_and, and_true, Classical.not_not]
    refine hk ν1 _ I J _ _ _ _ _ _ _ _ _ h1 ?_ (Nat.le_refl _) (Nat.le_refl _)
    rw [savS]
    refine LwR_now iv (fun j hj => upd_n (by omega)) (Hd_mk r0 ⟨V / 4 % 16, by omega, rfl⟩ ?_ ?_ ?_ ?_) kk
    · exact upd_n (by decide)
    · rw [upd_n (by decide), eQ1, and_id (by omega)]
    · rw [upd_n (by decide), eQ2, and_id (by omega)]
    · rw [upd_s]
theorem lc_1 {b L : Nat} {xs : Nat → Int32} {R : Option Value → qMM → Nat × Nat → Prop} {X : String → qMM → Nat × Nat → Prop} {H x c s : Nat} {m : Mod} {I : Nat → Nat → Int32} {J : Nat → Nat → Int64} {now : Int64} {tu tt z : Int32} {V : Nat} {ν : qMM} (hV : V < 65536) (hν : SoV H x m I J ν) (kk : LwR I J m.s now) (hH : H + 4000 < 2 ^ 30) (hc : c + 1 ≤ 600130) (hs : s + 6 ≤ 7301079) (hk : LcK b L xs R X x H c s tu tt z (nI V)) {y18 y19 y20 y21 y22 y23 : Option Value} : EX (SL_law b L xs R X) 392 [some (.ref b), some (.ref x), some (.ref (x + 1492)), some (.ref (x + 1492 + 1)), some (.ref (x + 1492 + 2)), some (.ref (x + 1492 + 3)), some (.ref (x + 1492 + 4)), some (.ref (x + 1492 + 5)), some (.ref (x + 1492 + 6)), some (.ref (x + 1492 + 7)), some (.ref (x + 1492 + 8)), none, none, some (.int (1)), some (.int (tu)), some (.int (tt)), some (.int (z)), some (.int (nI V)), y18, y19, y20, y21, y22, y23] [none, none, none, none, none, none, none, none, none, none, none, some (.long (now)), none, none, none, none, none, none, none, none, none, none, none, none] [] (lm ν (x + 1492) I J) (c, s) := by
  have iv : Iv H m.s := HsP_iv hν.1
  have hP : ∃ H m, HsP H (lm ν (x + 1492) I J) x m := ⟨H, m, hν.1⟩
  have e3 : (3 : Int32) = nI 3 := rfl
  have e4 : (4 : Int32) = nI 4 := rfl
  have e16 : (16 : Int32) = nI 16 := rfl
  have e256 : (256 : Int32) = nI 256 := rfl
  have d1 : nI V - nI V / 256 * 256 = nI (V % 256) := by rw [e256, pk_rem (by omega) (by decide) (by decide)]
  have d2 : nI V / 16 = nI (V / 16) := by rw [e16, pk_div (by omega) (by decide) (by decide)]
  have sd := kk.2.1.2.2.2.2.1
  obtain ⟨sd1, sd2⟩ := SdR_at sd
  simp only [eL_law_392, eL_law_393, eL_law_395, eL_law_398, eL_law_399, eL_law_401, eL_law_403, d1, d2, (show ¬ (3 : Int32) = 0 by decide), (show ¬ (4 : Int32) = 0 by decide), (show ¬ (16 : Int32) = 0 by decide), (show ¬ (256 : Int32) = 0 by decide), (show ¬ (4096 : Int32) = 0 by decide), (show ¬ (2 : Int32) = 0 by decide), (show ¬ (1 : Int32) = 0 by decide), (show ¬ (1000 : Int32) = 0 by decide), (show ¬ (10 : Int32) = 0 by decide), one0, eq_self, or_true, true_or, not_true_eq_false, not_false_eq_true, true_imp_iff, false_imp_iff, true_and, and_true, Classical.not_not]
  rw [eL_law_404]
  refine ⟨by simp, by omega, by omega, hP, fun r μ' q => ?_⟩
  have a1 : inR (nI (V % 256)) 0 255 ∧ inR (nI (V / 16)) 0 4095 := ⟨inR_N (b := 255) (by omega) (by decide), inR_N (b := 4095) (by omega) (by decide)⟩
  have ea : setStridesA m (nI (V % 256)) (nI (V / 16)) = (m.s 5, savM m (upd (upd m.s 4 (nI (V % 256))) 5 (nI (V / 16)))) := by
    unfold setStridesA
    rw [if_pos a1]
  obtain ⟨ν1, rfl, rfl, h1⟩ := so_up (A := fun m => setStridesA m (nI (V % 256)) (nI (V / 16))) hH hν q (by show (setStridesA m (nI (V % 256)) (nI (V / 16))).2.f 6 = 0; rw [ea]; exact sav6)
  simp only [ea] at h1
  obtain ⟨s0, s1, s2, s3, s4, s5, s6, s7, s8⟩ : LaS ν1 (x + 1492) := h1.2
  have w4 : vp_in (4 : Int32) 21 := vpn (i := 4) (by decide) (by decide)
  have e5 : (4096 : Int32) * nI (V % 256) + nI (V / 16) = nI (4096 * (V % 256) + V / 16) := by
    rw [show (4096 : Int32) = nI 4096 from rfl, pk_mul, nI_add]
  simp only [eL_law_407, eL_law_408, eL_law_409, eL_law_410, eL_law_413, eL_law_414, eL_law_417, eL_law_418, eL_law_421, eL_law_422, eL_law_424, eL_law_425, eL_law_426, eL_law_429, eL_law_431, eL_law_434, eL_law_435, eL_law_436, eL_law_438, eL_law_440, eL_law_441, eL_law_442, eL_law_443, ea, sd2, d1, d2, e5, mI_lm0, mI_lm, mJ_lm, wR_lm, wR_lm0, wL_lm, qArr_lm, l19, l29, l39, l49, l59, l69, l79, l89, wI_def, up2_at, up2_2, pk_us, j10, j20, j21, j30, j31, j32, j40, j41, j42, j43, j50, j51, j52, j53, j54, j60, j70, j71, j80, j01, j02, j03, j04, j05, j06, j07, j08, j12, j13, j14, j15, j23, j24, j25, j34, j35, j45, j56, j57, j58, j65, j67, j68, j75, j76, j78, j85, j86, j87, ite_false_, ite_true_, qA_iA s0, w4, ci4, (show ¬ (3 : Int32) = 0 by decide), (show ¬ (4 : Int32) = 0 by decide), (show ¬ (16 : Int32) = 0 by decide), (show ¬ (256 : Int32) = 0 by decide), (show ¬ (4096 : Int32) = 0 by decide), (show ¬ (2 : Int32) = 0 by decide), (show ¬ (1 : Int32) = 0 by decide), (show ¬ (1000 : Int32) = 0 by decide), (show ¬ (10 : Int32) = 0 by decide), one0, eq_self, or_true, true_or, not_true_eq_false, not_false_eq_true, true_imp_iff, false_imp_iff, true_and, and_true, Classical.not_not]
  refine hk ν1 _ _ J _ _ _ _ _ _ _ _ _ (so_lm h1) ?_ (Nat.le_refl _) (Nat.le_refl _)
  rw [savS]
  refine LwR_g iv (fun j h1 h2 => by rw [upd_n (by omega), upd_n (by omega)]) (fun k hk => up2_n hk) ?_ kk
  rw [up2_s]
  obtain ⟨q0, q1, q2, q3, q4, q7, q8, q9, q10⟩ := kk.2.1
  refine ⟨?_, ?_, ?_, ?_, ?_, ?_, ?_, ?_, fun i h1 h2 => ?_⟩
  · rw [upd_n (by decide), upd_n (by decide), upd_n (by decide)]; exact q0
  · rw [upd_n (by decide), upd_n (by decide), upd_n (by decide)]; exact q1
  · rw [upd_n (by decide), upd_n (by decide), upd_n (by decide)]; exact q2
  · rw [upd_n (by decide), upd_n (by decide), upd_n (by decide)]; exact q3
  · rw [upd_s, upd_n (by decide), upd_s, upd_s]
    exact ⟨V % 256, V / 16, by omega, by omega, rfl, rfl, rfl⟩
  · rw [upd_n (by decide), upd_n (by decide), upd_n (by decide)]; exact q7
  · rw [upd_n (by decide), upd_n (by decide), upd_n (by decide)]; exact q8
  · rw [upd_n (by decide), upd_n (by decide), upd_n (by decide)]; exact q9
  · rw [upd_n (by omega), upd_n (by omega), upd_n (by omega)]; exact q10 i h1 h2
theorem lc_2 {b L : Nat} {xs : Nat → Int32} {R : Option Value → qMM → Nat × Nat → Prop} {X : String → qMM → Nat × Nat → Prop} {H x c s : Nat} {m : Mod} {I : Nat → Nat → Int32} {J : Nat → Nat → Int64} {now : Int64} {tu tt z : Int32} {V : Nat} {ν : qMM} (hV : V < 65536) (hν : SoV H x m I J ν) (kk : LwR I J m.s now) (hH : H + 4000 < 2 ^ 30) (hc : c + 1 ≤ 600130) (hs : s + 6 ≤ 7301079) (hk : LcK b L xs R X x H c s tu tt z (nI V)) {y18 y19 y20 y21 y22 y23 : Option Value} : EX (SL_law b L xs R X) 452 [some (.ref b), some (.ref x), some (.ref (x + 1492)), some (.ref (x + 1492 + 1)), some (.ref (x + 1492 + 2)), some (.ref (x + 1492 + 3)), some (.ref (x + 1492 + 4)), some (.ref (x + 1492 + 5)), some (.ref (x + 1492 + 6)), some (.ref (x + 1492 + 7)), some (.ref (x + 1492 + 8)), none, none, some (.int (1)), some (.int (tu)), some (.int (tt)), some (.int (z)), some (.int (nI V)), y18, y19, y20, y21, y22, y23] [none, none, none, none, none, none, none, none, none, none, none, some (.long (now)), none, none, none, none, none, none, none, none, none, none, none, none] [] (lm ν (x + 1492) I J) (c, s) := by
  have iv : Iv H m.s := HsP_iv hν.1
  have hP : ∃ H m, HsP H (lm ν (x + 1492) I J) x m := ⟨H, m, hν.1⟩
  have e3 : (3 : Int32) = nI 3 := rfl
  have e4 : (4 : Int32) = nI 4 := rfl
  have e16 : (16 : Int32) = nI 16 := rfl
  have e256 : (256 : Int32) = nI 256 := rfl
  obtain ⟨C, hC, d3⟩ : ∃ C : Nat, C ≤ 15 ∧ nI V / 3 - nI V / 3 / (if nI V - nI V / 2 * 2 = 0 then 16 else 1) * (if nI V - nI V / 2 * 2 = 0 then 16 else 1) = nI C := by
    by_cases g : nI V - nI V / 2 * 2 = 0
    · rw [if_pos g, e3, e16, pk_div (by omega) (by decide) (by decide), pk_rem (by omega) (by decide) (by decide)]
      exact ⟨V / 3 % 16, by omega, rfl⟩
    · rw [if_neg g, e3, show (1 : Int32) = nI 1 from rfl, pk_div (by omega) (by decide) (by decide), pk_rem (by omega) (by decide) (by decide)]
      exact ⟨V / 3 % 1, by omega, rfl⟩
  have zd : ¬ (if nI V - nI V / 2 * 2 = 0 then (16 : Int32) else 1) = 0 := by
    by_cases g : nI V - nI V / 2 * 2 = 0
    · rw [if_pos g]; decide
    · rw [if_neg g]; decide
  have d1 : nI V - nI V / 3 * 3 = nI (V % 3) := by rw [e3, pk_rem (by omega) (by decide) (by decide)]
  simp only [eL_law_452, eL_law_453, eL_law_455, eL_law_456, eL_law_457, eL_law_459, eL_law_460, eL_law_461, eL_law_463, eL_law_464, eL_law_465, eL_law_468, eL_law_470, eL_law_473, (show ¬ (3 : Int32) = 0 by decide), (show ¬ (4 : Int32) = 0 by decide), (show ¬ (16 : Int32) = 0 by decide), (show ¬ (256 : Int32) = 0 by decide), (show ¬ (4096 : Int32) = 0 by decide), (show ¬ (2 : Int32) = 0 by decide), (show ¬ (1 : Int32) = 0 by decide), (show ¬ (1000 : Int32) = 0 by decide), (show ¬ (10 : Int32) = 0 by decide), one0, eq_self, or_true, true_or, not_true_eq_false, not_false_eq_true, true_imp_iff, false_imp_iff, true_and, and_true, Classical.not_not, mrgI, mrgN]
  simp only [eL_law_474, d1, d3, zd, one0, eq_self, or_true, true_or, not_true_eq_false, not_false_eq_true, true_imp_iff, false_imp_iff, true_and, and_true, Classical.not_not]
  rw [eL_law_475]
  refine ⟨by simp, by omega, by omega, hP, fun r μ' q => ?_⟩
  have a1 : polR (nI (V % 3)) (nI C) := ⟨⟨nI_pos' (by omega), nI_le (b := 2) (by omega) (by decide)⟩, nI_pos' (by omega), nI_le (b := 15) (by omega) (by decide)⟩
  have ea : setPolicyA m (nI (V % 3)) (nI C) = (m.s 6, savM m (upd (upd m.s 6 (nI (V % 3))) 7 (nI C))) := by
    unfold setPolicyA
    rw [if_pos a1]
  obtain ⟨ν1, rfl, rfl, h1⟩ := so_up (A := fun m => setPolicyA m (nI (V % 3)) (nI C)) hH hν q (by show (setPolicyA m (nI (V % 3)) (nI C)).2.f 6 = 0; rw [ea]; exact sav6)
  simp only [ea] at h1
  obtain ⟨s0, s1, s2, s3, s4, s5, s6, s7, s8⟩ : LaS ν1 (x + 1492) := h1.2
  have w2 : vp_in (2 : Int32) 21 := vpn (i := 2) (by decide) (by decide)
  have w3 : vp_in (3 : Int32) 21 := vpn (i := 3) (by decide) (by decide)
  have c2 : (2 : Int32).toNatClampNeg = 2 := by decide
  have c3 : (3 : Int32).toNatClampNeg = 3 := by decide
  obtain ⟨q0, q1, q2, q3, q4, q7, q8, q9, q10⟩ := id kk.2.1
  simp only [eL_law_478, eL_law_479, eL_law_480, eL_law_481, eL_law_484, eL_law_485, eL_law_488, eL_law_489, eL_law_491, eL_law_492, eL_law_493, eL_law_495, eL_law_496, eL_law_497, eL_law_498, eL_law_499, eL_law_500, eL_law_502, eL_law_503, eL_law_504, eL_law_506, eL_law_507, eL_law_508, eL_law_511, eL_law_513, eL_law_516, ea, q2, d1, mI_lm0, mI_lm, mJ_lm, wR_lm, wR_lm0, wL_lm, qArr_lm, l19, l29, l39, l49, l59, l69, l79, l89, wI_def, up2_at, up2_2, pk_us, j10, j20, j21, j30, j31, j32, j40, j41, j42, j43, j50, j51, j52, j53, j54, j60, j70, j71, j80, j01, j02, j03, j04, j05, j06, j07, j08, j12, j13, j14, j15, j23, j24, j25, j34, j35, j45, j56, j57, j58, j65, j67, j68, j75, j76, j78, j85, j86, j87, ite_false_, ite_true_, qA_iA s0, w2, w3, c2, c3, (show ¬ (3 : Int32) = 0 by decide), (show ¬ (4 : Int32) = 0 by decide), (show ¬ (16 : Int32) = 0 by decide), (show ¬ (256 : Int32) = 0 by decide), (show ¬ (4096 : Int32) = 0 by decide), (show ¬ (2 : Int32) = 0 by decide), (show ¬ (1 : Int32) = 0 by decide), (show ¬ (1000 : Int32) = 0 by decide), (show ¬ (10 : Int32) = 0 by decide), one0, eq_self, or_true, true_or, not_true_eq_false, not_false_eq_true, true_imp_iff, false_imp_iff, true_and, and_true, Classical.not_not, mrgI, mrgN]
  simp only [eL_law_517, eL_law_518, eL_law_519, d3, zd, mI_lm0, mI_lm, mJ_lm, wR_lm, wR_lm0, wL_lm, qArr_lm, l19, l29, l39, l49, l59, l69, l79, l89, wI_def, up2_at, up2_2, pk_us, j10, j20, j21, j30, j31, j32, j40, j41, j42, j43, j50, j51, j52, j53, j54, j60, j70, j71, j80, j01, j02, j03, j04, j05, j06, j07, j08, j12, j13, j14, j15, j23, j24, j25, j34, j35, j45, j56, j57, j58, j65, j67, j68, j75, j76, j78, j85, j86, j87, ite_false_, ite_true_, qA_iA s0, w3, c3, one0, eq_self, or_true, true_or, not_true_eq_false, not_false_eq_true, true_imp_iff, false_imp_iff, true_and, and_true, Classical.not_not]
  refine hk ν1 _ _ J _ _ _ _ _ _ _ _ _ (so_lm h1) ?_ (Nat.le_refl _) (Nat.le_refl _)
  rw [savS]
  refine LwR_g iv (fun j h1 h2 => by rw [upd_n (by omega), upd_n (by omega)]) (fun k hk => up2_n hk) ?_ kk
  rw [up2_s]
  refine ⟨?_, ?_, ?_, ?_, ?_, ?_, ?_, ?_, fun i h1 h2 => ?_⟩
  · rw [upd_n (by decide), upd_n (by decide), upd_n (by decide), upd_n (by decide)]; exact q0
  · rw [upd_n (by decide), upd_n (by decide), upd_n (by decide), upd_n (by decide)]; exact q1
  · rw [upd_n (by decide), upd_s, upd_n (by decide), upd_s]
  · rw [upd_s, upd_s]
  · rw [upd_n (by decide), upd_n (by decide), upd_n (by decide), upd_n (by decide), upd_n (by decide), upd_n (by decide)]; exact q4
  · rw [upd_n (by decide), upd_n (by decide), upd_n (by decide), upd_n (by decide)]; exact q7
  · rw [upd_n (by decide), upd_n (by decide), upd_n (by decide), upd_n (by decide)]; exact q8
  · rw [upd_n (by decide), upd_n (by decide), upd_n (by decide), upd_n (by decide)]; exact q9
  · rw [upd_n (by omega), upd_n (by omega), upd_n (by omega), upd_n (by omega)]; exact q10 i h1 h2
theorem lc_3 {b L : Nat} {xs : Nat → Int32} {R : Option Value → qMM → Nat × Nat → Prop} {X : String → qMM → Nat × Nat → Prop} {H x c s : Nat} {m : Mod} {I : Nat → Nat → Int32} {J : Nat → Nat → Int64} {now : Int64} {tu tt z : Int32} {V : Nat} {ν : qMM} (hV : V < 65536) (hν : SoV H x m I J ν) (kk : LwR I J m.s now) (hH : H + 4000 < 2 ^ 30) (hc : c + 1 ≤ 600130) (hs : s + 6 ≤ 7301079) (hk : LcK b L xs R X x H c s tu tt z (nI V)) {y18 y19 y20 y21 y22 y23 : Option Value} : EX (SL_law b L xs R X) 528 [some (.ref b), some (.ref x), some (.ref (x + 1492)), some (.ref (x + 1492 + 1)), some (.ref (x + 1492 + 2)), some (.ref (x + 1492 + 3)), some (.ref (x + 1492 + 4)), some (.ref (x + 1492 + 5)), some (.ref (x + 1492 + 6)), some (.ref (x + 1492 + 7)), some (.ref (x + 1492 + 8)), none, none, some (.int (1)), some (.int (tu)), some (.int (tt)), some (.int (z)), some (.int (nI V)), y18, y19, y20, y21, y22, y23] [none, none, none, none, none, none, none, none, none, none, none, some (.long (now)), none, none, none, none, none, none, none, none, none, none, none, none] [] (lm ν (x + 1492) I J) (c, s) := by
  have iv : Iv H m.s := HsP_iv hν.1
  have hP : ∃ H m, HsP H (lm ν (x + 1492) I J) x m := ⟨H, m, hν.1⟩
  have e3 : (3 : Int32) = nI 3 := rfl
  have e4 : (4 : Int32) = nI 4 := rfl
  have e16 : (16 : Int32) = nI 16 := rfl
  have e256 : (256 : Int32) = nI 256 := rfl
  obtain ⟨C, hC, d3⟩ : ∃ C : Nat, C ≤ 15 ∧ nI V / 16 - nI V / 16 / (if nI V - nI V / 3 * 3 = 0 then 16 else 3) * (if nI V - nI V / 3 * 3 = 0 then 16 else 3) = nI C := by
    by_cases g : nI V - nI V / 3 * 3 = 0
    · rw [if_pos g, e16, pk_div (by omega) (by decide) (by decide), pk_rem (by omega) (by decide) (by decide)]
      exact ⟨V / 16 % 16, by omega, rfl⟩
    · rw [if_neg g, e3, e16, pk_div (by omega) (by decide) (by decide), pk_rem (by omega) (by decide) (by decide)]
      exact ⟨V / 16 % 3, by omega, rfl⟩
  have zd : ¬ (if nI V - nI V / 3 * 3 = 0 then (16 : Int32) else 3) = 0 := by
    by_cases g : nI V - nI V / 3 * 3 = 0
    · rw [if_pos g]; decide
    · rw [if_neg g]; decide
  have d1 : nI V - nI V / 16 * 16 = nI (V % 16) := by rw [e16, pk_rem (by omega) (by decide) (by decide)]
  have d4 : (1 : Int32) + (nI V / 256 - nI V / 256 / 4 * 4) = nI (1 + V / 256 % 4) := by
    rw [e256, e4, pk_div (by omega) (by decide) (by decide), pk_rem (by omega) (by decide) (by decide), show (1 : Int32) = nI 1 from rfl, nI_add]
  have d5 : (1 : Int32) + nI C = nI (1 + C) := nI_add 1 C
  simp only [eL_law_528, eL_law_529, eL_law_531, eL_law_533, eL_law_534, eL_law_535, eL_law_537, eL_law_539, eL_law_540, eL_law_542, eL_law_543, eL_law_544, eL_law_547, eL_law_549, eL_law_552, (show ¬ (3 : Int32) = 0 by decide), (show ¬ (4 : Int32) = 0 by decide), (show ¬ (16 : Int32) = 0 by decide), (show ¬ (256 : Int32) = 0 by decide), (show ¬ (4096 : Int32) = 0 by decide), (show ¬ (2 : Int32) = 0 by decide), (show ¬ (1 : Int32) = 0 by decide), (show ¬ (1000 : Int32) = 0 by decide), (show ¬ (10 : Int32) = 0 by decide), one0, eq_self, or_true, true_or, not_true_eq_false, not_false_eq_true, true_imp_iff, false_imp_iff, true_and, and_true, Classical.not_not, mrgI, mrgN]
  simp only [eL_law_553, eL_law_554, eL_law_555, eL_law_556, eL_law_558, eL_law_561, eL_law_562, eL_law_563, eL_law_564, d1, d3, d4, d5, zd, (show ¬ (3 : Int32) = 0 by decide), (show ¬ (4 : Int32) = 0 by decide), (show ¬ (16 : Int32) = 0 by decide), (show ¬ (256 : Int32) = 0 by decide), (show ¬ (4096 : Int32) = 0 by decide), (show ¬ (2 : Int32) = 0 by decide), (show ¬ (1 : Int32) = 0 by decide), (show ¬ (1000 : Int32) = 0 by decide), (show ¬ (10 : Int32) = 0 by decide), one0, eq_self, or_true, true_or, not_true_eq_false, not_false_eq_true, true_imp_iff, false_imp_iff, true_and, and_true, Classical.not_not]
  rw [eL_law_565]
  refine ⟨by simp, by omega, by omega, hP, fun r μ' q => ?_⟩
  have a1 : inR (nI (V % 16)) 0 15 ∧ inR (nI (1 + C)) 1 16 ∧ inR (nI (1 + V / 256 % 4)) 1 8 := ⟨inR_N (b := 15) (by omega) (by decide), ⟨nI_le (a := 1) (by omega) (by omega), nI_le (b := 16) (by omega) (by decide)⟩, nI_le (a := 1) (by omega) (by omega), nI_le (b := 8) (by omega) (by decide)⟩
  have ea : setReceiverA m (nI (V % 16)) (nI (1 + C)) (nI (1 + V / 256 % 4)) = (m.s 52, savM m (upd (upd (upd m.s 52 (nI (V % 16))) 53 (nI (1 + C))) 54 (nI (1 + V / 256 % 4)))) := by
    unfold setReceiverA
    rw [if_pos a1]
  obtain ⟨ν1, rfl, rfl, h1⟩ := so_up (A := fun m => setReceiverA m (nI (V % 16)) (nI (1 + C)) (nI (1 + V / 256 % 4))) hH hν q (by show (setReceiverA m (nI (V % 16)) (nI (1 + C)) (nI (1 + V / 256 % 4))).2.f 6 = 0; rw [ea]; exact sav6)
  simp only [ea] at h1
  obtain ⟨s0, s1, s2, s3, s4, s5, s6, s7, s8⟩ : LaS ν1 (x + 1492) := h1.2
  have w7 : vp_in (7 : Int32) 21 := vpn (i := 7) (by decide) (by decide)
  have w8 : vp_in (8 : Int32) 21 := vpn (i := 8) (by decide) (by decide)
  have w9 : vp_in (9 : Int32) 21 := vpn (i := 9) (by decide) (by decide)
  have c7 : (7 : Int32).toNatClampNeg = 7 := by decide
  have c8 : (8 : Int32).toNatClampNeg = 8 := by decide
  have c9 : (9 : Int32).toNatClampNeg = 9 := by decide
  obtain ⟨q0, q1, q2, q3, q4, q7, q8, q9, q10⟩ := id kk.2.1
  simp only [eL_law_568, eL_law_569, eL_law_571, eL_law_572, eL_law_575, eL_law_576, eL_law_579, eL_law_580, eL_law_582, eL_law_583, eL_law_585, eL_law_586, eL_law_588, eL_law_591, eL_law_592, eL_law_593, eL_law_594, eL_law_595, eL_law_596, eL_law_597, eL_law_599, eL_law_601, eL_law_603, eL_law_604, eL_law_605, eL_law_606, eL_law_608, eL_law_609, eL_law_611, eL_law_613, eL_law_614, eL_law_616, eL_law_617, eL_law_618, eL_law_621, eL_law_623, eL_law_626, ea, q7, d1, d4, mI_lm0, mI_lm, mJ_lm, wR_lm, wR_lm0, wL_lm, qArr_lm, l19, l29, l39, l49, l59, l69, l79, l89, wI_def, up2_at, up2_2, pk_us, j10, j20, j21, j30, j31, j32, j40, j41, j42, j43, j50, j51, j52, j53, j54, j60, j70, j71, j80, j01, j02, j03, j04, j05, j06, j07, j08, j12, j13, j14, j15, j23, j24, j25, j34, j35, j45, j56, j57, j58, j65, j67, j68, j75, j76, j78, j85, j86, j87, ite_false_, ite_true_, qA_iA s0, w7, w8, w9, c7, c8, c9, (show ¬ (3 : Int32) = 0 by decide), (show ¬ (4 : Int32) = 0 by decide), (show ¬ (16 : Int32) = 0 by decide), (show ¬ (256 : Int32) = 0 by decide), (show ¬ (4096 : Int32) = 0 by decide), (show ¬ (2 : Int32) = 0 by decide), (show ¬ (1 : Int32) = 0 by decide), (show ¬ (1000 : Int32) = 0 by decide), (show ¬ (10 : Int32) = 0 by decide), one0, eq_self, or_true, true_or, not_true_eq_false, not_false_eq_true, true_imp_iff, false_imp_iff, true_and, and_true, Classical.not_not, mrgI, mrgN]
  simp only [eL_law_627, eL_law_628, eL_law_629, eL_law_630, d3, d5, zd, mI_lm0, mI_lm, mJ_lm, wR_lm, wR_lm0, wL_lm, qArr_lm, l19, l29, l39, l49, l59, l69, l79, l89, wI_def, up2_at, up2_2, pk_us, j10, j20, j21, j30, j31, j32, j40, j41, j42, j43, j50, j51, j52, j53, j54, j60, j70, j71, j80, j01, j02, j03, j04, j05, j06, j07, j08, j12, j13, j14, j15, j23, j24, j25, j34, j35, j45, j56, j57, j58, j65, j67, j68, j75, j76, j78, j85, j86, j87, ite_false_, ite_true_, qA_iA s0, w8, c8, one0, eq_self, or_true, true_or, not_true_eq_false, not_false_eq_true, true_imp_iff, false_imp_iff, true_and, and_true, Classical.not_not]
  refine hk ν1 _ _ J _ _ _ _ _ _ _ _ _ (so_lm h1) ?_ (Nat.le_refl _) (Nat.le_refl _)
  rw [savS]
  refine LwR_g iv (fun j h1 h2 => by rw [upd_n (by omega), upd_n (by omega), upd_n (by omega)]) (fun k hk => up2_n hk) ?_ kk
  rw [up2_s]
  have o : ∀ j, j ≠ 52 → j ≠ 53 → j ≠ 54 → upd (upd (upd m.s 52 (nI (V % 16))) 53 (nI (1 + C))) 54 (nI (1 + V / 256 % 4)) j = m.s j := fun j a b c => by rw [upd_n c, upd_n b, upd_n a]
  have og : ∀ j, j ≠ 7 → j ≠ 8 → j ≠ 9 → upd (upd (upd (I 0) 9 (nI (1 + V / 256 % 4))) 7 (nI (V % 16))) 8 (nI (1 + C)) j = I 0 j := fun j a b c => by rw [upd_n b, upd_n a, upd_n c]
  refine ⟨?_, ?_, ?_, ?_, ?_, ?_, ?_, ?_, fun i h1 h2 => ?_⟩
  · rw [og 0 (by decide) (by decide) (by decide), o 9 (by decide) (by decide) (by decide)]; exact q0
  · rw [og 1 (by decide) (by decide) (by decide), o 8 (by decide) (by decide) (by decide)]; exact q1
  · rw [og 2 (by decide) (by decide) (by decide), o 6 (by decide) (by decide) (by decide)]; exact q2
  · rw [og 3 (by decide) (by decide) (by decide), o 7 (by decide) (by decide) (by decide)]; exact q3
  · rw [og 4 (by decide) (by decide) (by decide), o 4 (by decide) (by decide) (by decide), o 5 (by decide) (by decide) (by decide)]; exact q4
  · rw [upd_n (by decide), upd_s, upd_n (by decide), upd_n (by decide), upd_s]
  · rw [upd_s, upd_n (by decide), upd_s]
  · rw [upd_n (by decide), upd_n (by decide), upd_s, upd_s]
  · rw [og i (by omega) (by omega) (by omega), o _ (by omega) (by omega) (by omega)]; exact q10 i h1 h2
theorem lc_4 {b L : Nat} {xs : Nat → Int32} {R : Option Value → qMM → Nat × Nat → Prop} {X : String → qMM → Nat × Nat → Prop} {H x c s : Nat} {m : Mod} {I : Nat → Nat → Int32} {J : Nat → Nat → Int64} {now : Int64} {tu tt z : Int32} {V : Nat} {ν : qMM} (hV : V < 65536) (hν : SoV H x m I J ν) (kk : LwR I J m.s now) (hH : H + 4000 < 2 ^ 30) (hc : c + 1 ≤ 600130) (hs : s + 6 ≤ 7301079) (hk : LcK b L xs R X x H c s tu tt z (nI V)) {y18 y19 y20 y21 y22 y23 : Option Value} : EX (SL_law b L xs R X) 640 [some (.ref b), some (.ref x), some (.ref (x + 1492)), some (.ref (x + 1492 + 1)), some (.ref (x + 1492 + 2)), some (.ref (x + 1492 + 3)), some (.ref (x + 1492 + 4)), some (.ref (x + 1492 + 5)), some (.ref (x + 1492 + 6)), some (.ref (x + 1492 + 7)), some (.ref (x + 1492 + 8)), none, none, some (.int (1)), some (.int (tu)), some (.int (tt)), some (.int (z)), some (.int (nI V)), y18, y19, y20, y21, y22, y23] [none, none, none, none, none, none, none, none, none, none, none, some (.long (now)), none, none, none, none, none, none, none, none, none, none, none, none] [] (lm ν (x + 1492) I J) (c, s) := by
  have iv : Iv H m.s := HsP_iv hν.1
  have hP : ∃ H m, HsP H (lm ν (x + 1492) I J) x m := ⟨H, m, hν.1⟩
  have e3 : (3 : Int32) = nI 3 := rfl
  have e4 : (4 : Int32) = nI 4 := rfl
  have e16 : (16 : Int32) = nI 16 := rfl
  have e256 : (256 : Int32) = nI 256 := rfl
  obtain ⟨s0, s1, s2, s3, s4, s5, s6, s7, s8⟩ : LaS ν (x + 1492) := hν.2
  have w4 : vp_in (4 : Int32) 21 := vpn (i := 4) (by decide) (by decide)
  have kg := go_ok iv kk
  obtain ⟨p0, p1, p2, p3⟩ := Hd_pt kg.1
  simp only [eL_law_640, eL_law_642, eL_law_643, eL_law_644, eL_law_645, eL_law_646, eL_law_649, eL_law_651, PL_low, QL_low, PL_header, QL_header, PL_part, QL_part, PL_moved, QL_moved, fEq, List.length_nil, List.length_cons, ll0, ll1, ll2, ll3, ll4, Nat.le_refl, and_true, Nat.add_zero, (show c ≤ 600130 by omega), (show s ≤ 7301079 by omega), mI_lm0, mI_lm, mJ_lm, wR_lm, wR_lm0, wL_lm, qArr_lm, l19, l29, l39, l49, l59, l69, l79, l89, wI_def, up2_at, up2_2, pk_us, j10, j20, j21, j30, j31, j32, j40, j41, j42, j43, j50, j51, j52, j53, j54, j60, j70, j71, j80, j01, j02, j03, j04, j05, j06, j07, j08, j12, j13, j14, j15, j23, j24, j25, j34, j35, j45, j56, j57, j58, j65, j67, j68, j75, j76, j78, j85, j86, j87, ite_false_, ite_true_, qA_iA s0, w4, ci4, one0, eq_self, or_true, true_or, not_true_eq_false, not_false_eq_true, true_imp_iff, false_imp_iff, true_and, and_true, Classical.not_not]
  rw [eL_law_652]
  refine ⟨by simp, by omega, by omega, so_t hν, hP, fun r μ' q => ?_⟩
  obtain ⟨ν1, rfl, rfl, h1⟩ := so_upd (A := advanceA) hH hν q
  have ea : (advanceA m).1 = goesF m.s 1 := rfl
  have es : (advanceA m).2.s = goesF m.s := rfl
  simp only [eL_law_655, eL_law_657, eL_law_658, eL_law_661, eL_law_664, eL_law_665, eL_law_668, eL_law_669, eL_law_671, ea, p1, PL_low, QL_low, PL_header, QL_header, PL_part, QL_part, PL_moved, QL_moved, fEq, List.length_nil, List.length_cons, ll0, ll1, ll2, ll3, ll4, Nat.le_refl, and_true, Nat.add_zero, (show c ≤ 600130 by omega), (show s ≤ 7301079 by omega), one0, eq_self, or_true, true_or, not_true_eq_false, not_false_eq_true, true_imp_iff, false_imp_iff, true_and, and_true, Classical.not_not]
  exact hk ν1 _ I J _ _ _ _ _ _ _ _ _ h1 (by rw [es]; exact kg) (by omega) (by omega)
theorem send_rows {H H0 x : Nat} {m : Mod} {I : Nat → Nat → Int32} {J : Nat → Nat → Int64} {ν μ' : qMM} {s : Nat → Int32} {now : Int64} {f : Nat} (iv : Iv H s) (kk : LwR I J s now) (hν : SoV H0 x m I J ν) (hn : nOf s < 63) (hf : f < 20) (h10 : s 10 = nI f) : PL_send (x + 1492) (x + 1492 + 1) (x + 1492 + 2) (x + 1492 + 3) now (x + 1492 + 4) (lm ν (x + 1492) I J) ∧ (QL_send (x + 1492) (x + 1492 + 1) (x + 1492 + 2) (x + 1492 + 3) now (x + 1492 + 4) (lm ν (x + 1492) I J) μ' → ∃ ν', μ' = lm ν' (x + 1492) (seI I J now) (seJ I J now) ∧ SoV H0 x m (seI I J now) (seJ I J now) ν' ∧ LwR (seI I J now) (seJ I J now) (sendF s) now) := by
  refine ⟨⟨hν.2, rfl, rfl, rfl, rfl, ⟨nOf s, by omega, ?_, ?_⟩, f, by omega, ?_⟩, fun q => ?_⟩
  · rw [mI_lm0]
    exact kk.2.1.1.trans (Iv_n iv).1
  · rw [mI_lm0, mI_lm (by decide), mI_lm (by decide), mJ_lm (by decide)]
    exact send_p iv kk
  · rw [mI_lm (by decide)]
    exact kk.2.2.2.1.1.trans h10
  · obtain ⟨ν', a1, a2⟩ := so_la hν q seI_lm seJ_lm
    exact ⟨ν', a1, a2, send_ok iv kk hn hf h10 (fun _ _ => rfl) (fun _ _ => rfl)⟩
theorem lc_6 {b L : Nat} {xs : Nat → Int32} {R : Option Value → qMM → Nat × Nat → Prop} {X : String → qMM → Nat × Nat → Prop} {H x c s : Nat} {m : Mod} {I : Nat → Nat → Int32} {J : Nat → Nat → Int64} {now : Int64} {tu tt z : Int32} {V : Nat} {ν : qMM} (hV : V < 65536) (hν : SoV H x m I J ν) (kk : LwR I J m.s now) (hH : H + 4000 < 2 ^ 30) (hc : c + 1 ≤ 600130) (hs : s + 6 ≤ 7301079) (hk : LcK b L xs R X x H c s tu tt z (nI V)) {y18 y19 y20 y21 y22 y23 : Option Value} : EX (SL_law b L xs R X) 804 [some (.ref b), some (.ref x), some (.ref (x + 1492)), some (.ref (x + 1492 + 1)), some (.ref (x + 1492 + 2)), some (.ref (x + 1492 + 3)), some (.ref (x + 1492 + 4)), some (.ref (x + 1492 + 5)), some (.ref (x + 1492 + 6)), some (.ref (x + 1492 + 7)), some (.ref (x + 1492 + 8)), none, none, some (.int (1)), some (.int (tu)), some (.int (tt)), some (.int (z)), some (.int (nI V)), y18, y19, y20, y21, y22, y23] [none, none, none, none, none, none, none, none, none, none, none, some (.long (now)), none, none, none, none, none, none, none, none, none, none, none, none] [] (lm ν (x + 1492) I J) (c, s) := by
  have iv : Iv H m.s := HsP_iv hν.1
  have hP : ∃ H m, HsP H (lm ν (x + 1492) I J) x m := ⟨H, m, hν.1⟩
  have e3 : (3 : Int32) = nI 3 := rfl
  have e4 : (4 : Int32) = nI 4 := rfl
  have e16 : (16 : Int32) = nI 16 := rfl
  have e256 : (256 : Int32) = nI 256 := rfl
  obtain ⟨s0, s1, s2, s3, s4, s5, s6, s7, s8⟩ : LaS ν (x + 1492) := hν.2
  obtain ⟨h9, f, hf, h10⟩ := Iv_n iv
  have g0 : I 0 0 = nI (nOf m.s) := kk.2.1.1.trans h9
  have f0 : I 4 0 = nI f := kk.2.2.2.1.1.trans h10
  have h63 := kk.2.2.2.2.2.2
  by_cases gn : nOf m.s = 63
  · have g0' : I 0 0 = 63 := by rw [g0, gn]; rfl
    simp only [eL_law_804, eL_law_805, eL_law_806, eL_law_807, eL_law_809, mI_lm0, mI_lm, mJ_lm, wR_lm, wR_lm0, wL_lm, qArr_lm, l19, l29, l39, l49, l59, l69, l79, l89, wI_def, up2_at, up2_2, pk_us, j10, j20, j21, j30, j31, j32, j40, j41, j42, j43, j50, j51, j52, j53, j54, j60, j70, j71, j80, j01, j02, j03, j04, j05, j06, j07, j08, j12, j13, j14, j15, j23, j24, j25, j34, j35, j45, j56, j57, j58, j65, j67, j68, j75, j76, j78, j85, j86, j87, ite_false_, ite_true_, qA_iA s0, v0 (show 0 < 21 by decide), ci0, g0', (show (63 : Int32) ≤ 63 by decide), one0, eq_self, or_true, true_or, not_true_eq_false, not_false_eq_true, true_imp_iff, false_imp_iff, true_and, and_true, Classical.not_not]
    exact hk ν _ I J _ _ _ _ _ _ _ _ _ (SoV_mono (by omega) (by omega) hν) kk (by omega) (by omega)
  · have gl : ¬ (63 : Int32) ≤ nI (nOf m.s) := by
      rw [show (63 : Int32) = nI 63 from rfl]
      exact nI_ge (by omega) (by omega)
    by_cases gf : f = 20
    · subst gf
      have f0' : I 4 0 = 20 := f0
      simp only [eL_law_804, eL_law_805, eL_law_806, eL_law_807, eL_law_809, eL_law_812, eL_law_814, eL_law_815, eL_law_816, eL_law_818, eL_law_821, eL_law_822, eL_law_825, eL_law_826, eL_law_828, eL_law_830, eL_law_833, eL_law_834, eL_law_835, eL_law_837, eL_law_839, eL_law_841, eL_law_846, mI_lm0, mI_lm, mJ_lm, wR_lm, wR_lm0, wL_lm, qArr_lm, l19, l29, l39, l49, l59, l69, l79, l89, wI_def, up2_at, up2_2, pk_us, j10, j20, j21, j30, j31, j32, j40, j41, j42, j43, j50, j51, j52, j53, j54, j60, j70, j71, j80, j01, j02, j03, j04, j05, j06, j07, j08, j12, j13, j14, j15, j23, j24, j25, j34, j35, j45, j56, j57, j58, j65, j67, j68, j75, j76, j78, j85, j86, j87, ite_false_, ite_true_, qA_iA s0, qA_iA s4, v0 (show 0 < 21 by decide), v0 (show 0 < 22 by decide), ci0, g0, gl, f0', one0, one0, eq_self, or_true, true_or, not_true_eq_false, not_false_eq_true, true_imp_iff, false_imp_iff, true_and, and_true, Classical.not_not]
      rw [eL_law_847]
      refine ⟨by simp, by omega, by omega, hP, fun r μ' q => ?_⟩
      have nm : ¬ mayS m.s 1 := fun q => by
        have := q.2
        rw [h10] at this
        exact absurd this (by decide)
      obtain ⟨rfl, rfl⟩ := so_f1 (A := sendA) hν q (by
        unfold sendA
        rw [if_neg nm]
        exact fai6)
      simp only [eL_law_850, eL_law_852, eL_law_855, eL_law_857, eL_law_860, eL_law_861, eL_law_862, eL_law_863, eL_law_864, eL_law_865, eL_law_868, eL_law_869, eL_law_872, eL_law_873, eL_law_875, one0, one0, eq_self, or_true, true_or, not_true_eq_false, not_false_eq_true, true_imp_iff, false_imp_iff, true_and, and_true, Classical.not_not]
      exact hk ν _ I J _ _ _ _ _ _ _ _ _ (SoV_mono (by omega) (by omega) hν) kk (by omega) (by omega)
    · have f0' : ¬ nI f = 20 := fun q => gf ((nI_eq (b := 20) (by omega) (by decide)).mp q)
      simp only [eL_law_804, eL_law_805, eL_law_806, eL_law_807, eL_law_809, eL_law_812, eL_law_814, eL_law_815, eL_law_816, eL_law_818, eL_law_821, eL_law_822, eL_law_825, eL_law_826, eL_law_828, eL_law_830, eL_law_833, eL_law_834, eL_law_835, eL_law_837, eL_law_839, eL_law_841, mI_lm0, mI_lm, mJ_lm, wR_lm, wR_lm0, wL_lm, qArr_lm, l19, l29, l39, l49, l59, l69, l79, l89, wI_def, up2_at, up2_2, pk_us, j10, j20, j21, j30, j31, j32, j40, j41, j42, j43, j50, j51, j52, j53, j54, j60, j70, j71, j80, j01, j02, j03, j04, j05, j06, j07, j08, j12, j13, j14, j15, j23, j24, j25, j34, j35, j45, j56, j57, j58, j65, j67, j68, j75, j76, j78, j85, j86, j87, ite_false_, ite_true_, qA_iA s0, qA_iA s4, v0 (show 0 < 21 by decide), v0 (show 0 < 22 by decide), ci0, g0, gl, f0, f0', one0, one0, eq_self, or_true, true_or, not_true_eq_false, not_false_eq_true, true_imp_iff, false_imp_iff, true_and, and_true, Classical.not_not]
      have sp := fun μ' => send_rows (μ' := μ') iv kk hν (by omega) (show f < 20 by omega) h10
      rw [eL_law_843]
      refine ⟨by simp, by omega, by omega, (sp ν).1, fun μ' q => ?_⟩
      obtain ⟨ν1, rfl, h1, k1⟩ := (sp μ').2 q
      clear sp
      simp only [eL_law_846]
      rw [eL_law_847]
      refine ⟨by simp, by omega, by omega, ⟨H, m, h1.1⟩, fun r μ' q => ?_⟩
      have mm1 : mayS m.s 1 := by
        refine ⟨?_, ?_⟩
        · rw [h9, show (1 : Int32) = nI 1 from rfl, nI_add]
          exact nI_le (b := 500) (by omega) (by decide)
        · rw [h10, show (1 : Int32) = nI 1 from rfl, nI_add]
          exact nI_le (b := 20) (by omega) (by decide)
      have ea : sendA m = (sendF m.s 9 - 1, savM m (sendF m.s)) := by
        unfold sendA
        rw [if_pos mm1]
      obtain ⟨ν2, rfl, rfl, h2⟩ := so_up (A := sendA) hH h1 q (by rw [ea]; exact sav6)
      rw [ea] at h2
      clear s0 s1 s2 s3 s4 s5 s6 s7 s8
      obtain ⟨s0, s1, s2, s3, s4, s5, s6, s7, s8⟩ : LaS ν2 (x + 1492) := h2.2
      have g9 : seI I J now 0 0 = sendF m.s 9 := k1.2.1.1
      simp only [eL_law_850, eL_law_852, eL_law_855, eL_law_857, eL_law_860, eL_law_861, eL_law_862, eL_law_863, eL_law_864, eL_law_865, eL_law_868, eL_law_869, eL_law_872, eL_law_873, eL_law_875, ea, g9, mI_lm0, mI_lm, mJ_lm, wR_lm, wR_lm0, wL_lm, qArr_lm, l19, l29, l39, l49, l59, l69, l79, l89, wI_def, up2_at, up2_2, pk_us, j10, j20, j21, j30, j31, j32, j40, j41, j42, j43, j50, j51, j52, j53, j54, j60, j70, j71, j80, j01, j02, j03, j04, j05, j06, j07, j08, j12, j13, j14, j15, j23, j24, j25, j34, j35, j45, j56, j57, j58, j65, j67, j68, j75, j76, j78, j85, j86, j87, ite_false_, ite_true_, qA_iA s0, v0 (show 0 < 21 by decide), ci0, one0, one0, eq_self, or_true, true_or, not_true_eq_false, not_false_eq_true, true_imp_iff, false_imp_iff, true_and, and_true, Classical.not_not]
      exact hk ν2 _ _ _ _ _ _ _ _ _ _ _ _ h2 k1 (by omega) (by omega)
theorem lc_5l {b L : Nat} {xs : Nat → Int32} {R : Option Value → qMM → Nat × Nat → Prop} {X : String → qMM → Nat × Nat → Prop} {H x c s : Nat} {m : Mod} {tu tt z v : Int32} {n f M : Nat} (iv : Iv H m.s) (h9 : nOf m.s = n) (h10 : m.s 10 = nI f) (hn : n + M < 64) (hf : f + M ≤ 20) (hM : M ≤ 4) (hc : c + 1 ≤ 600130) (hs : s + 6 ≤ 7301079) {y18 y19 y20 : Option Value} (hK : ∀ (I : Nat → Nat → Int32) (J : Nat → Nat → Int64) (now : Int64) (ν : qMM) (y23 : Option Value), SoV H x m I J ν → LwR I J (strL m.s M) now → EX (SL_law b L xs R X) 764 [some (.ref b), some (.ref x), some (.ref (x + 1492)), some (.ref (x + 1492 + 1)), some (.ref (x + 1492 + 2)), some (.ref (x + 1492 + 3)), some (.ref (x + 1492 + 4)), some (.ref (x + 1492 + 5)), some (.ref (x + 1492 + 6)), some (.ref (x + 1492 + 7)), some (.ref (x + 1492 + 8)), none, none, some (.int (1)), some (.int (tu)), some (.int (tt)), some (.int (z)), some (.int (v)), y18, y19, y20, some (.int (nI M)), some (.int (0)), y23] [none, none, none, none, none, none, none, none, none, none, none, some (.long (now)), none, none, none, none, none, none, none, none, none, none, none, none] [] (lm ν (x + 1492) I J) (c, s)) : ∀ (k j : Nat) (I : Nat → Nat → Int32) (J : Nat → Nat → Int64) (now : Int64) (ν : qMM), j + k = M → SoV H x m I J ν → LwR I J (strL m.s j) now → EX (SL_law b L xs R X) 722 [some (.ref b), some (.ref x), some (.ref (x + 1492)), some (.ref (x + 1492 + 1)), some (.ref (x + 1492 + 2)), some (.ref (x + 1492 + 3)), some (.ref (x + 1492 + 4)), some (.ref (x + 1492 + 5)), some (.ref (x + 1492 + 6)), some (.ref (x + 1492 + 7)), some (.ref (x + 1492 + 8)), none, none, some (.int (1)), some (.int (tu)), some (.int (tt)), some (.int (z)), some (.int (v)), y18, y19, y20, some (.int (nI M)), some (.int (0)), some (.int (nI j))] [none, none, none, none, none, none, none, none, none, none, none, some (.long (now)), none, none, none, none, none, none, none, none, none, none, none, none] [] (lm ν (x + 1492) I J) (c, s) := by
  have w4 : vp_in (4 : Int32) 21 := vpn (i := 4) (by decide) (by decide)
  intro k
  induction k with
  | zero =>
    intro j I J now ν hj hν kk
    have : j = M := by omega
    subst this
    rw [eL_law_722]
    simp only [eL_law_724, eL_law_726]
    exact ⟨fun _ => hK I J now ν _ hν kk, fun h => absurd (Int32.le_refl _) h⟩
  | succ k ih =>
    intro j I J now ν hj hν kk
    obtain ⟨s0, s1, s2, s3, s4, s5, s6, s7, s8⟩ : LaS ν (x + 1492) := hν.2
    have lt : ¬ nI M ≤ nI j := nI_ge (by omega) (by omega)
    obtain ⟨i1, i2, i3⟩ := str_ok iv ((Iv_n iv).1.trans (by rw [h9])) h10 j (by omega) (by omega)
    have kg := go_ok i1 kk
    have ig := Iv_goes i1
    have n9 : nOf (goesF (strL m.s j)) = n + j := by
      unfold nOf goesF
      rw [upd_n (by decide), upd_n (by decide), i2, nI_clamp (by omega)]
    have n10 : goesF (strL m.s j) 10 = nI (f + j) := by
      unfold goesF
      rw [upd_n (by decide), upd_n (by decide), i3]
    rw [eL_law_722]
    simp only [eL_law_724, eL_law_726]
    refine ⟨fun h => absurd h lt, fun _ => ?_⟩
    simp only [eL_law_729, eL_law_731, eL_law_734, eL_law_736, eL_law_737, eL_law_738, eL_law_739, eL_law_740, eL_law_743, eL_law_745, eL_law_746, eL_law_747, eL_law_749, eL_law_751, eL_law_753, PL_low, QL_low, PL_header, QL_header, PL_part, QL_part, PL_moved, QL_moved, fEq, List.length_nil, List.length_cons, ll0, ll1, ll2, ll3, ll4, Nat.le_refl, and_true, Nat.add_zero, (show c ≤ 600130 by omega), (show s ≤ 7301079 by omega), mI_lm0, mI_lm, mJ_lm, wR_lm, wR_lm0, wL_lm, qArr_lm, l19, l29, l39, l49, l59, l69, l79, l89, wI_def, up2_at, up2_2, pk_us, j10, j20, j21, j30, j31, j32, j40, j41, j42, j43, j50, j51, j52, j53, j54, j60, j70, j71, j80, j01, j02, j03, j04, j05, j06, j07, j08, j12, j13, j14, j15, j23, j24, j25, j34, j35, j45, j56, j57, j58, j65, j67, j68, j75, j76, j78, j85, j86, j87, ite_false_, ite_true_, qA_iA s0, w4, ci4, one0, one0, eq_self, or_true, true_or, not_true_eq_false, not_false_eq_true, true_imp_iff, false_imp_iff, true_and, and_true, Classical.not_not]
    have sp := fun μ' => send_rows (μ' := μ') ig kg hν (by omega) (show f + j < 20 by omega) n10
    rw [eL_law_755]
    refine ⟨by simp, by omega, by omega, (sp ν).1, fun μ' q => ?_⟩
    obtain ⟨ν1, rfl, h1, k1⟩ := (sp μ').2 q
    simp only [eL_law_758, eL_law_761, nI_1]
    exact ih (j + 1) _ _ _ ν1 (by omega) h1 k1
theorem lc_5 {b L : Nat} {xs : Nat → Int32} {R : Option Value → qMM → Nat × Nat → Prop} {X : String → qMM → Nat × Nat → Prop} {H x c s : Nat} {m : Mod} {I : Nat → Nat → Int32} {J : Nat → Nat → Int64} {now : Int64} {tu tt z : Int32} {V : Nat} {ν : qMM} (hV : V < 65536) (hν : SoV H x m I J ν) (kk : LwR I J m.s now) (hH : H + 4000 < 2 ^ 30) (hc : c + 1 ≤ 600130) (hs : s + 6 ≤ 7301079) (hk : LcK b L xs R X x H c s tu tt z (nI V)) {y18 y19 y20 y21 y22 y23 : Option Value} : EX (SL_law b L xs R X) 681 [some (.ref b), some (.ref x), some (.ref (x + 1492)), some (.ref (x + 1492 + 1)), some (.ref (x + 1492 + 2)), some (.ref (x + 1492 + 3)), some (.ref (x + 1492 + 4)), some (.ref (x + 1492 + 5)), some (.ref (x + 1492 + 6)), some (.ref (x + 1492 + 7)), some (.ref (x + 1492 + 8)), none, none, some (.int (1)), some (.int (tu)), some (.int (tt)), some (.int (z)), some (.int (nI V)), y18, y19, y20, y21, y22, y23] [none, none, none, none, none, none, none, none, none, none, none, some (.long (now)), none, none, none, none, none, none, none, none, none, none, none, none] [] (lm ν (x + 1492) I J) (c, s) := by
  have iv : Iv H m.s := HsP_iv hν.1
  have hP : ∃ H m, HsP H (lm ν (x + 1492) I J) x m := ⟨H, m, hν.1⟩
  have e3 : (3 : Int32) = nI 3 := rfl
  have e4 : (4 : Int32) = nI 4 := rfl
  have e16 : (16 : Int32) = nI 16 := rfl
  have e256 : (256 : Int32) = nI 256 := rfl
  obtain ⟨s0, s1, s2, s3, s4, s5, s6, s7, s8⟩ : LaS ν (x + 1492) := hν.2
  obtain ⟨h9, f, hf, h10⟩ := Iv_n iv
  have g0 : I 0 0 = nI (nOf m.s) := kk.2.1.1.trans h9
  have f0 : I 4 0 = nI f := kk.2.2.2.1.1.trans h10
  have h63 := kk.2.2.2.2.2.2
  obtain ⟨M, hM1, hM4, eM⟩ : ∃ M : Nat, 1 ≤ M ∧ M ≤ 4 ∧ 1 + V % 4 = M := ⟨1 + V % 4, by omega, by omega, rfl⟩
  have d1 : (1 : Int32) + (nI V - nI V / 4 * 4) = nI M := by
    rw [e4, pk_rem (by omega) (by decide) (by decide), show (1 : Int32) = nI 1 from rfl, nI_add, eM]
  have dn : nI (nOf m.s) + nI M = nI (nOf m.s + M) := nI_add _ _
  have df : nI f + nI M = nI (f + M) := nI_add _ _
  by_cases gn : 64 ≤ nOf m.s + M
  · have gl : (64 : Int32) ≤ nI (nOf m.s + M) := nI_le (a := 64) gn (by omega)
    simp only [eL_law_681, eL_law_682, eL_law_684, eL_law_685, eL_law_686, eL_law_687, eL_law_689, eL_law_690, eL_law_691, eL_law_692, eL_law_694, eL_law_695, eL_law_697, eL_law_794, d1, dn, gl, (show ¬ (3 : Int32) = 0 by decide), (show ¬ (4 : Int32) = 0 by decide), (show ¬ (16 : Int32) = 0 by decide), (show ¬ (256 : Int32) = 0 by decide), (show ¬ (4096 : Int32) = 0 by decide), (show ¬ (2 : Int32) = 0 by decide), (show ¬ (1 : Int32) = 0 by decide), (show ¬ (1000 : Int32) = 0 by decide), (show ¬ (10 : Int32) = 0 by decide), mI_lm0, mI_lm, mJ_lm, wR_lm, wR_lm0, wL_lm, qArr_lm, l19, l29, l39, l49, l59, l69, l79, l89, wI_def, up2_at, up2_2, pk_us, j10, j20, j21, j30, j31, j32, j40, j41, j42, j43, j50, j51, j52, j53, j54, j60, j70, j71, j80, j01, j02, j03, j04, j05, j06, j07, j08, j12, j13, j14, j15, j23, j24, j25, j34, j35, j45, j56, j57, j58, j65, j67, j68, j75, j76, j78, j85, j86, j87, ite_false_, ite_true_, qA_iA s0, v0 (show 0 < 21 by decide), ci0, g0, one0, eq_self, or_true, true_or, not_true_eq_false, not_false_eq_true, true_imp_iff, false_imp_iff, true_and, and_true, Classical.not_not]
    exact hk ν _ I J _ _ _ _ _ _ _ _ _ (SoV_mono (by omega) (by omega) hν) kk (by omega) (by omega)
  · have gl : ¬ (64 : Int32) ≤ nI (nOf m.s + M) := nI_ge (b := 64) (by omega) (by decide)
    have a1 : inR (nI M) 1 20 := ⟨nI_le (a := 1) hM1 (by omega), nI_le (b := 20) (by omega) (by decide)⟩
    by_cases gf : 20 < f + M
    · have gfl : ¬ nI (f + M) ≤ 20 := nI_ge (a := 20) (by omega) (by omega)
      simp only [eL_law_681, eL_law_682, eL_law_684, eL_law_685, eL_law_686, eL_law_687, eL_law_689, eL_law_690, eL_law_691, eL_law_692, eL_law_694, eL_law_695, eL_law_697, eL_law_700, eL_law_702, eL_law_703, eL_law_704, eL_law_706, eL_law_707, eL_law_709, eL_law_712, eL_law_713, eL_law_716, eL_law_717, eL_law_719, eL_law_720, d1, dn, df, gl, gfl, (show ¬ (3 : Int32) = 0 by decide), (show ¬ (4 : Int32) = 0 by decide), (show ¬ (16 : Int32) = 0 by decide), (show ¬ (256 : Int32) = 0 by decide), (show ¬ (4096 : Int32) = 0 by decide), (show ¬ (2 : Int32) = 0 by decide), (show ¬ (1 : Int32) = 0 by decide), (show ¬ (1000 : Int32) = 0 by decide), (show ¬ (10 : Int32) = 0 by decide), mI_lm0, mI_lm, mJ_lm, wR_lm, wR_lm0, wL_lm, qArr_lm, l19, l29, l39, l49, l59, l69, l79, l89, wI_def, up2_at, up2_2, pk_us, j10, j20, j21, j30, j31, j32, j40, j41, j42, j43, j50, j51, j52, j53, j54, j60, j70, j71, j80, j01, j02, j03, j04, j05, j06, j07, j08, j12, j13, j14, j15, j23, j24, j25, j34, j35, j45, j56, j57, j58, j65, j67, j68, j75, j76, j78, j85, j86, j87, ite_false_, ite_true_, qA_iA s0, qA_iA s4, v0 (show 0 < 21 by decide), v0 (show 0 < 22 by decide), ci0, g0, f0, one0, eq_self, or_true, true_or, not_true_eq_false, not_false_eq_true, true_imp_iff, false_imp_iff, true_and, and_true, Classical.not_not]
      rw [eL_law_722]
      have lt : ¬ nI M ≤ 0 := nI_nle (by omega) (by omega)
      simp only [eL_law_724, eL_law_726, eL_law_729, eL_law_731, eL_law_734, eL_law_736, eL_law_737, eL_law_738, eL_law_739, eL_law_740, eL_law_743, eL_law_745, eL_law_746, eL_law_747, eL_law_749, eL_law_751, eL_law_753, eL_law_758, eL_law_761, eL_law_764, eL_law_765, lt, one0, one0, eq_self, or_true, true_or, not_true_eq_false, not_false_eq_true, true_imp_iff, false_imp_iff, true_and, and_true, Classical.not_not]
      rw [eL_law_767]
      refine ⟨by simp, by omega, by omega, hP, fun r μ' q => ?_⟩
      have nm : ¬ mayS m.s (nI M) := fun q => by
        have := q.2
        rw [h10, df] at this
        exact gfl this
      obtain ⟨rfl, rfl⟩ := so_f2 (A := fun m => streamA m (nI M)) hν q (by
        show (streamA m (nI M)).2.f 6 = 2
        unfold streamA
        rw [if_pos a1, if_neg nm]
        exact fai6)
      simp only [eL_law_770, eL_law_772, eL_law_775, eL_law_777, eL_law_780, eL_law_782, eL_law_783, eL_law_784, eL_law_787, eL_law_788, eL_law_791, eL_law_792, eL_law_794, one0, one0, eq_self, or_true, true_or, not_true_eq_false, not_false_eq_true, true_imp_iff, false_imp_iff, true_and, and_true, Classical.not_not]
      exact hk ν _ I J _ _ _ _ _ _ _ _ _ (SoV_mono (by omega) (by omega) hν) kk (by omega) (by omega)
    · have gfl : nI (f + M) ≤ 20 := nI_le (b := 20) (by omega) (by decide)
      simp only [eL_law_681, eL_law_682, eL_law_684, eL_law_685, eL_law_686, eL_law_687, eL_law_689, eL_law_690, eL_law_691, eL_law_692, eL_law_694, eL_law_695, eL_law_697, eL_law_700, eL_law_702, eL_law_703, eL_law_704, eL_law_706, eL_law_707, eL_law_709, eL_law_712, eL_law_713, eL_law_716, eL_law_717, eL_law_719, eL_law_720, d1, dn, df, gl, gfl, (show ¬ (3 : Int32) = 0 by decide), (show ¬ (4 : Int32) = 0 by decide), (show ¬ (16 : Int32) = 0 by decide), (show ¬ (256 : Int32) = 0 by decide), (show ¬ (4096 : Int32) = 0 by decide), (show ¬ (2 : Int32) = 0 by decide), (show ¬ (1 : Int32) = 0 by decide), (show ¬ (1000 : Int32) = 0 by decide), (show ¬ (10 : Int32) = 0 by decide), mI_lm0, mI_lm, mJ_lm, wR_lm, wR_lm0, wL_lm, qArr_lm, l19, l29, l39, l49, l59, l69, l79, l89, wI_def, up2_at, up2_2, pk_us, j10, j20, j21, j30, j31, j32, j40, j41, j42, j43, j50, j51, j52, j53, j54, j60, j70, j71, j80, j01, j02, j03, j04, j05, j06, j07, j08, j12, j13, j14, j15, j23, j24, j25, j34, j35, j45, j56, j57, j58, j65, j67, j68, j75, j76, j78, j85, j86, j87, ite_false_, ite_true_, qA_iA s0, qA_iA s4, v0 (show 0 < 21 by decide), v0 (show 0 < 22 by decide), ci0, g0, f0, one0, eq_self, or_true, true_or, not_true_eq_false, not_false_eq_true, true_imp_iff, false_imp_iff, true_and, and_true, Classical.not_not]
      refine lc_5l iv rfl h10 (by omega) (by omega) hM4 hc hs (fun I1 J1 now1 ν1 y23 h1 k1 => ?_) M 0 I J now ν (by omega) hν kk
      simp only [eL_law_764, eL_law_765]
      rw [eL_law_767]
      refine ⟨by simp, by omega, by omega, ⟨H, m, h1.1⟩, fun r μ' q => ?_⟩
      have mm1 : mayS m.s (nI M) := by
        refine ⟨?_, ?_⟩
        · rw [h9, dn]
          exact nI_le (b := 500) (by omega) (by decide)
        · rw [h10, df]
          exact gfl
      have ea : streamA m (nI M) = (strL m.s M 10, savM m (strL m.s M)) := by
        unfold streamA
        rw [if_pos a1, if_pos mm1, nI_clamp (by omega)]
      obtain ⟨ν2, rfl, rfl, h2⟩ := so_up (A := fun m => streamA m (nI M)) hH h1 q (by show (streamA m (nI M)).2.f 6 = 0; rw [ea]; exact sav6)
      simp only [ea] at h2
      clear s0 s1 s2 s3 s4 s5 s6 s7 s8
      obtain ⟨s0, s1, s2, s3, s4, s5, s6, s7, s8⟩ : LaS ν2 (x + 1492) := h2.2
      have g9 : I1 4 0 = strL m.s M 10 := k1.2.2.2.1.1
      simp only [eL_law_770, eL_law_772, eL_law_775, eL_law_777, eL_law_780, eL_law_782, eL_law_783, eL_law_784, eL_law_787, eL_law_788, eL_law_791, eL_law_792, eL_law_794, ea, g9, mI_lm0, mI_lm, mJ_lm, wR_lm, wR_lm0, wL_lm, qArr_lm, l19, l29, l39, l49, l59, l69, l79, l89, wI_def, up2_at, up2_2, pk_us, j10, j20, j21, j30, j31, j32, j40, j41, j42, j43, j50, j51, j52, j53, j54, j60, j70, j71, j80, j01, j02, j03, j04, j05, j06, j07, j08, j12, j13, j14, j15, j23, j24, j25, j34, j35, j45, j56, j57, j58, j65, j67, j68, j75, j76, j78, j85, j86, j87, ite_false_, ite_true_, qA_iA s4, v0 (show 0 < 22 by decide), ci0, one0, one0, eq_self, or_true, true_or, not_true_eq_false, not_false_eq_true, true_imp_iff, false_imp_iff, true_and, and_true, Classical.not_not]
      exact hk ν2 _ _ _ _ _ _ _ _ _ _ _ _ h2 k1 (by omega) (by omega)
theorem no_in {s : Nat → Int32} {k : Nat} (h : s k = 0) : ¬ inL s k 0 := fun q => by
  have := q.2
  rw [h] at this
  exact absurd this (by decide)
theorem is_in {s : Nat → Int32} {k f i : Nat} (h : s k = nI f) (hf : f ≤ 20) (hi : i < f) : inL s k (nI i) := ⟨nI_pos' (by omega), by
  rw [h, show (1 : Int32) = nI 1 from rfl, pk_sub (by omega)]
  exact nI_le (by omega) (by omega)⟩
theorem i0_of {f iN : Nat} (hi : f = 0 ∧ iN = 0 ∨ iN < f) (h : f = 0) : nI iN = 0 := by
  rcases hi with ⟨-, z⟩ | z
  · rw [z]; rfl
  · omega
theorem cat8 {a1 a2 a3 a4 a5 a6 a7 a8 : Nat} : (([Value.ref a1, .ref a2, .ref a3, .ref a4, .ref a5, .ref a6, .ref a7, .ref a8] : List Value).map fun v => v.category).sum ≤ 8 := Nat.le_of_ble_eq_true rfl
/-- the law's take from the forward link -/
theorem take_rows {H x f i : Nat} {m : Mod} {I : Nat → Nat → Int32} {J : Nat → Nat → Int64} {ν : qMM} (hν : SoV H x m I J ν) (h : I 4 0 = nI f) (hf : f ≤ 20) (hi : i < f) : PL_take (x + 1492 + 4) (nI i) (lm ν (x + 1492) I J) ∧ ∀ r μ', QL_take (x + 1492 + 4) (nI i) (lm ν (x + 1492) I J) r μ' → r = I 4 (1 + i) ∧ μ' = lm ν (x + 1492) (up2 I 4 (tkF (I 4) f i)) J := by
  obtain ⟨s0, s1, s2, s3, s4, s5, s6, s7, s8⟩ : LaS ν (x + 1492) := hν.2
  refine ⟨⟨s4, f, i, hf, hi, by rw [mI_lm (by decide)]; exact h, rfl⟩, fun r μ' q => ?_⟩
  obtain ⟨q1, q2⟩ := q
  rw [mI_lm (by decide), nI_clamp (by omega)] at q1
  rw [mI_lm (by decide), nI_clamp (by omega), h, nI_clamp (by omega), wR_lm (by decide)] at q2
  exact ⟨q1, q2⟩
theorem takeb_rows {H x f i : Nat} {m : Mod} {I : Nat → Nat → Int32} {J : Nat → Nat → Int64} {ν : qMM} (hν : SoV H x m I J ν) (h : I 5 0 = nI f) (hf : f ≤ 20) (hi : i < f) : PL_take (x + 1492 + 5) (nI i) (lm ν (x + 1492) I J) ∧ ∀ r μ', QL_take (x + 1492 + 5) (nI i) (lm ν (x + 1492) I J) r μ' → r = I 5 (1 + i) ∧ μ' = lm ν (x + 1492) (up2 I 5 (tkF (I 5) f i)) J := by
  obtain ⟨s0, s1, s2, s3, s4, s5, s6, s7, s8⟩ : LaS ν (x + 1492) := hν.2
  refine ⟨⟨s5, f, i, hf, hi, by rw [mI_lm (by decide)]; exact h, rfl⟩, fun r μ' q => ?_⟩
  obtain ⟨q1, q2⟩ := q
  rw [mI_lm (by decide), nI_clamp (by omega)] at q1
  rw [mI_lm (by decide), nI_clamp (by omega), h, nI_clamp (by omega), wR_lm (by decide)] at q2
  exact ⟨q1, q2⟩
/-- the law's receiving of packet p -/
theorem rec_rows {H H0 x p : Nat} {m : Mod} {I : Nat → Nat → Int32} {J : Nat → Nat → Int64} {ν : qMM} {s g : Nat → Int32} {now : Int64} (hH : H + 15 < 2 ^ 30) (iv : Iv H s) (kk : LwR I J s now) (hν : SoV H0 x m I J ν) (hp : p < nOf s) : PL_receive (x + 1492) (x + 1492 + 1) (x + 1492 + 2) (x + 1492 + 3) (x + 1492 + 6) (x + 1492 + 7) (x + 1492 + 8) (x + 1492 + 5) (nI p) (lm ν (x + 1492) I J) ∧ ∀ r μ', QL_receive (x + 1492) (x + 1492 + 1) (x + 1492 + 2) (x + 1492 + 3) (x + 1492 + 6) (x + 1492 + 7) (x + 1492 + 8) (x + 1492 + 5) (nI p) (lm ν (x + 1492) I J) r μ' → r = outF (lateF s p) g p ∧ ∃ ν', μ' = lm ν' (x + 1492) (rcI I J p) (rcJ I J p) ∧ SoV H0 x m (rcI I J p) (rcJ I J p) ν' ∧ LwR (rcI I J p) (rcJ I J p) (recS s g p) now := by
  have h63 := kk.2.2.2.2.2.2
  obtain ⟨r1, r2, r3⟩ := rc_ok (g := g) hH iv kk hp
  refine ⟨⟨hν.2, rfl, rfl, rfl, rfl, rfl, rfl, rfl, p, by omega, rfl, RcP_lm r1⟩, fun r μ' q => ?_⟩
  obtain ⟨q1, q2⟩ := q
  rw [nI_clamp (by omega)] at q1 q2
  rw [rcR_lm] at q1
  obtain ⟨ν', a1, a2⟩ := so_la hν q2 rcI_lm rcJ_lm
  exact ⟨q1.trans r2, ν', a1, a2, r3⟩
theorem lc_7 {b L : Nat} {xs : Nat → Int32} {R : Option Value → qMM → Nat × Nat → Prop} {X : String → qMM → Nat × Nat → Prop} {H x c s : Nat} {m : Mod} {I : Nat → Nat → Int32} {J : Nat → Nat → Int64} {now : Int64} {tu tt z : Int32} {V : Nat} {ν : qMM} (hV : V < 65536) (hν : SoV H x m I J ν) (kk : LwR I J m.s now) (hH : H + 4000 < 2 ^ 30) (hc : c + 1 ≤ 600130) (hs : s + 6 ≤ 7301079) {f iN : Nat} (h10 : m.s 10 = nI f) (hf : f ≤ 20) (hi : f = 0 ∧ iN = 0 ∨ iN < f) (hk : LcK b L xs R X x H c s tu tt z (nI V)) {y18 y20 y21 y22 y23 : Option Value} : EX (SL_law b L xs R X) 885 [some (.ref b), some (.ref x), some (.ref (x + 1492)), some (.ref (x + 1492 + 1)), some (.ref (x + 1492 + 2)), some (.ref (x + 1492 + 3)), some (.ref (x + 1492 + 4)), some (.ref (x + 1492 + 5)), some (.ref (x + 1492 + 6)), some (.ref (x + 1492 + 7)), some (.ref (x + 1492 + 8)), none, none, some (.int (1)), some (.int (tu)), some (.int (tt)), some (.int (z)), some (.int (nI V)), y18, some (.int (nI iN)), y20, y21, y22, y23] [none, none, none, none, none, none, none, none, none, none, none, some (.long (now)), none, none, none, none, none, none, none, none, none, none, none, none] [] (lm ν (x + 1492) I J) (c, s) := by
  have iv : Iv H m.s := HsP_iv hν.1
  have hP : ∃ H m, HsP H (lm ν (x + 1492) I J) x m := ⟨H, m, hν.1⟩
  have e3 : (3 : Int32) = nI 3 := rfl
  have e4 : (4 : Int32) = nI 4 := rfl
  have e16 : (16 : Int32) = nI 16 := rfl
  have e256 : (256 : Int32) = nI 256 := rfl
  obtain ⟨s0, s1, s2, s3, s4, s5, s6, s7, s8⟩ : LaS ν (x + 1492) := hν.2
  have f0 : I 4 0 = nI f := kk.2.2.2.1.1.trans h10
  by_cases gf : f = 0
  · have ei := i0_of hi gf
    have f0' : I 4 0 = 0 := by rw [f0, gf]; rfl
    simp only [eL_law_885, eL_law_887, eL_law_888, eL_law_889, eL_law_892, eL_law_894, eL_law_897, eL_law_898, eL_law_899, eL_law_901, eL_law_903, eL_law_905, eL_law_907, eL_law_909, eL_law_911, eL_law_913, eL_law_921, eL_law_923, eL_law_924, ei, f0', mI_lm0, mI_lm, mJ_lm, wR_lm, wR_lm0, wL_lm, qArr_lm, l19, l29, l39, l49, l59, l69, l79, l89, wI_def, up2_at, up2_2, pk_us, j10, j20, j21, j30, j31, j32, j40, j41, j42, j43, j50, j51, j52, j53, j54, j60, j70, j71, j80, j01, j02, j03, j04, j05, j06, j07, j08, j12, j13, j14, j15, j23, j24, j25, j34, j35, j45, j56, j57, j58, j65, j67, j68, j75, j76, j78, j85, j86, j87, ite_false_, ite_true_, qA_iA s4, v0 (show 0 < 22 by decide), ci0, one0, eq_self, or_true, true_or, not_true_eq_false, not_false_eq_true, true_imp_iff, false_imp_iff, true_and, and_true, Classical.not_not]
    rw [eL_law_926]
    refine ⟨by simp, by omega, by omega, hP, fun r μ' q => ?_⟩
    have nm : ¬ inL m.s 10 0 := no_in (by rw [h10, gf]; rfl)
    obtain ⟨rfl, rfl⟩ := so_f1 (A := fun m => deliverA m 0) hν q (by
      show (deliverA m 0).2.f 6 = 1
      unfold deliverA
      rw [if_neg nm]
      exact fai6)
    simp only [eL_law_929, eL_law_931, eL_law_934, eL_law_935, eL_law_938, eL_law_939, eL_law_941, one0, one0, eq_self, or_true, true_or, not_true_eq_false, not_false_eq_true, true_imp_iff, false_imp_iff, true_and, and_true, Classical.not_not]
    exact hk ν _ I J _ _ _ _ _ _ _ _ _ (SoV_mono (by omega) (by omega) hν) kk (by omega) (by omega)
  · have hlt : iN < f := by omega
    have f0' : ¬ nI f = 0 := nI_ne0 (by omega) (by omega)
    simp only [eL_law_885, eL_law_887, eL_law_888, eL_law_889, eL_law_892, eL_law_894, eL_law_897, eL_law_898, eL_law_899, eL_law_901, eL_law_903, eL_law_905, eL_law_907, eL_law_909, eL_law_911, eL_law_913, f0, f0', mI_lm0, mI_lm, mJ_lm, wR_lm, wR_lm0, wL_lm, qArr_lm, l19, l29, l39, l49, l59, l69, l79, l89, wI_def, up2_at, up2_2, pk_us, j10, j20, j21, j30, j31, j32, j40, j41, j42, j43, j50, j51, j52, j53, j54, j60, j70, j71, j80, j01, j02, j03, j04, j05, j06, j07, j08, j12, j13, j14, j15, j23, j24, j25, j34, j35, j45, j56, j57, j58, j65, j67, j68, j75, j76, j78, j85, j86, j87, ite_false_, ite_true_, qA_iA s4, v0 (show 0 < 22 by decide), ci0, one0, eq_self, or_true, true_or, not_true_eq_false, not_false_eq_true, true_imp_iff, false_imp_iff, true_and, and_true, Classical.not_not]
    obtain ⟨t1, t2⟩ := take_rows hν f0 hf hlt
    rw [eL_law_915]
    refine ⟨cat8, by omega, by omega, t1, fun r μ' q => ?_⟩
    obtain ⟨rfl, rfl⟩ := t2 r μ' q
    obtain ⟨p, hp, ep⟩ := Iv_dl iv h10 hf hlt
    have er : I 4 (1 + iN) = nI p := (kk.2.2.2.1.2 iN (by rw [h10, nI_clamp (by omega)]; exact hlt)).trans ep
    have k1 := take10_ok (I' := up2 I 4 (tkF (I 4) f iN)) iv kk h10 hf hlt (fun k hk => up2_n hk) up2_s
    have iv1 := Iv_take10 h10 hf hlt iv
    have n1 : nOf (takeF m.s 10 iN) = nOf m.s := nOfE (take_o (by omega))
    obtain ⟨q1, q2⟩ := rec_rows (g := m.g) (by omega) iv1 k1 (so_lm hν) (show p < nOf (takeF m.s 10 iN) by rw [n1]; exact hp)
    rw [er, eL_law_918]
    refine ⟨by simp, by omega, by omega, q1, fun r μ' q => ?_⟩
    obtain ⟨rfl, ν1, rfl, h1, k2⟩ := q2 r μ' q
    simp only [eL_law_921, eL_law_923, eL_law_924]
    rw [eL_law_926]
    refine ⟨by simp, by omega, by omega, ⟨H, m, h1.1⟩, fun r μ' q => ?_⟩
    have mm1 := is_in h10 hf hlt
    have cp : (m.s (11 + iN)).toNatClampNeg = p := by rw [ep, nI_clamp (by have := kk.2.2.2.2.2.2; omega)]
    have ea := dlv_a mm1 (show iN < 2 ^ 31 by omega) cp
    obtain ⟨ν2, rfl, rfl, h2⟩ := so_up (A := fun m => deliverA m (nI iN)) hH h1 q ea.2.2
    simp only [eL_law_929, eL_law_931, eL_law_934, eL_law_935, eL_law_938, eL_law_939, eL_law_941, ea.1, one0, one0, eq_self, or_true, true_or, not_true_eq_false, not_false_eq_true, true_imp_iff, false_imp_iff, true_and, and_true, Classical.not_not]
    exact hk ν2 _ _ _ _ _ _ _ _ _ _ _ _ h2 (by rw [ea.2.1]; exact k2) (by omega) (by omega)
theorem lc_8 {b L : Nat} {xs : Nat → Int32} {R : Option Value → qMM → Nat × Nat → Prop} {X : String → qMM → Nat × Nat → Prop} {H x c s : Nat} {m : Mod} {I : Nat → Nat → Int32} {J : Nat → Nat → Int64} {now : Int64} {tu tt z : Int32} {V : Nat} {ν : qMM} (hV : V < 65536) (hν : SoV H x m I J ν) (kk : LwR I J m.s now) (hH : H + 4000 < 2 ^ 30) (hc : c + 1 ≤ 600130) (hs : s + 6 ≤ 7301079) {f iN : Nat} (h10 : m.s 10 = nI f) (hf : f ≤ 20) (hi : f = 0 ∧ iN = 0 ∨ iN < f) (hk : LcK b L xs R X x H c s tu tt z (nI V)) {y18 y20 y21 y22 y23 : Option Value} : EX (SL_law b L xs R X) 951 [some (.ref b), some (.ref x), some (.ref (x + 1492)), some (.ref (x + 1492 + 1)), some (.ref (x + 1492 + 2)), some (.ref (x + 1492 + 3)), some (.ref (x + 1492 + 4)), some (.ref (x + 1492 + 5)), some (.ref (x + 1492 + 6)), some (.ref (x + 1492 + 7)), some (.ref (x + 1492 + 8)), none, none, some (.int (1)), some (.int (tu)), some (.int (tt)), some (.int (z)), some (.int (nI V)), y18, some (.int (nI iN)), y20, y21, y22, y23] [none, none, none, none, none, none, none, none, none, none, none, some (.long (now)), none, none, none, none, none, none, none, none, none, none, none, none] [] (lm ν (x + 1492) I J) (c, s) := by
  have iv : Iv H m.s := HsP_iv hν.1
  have hP : ∃ H m, HsP H (lm ν (x + 1492) I J) x m := ⟨H, m, hν.1⟩
  have e3 : (3 : Int32) = nI 3 := rfl
  have e4 : (4 : Int32) = nI 4 := rfl
  have e16 : (16 : Int32) = nI 16 := rfl
  have e256 : (256 : Int32) = nI 256 := rfl
  have f0 : I 4 0 = nI f := kk.2.2.2.1.1.trans h10
  simp only [eL_law_951, eL_law_952]
  by_cases gf : f = 0
  · have ei := i0_of hi gf
    have f0' : I 4 0 = 0 := by rw [f0, gf]; rfl
    rw [ei, eL_law_954]
    refine ⟨by simp, by omega, by omega, hP, fun r μ' q => ?_⟩
    have nm : ¬ inL m.s 10 0 := no_in (by rw [h10, gf]; rfl)
    obtain ⟨rfl, rfl⟩ := so_f1 (A := fun m => loseA m 10 0) hν q (by
      show (loseA m 10 0).2.f 6 = 1
      unfold loseA
      rw [if_neg nm]
      exact fai_f)
    obtain ⟨s0, s1, s2, s3, s4, s5, s6, s7, s8⟩ : LaS ν (x + 1492) := hν.2
    simp only [eL_law_957, eL_law_959, eL_law_960, eL_law_961, eL_law_964, eL_law_966, eL_law_969, eL_law_971, eL_law_976, eL_law_979, eL_law_980, eL_law_983, eL_law_984, eL_law_986, f0', mI_lm0, mI_lm, mJ_lm, wR_lm, wR_lm0, wL_lm, qArr_lm, l19, l29, l39, l49, l59, l69, l79, l89, wI_def, up2_at, up2_2, pk_us, j10, j20, j21, j30, j31, j32, j40, j41, j42, j43, j50, j51, j52, j53, j54, j60, j70, j71, j80, j01, j02, j03, j04, j05, j06, j07, j08, j12, j13, j14, j15, j23, j24, j25, j34, j35, j45, j56, j57, j58, j65, j67, j68, j75, j76, j78, j85, j86, j87, ite_false_, ite_true_, qA_iA s4, v0 (show 0 < 22 by decide), ci0, one0, one0, eq_self, or_true, true_or, not_true_eq_false, not_false_eq_true, true_imp_iff, false_imp_iff, true_and, and_true, Classical.not_not]
    exact hk ν _ I J _ _ _ _ _ _ _ _ _ (SoV_mono (by omega) (by omega) hν) kk (by omega) (by omega)
  · have hlt : iN < f := by omega
    have f0' : ¬ nI f = 0 := nI_ne0 (by omega) (by omega)
    have mm1 := is_in h10 hf hlt
    have ea := los_a mm1 (show iN < 2 ^ 31 by omega)
    rw [eL_law_954]
    refine ⟨by simp, by omega, by omega, hP, fun r μ' q => ?_⟩
    obtain ⟨ν1, rfl, rfl, h1⟩ := so_up (A := fun m => loseA m 10 (nI iN)) hH hν q ea.2.2
    obtain ⟨s0, s1, s2, s3, s4, s5, s6, s7, s8⟩ : LaS ν1 (x + 1492) := h1.2
    simp only [eL_law_957, eL_law_959, eL_law_960, eL_law_961, eL_law_964, eL_law_966, eL_law_969, eL_law_971, ea.1, f0, f0', mI_lm0, mI_lm, mJ_lm, wR_lm, wR_lm0, wL_lm, qArr_lm, l19, l29, l39, l49, l59, l69, l79, l89, wI_def, up2_at, up2_2, pk_us, j10, j20, j21, j30, j31, j32, j40, j41, j42, j43, j50, j51, j52, j53, j54, j60, j70, j71, j80, j01, j02, j03, j04, j05, j06, j07, j08, j12, j13, j14, j15, j23, j24, j25, j34, j35, j45, j56, j57, j58, j65, j67, j68, j75, j76, j78, j85, j86, j87, ite_false_, ite_true_, qA_iA s4, v0 (show 0 < 22 by decide), ci0, one0, one0, eq_self, or_true, true_or, not_true_eq_false, not_false_eq_true, true_imp_iff, false_imp_iff, true_and, and_true, Classical.not_not]
    obtain ⟨t1, t2⟩ := take_rows h1 f0 hf hlt
    rw [eL_law_973]
    refine ⟨by simp, by omega, by omega, t1, fun r μ' q => ?_⟩
    obtain ⟨rfl, rfl⟩ := t2 r μ' q
    have er : I 4 (1 + iN) = m.s (10 + 1 + iN) := kk.2.2.2.1.2 iN (by rw [h10, nI_clamp (by omega)]; exact hlt)
    have k1 := take10_ok (I' := up2 I 4 (tkF (I 4) f iN)) iv kk h10 hf hlt (fun k hk => up2_n hk) up2_s
    simp only [eL_law_976, eL_law_979, eL_law_980, eL_law_983, eL_law_984, eL_law_986, er, one0, one0, eq_self, or_true, true_or, not_true_eq_false, not_false_eq_true, true_imp_iff, false_imp_iff, true_and, and_true, Classical.not_not]
    exact hk ν1 _ _ J _ _ _ _ _ _ _ _ _ (so_lm h1) (by rw [ea.2.1]; exact k1) (by omega) (by omega)
theorem lc_11 {b L : Nat} {xs : Nat → Int32} {R : Option Value → qMM → Nat × Nat → Prop} {X : String → qMM → Nat × Nat → Prop} {H x c s : Nat} {m : Mod} {I : Nat → Nat → Int32} {J : Nat → Nat → Int64} {now : Int64} {tu tt z : Int32} {V : Nat} {ν : qMM} (hV : V < 65536) (hν : SoV H x m I J ν) (kk : LwR I J m.s now) (hH : H + 4000 < 2 ^ 30) (hc : c + 1 ≤ 600130) (hs : s + 6 ≤ 7301079) {f iN : Nat} (h10 : m.s 31 = nI f) (hf : f ≤ 20) (hi : f = 0 ∧ iN = 0 ∨ iN < f) (hk : LcK b L xs R X x H c s tu tt z (nI V)) {y18 y19 y21 y22 y23 : Option Value} : EX (SL_law b L xs R X) 1186 [some (.ref b), some (.ref x), some (.ref (x + 1492)), some (.ref (x + 1492 + 1)), some (.ref (x + 1492 + 2)), some (.ref (x + 1492 + 3)), some (.ref (x + 1492 + 4)), some (.ref (x + 1492 + 5)), some (.ref (x + 1492 + 6)), some (.ref (x + 1492 + 7)), some (.ref (x + 1492 + 8)), none, none, some (.int (1)), some (.int (tu)), some (.int (tt)), some (.int (z)), some (.int (nI V)), y18, y19, some (.int (nI iN)), y21, y22, y23] [none, none, none, none, none, none, none, none, none, none, none, some (.long (now)), none, none, none, none, none, none, none, none, none, none, none, none] [] (lm ν (x + 1492) I J) (c, s) := by
  have iv : Iv H m.s := HsP_iv hν.1
  have hP : ∃ H m, HsP H (lm ν (x + 1492) I J) x m := ⟨H, m, hν.1⟩
  have e3 : (3 : Int32) = nI 3 := rfl
  have e4 : (4 : Int32) = nI 4 := rfl
  have e16 : (16 : Int32) = nI 16 := rfl
  have e256 : (256 : Int32) = nI 256 := rfl
  have f0 : I 5 0 = nI f := kk.2.2.2.2.1.1.trans h10
  simp only [eL_law_1186, eL_law_1187]
  by_cases gf : f = 0
  · have ei := i0_of hi gf
    have f0' : I 5 0 = 0 := by rw [f0, gf]; rfl
    rw [ei, eL_law_1189]
    refine ⟨by simp, by omega, by omega, hP, fun r μ' q => ?_⟩
    have nm : ¬ inL m.s 31 0 := no_in (by rw [h10, gf]; rfl)
    obtain ⟨rfl, rfl⟩ := so_f1 (A := fun m => loseA m 31 0) hν q (by
      show (loseA m 31 0).2.f 6 = 1
      unfold loseA
      rw [if_neg nm]
      exact fai_f)
    obtain ⟨s0, s1, s2, s3, s4, s5, s6, s7, s8⟩ : LaS ν (x + 1492) := hν.2
    simp only [eL_law_1192, eL_law_1194, eL_law_1195, eL_law_1196, eL_law_1199, eL_law_1201, eL_law_1204, eL_law_1206, eL_law_1211, eL_law_1214, eL_law_1215, eL_law_1218, eL_law_1219, eL_law_1221, f0', mI_lm0, mI_lm, mJ_lm, wR_lm, wR_lm0, wL_lm, qArr_lm, l19, l29, l39, l49, l59, l69, l79, l89, wI_def, up2_at, up2_2, pk_us, j10, j20, j21, j30, j31, j32, j40, j41, j42, j43, j50, j51, j52, j53, j54, j60, j70, j71, j80, j01, j02, j03, j04, j05, j06, j07, j08, j12, j13, j14, j15, j23, j24, j25, j34, j35, j45, j56, j57, j58, j65, j67, j68, j75, j76, j78, j85, j86, j87, ite_false_, ite_true_, qA_iA s5, v0 (show 0 < 22 by decide), ci0, one0, one0, eq_self, or_true, true_or, not_true_eq_false, not_false_eq_true, true_imp_iff, false_imp_iff, true_and, and_true, Classical.not_not]
    exact hk ν _ I J _ _ _ _ _ _ _ _ _ (SoV_mono (by omega) (by omega) hν) kk (by omega) (by omega)
  · have hlt : iN < f := by omega
    have f0' : ¬ nI f = 0 := nI_ne0 (by omega) (by omega)
    have mm1 := is_in h10 hf hlt
    have ea := los_a mm1 (show iN < 2 ^ 31 by omega)
    rw [eL_law_1189]
    refine ⟨by simp, by omega, by omega, hP, fun r μ' q => ?_⟩
    obtain ⟨ν1, rfl, rfl, h1⟩ := so_up (A := fun m => loseA m 31 (nI iN)) hH hν q ea.2.2
    obtain ⟨s0, s1, s2, s3, s4, s5, s6, s7, s8⟩ : LaS ν1 (x + 1492) := h1.2
    simp only [eL_law_1192, eL_law_1194, eL_law_1195, eL_law_1196, eL_law_1199, eL_law_1201, eL_law_1204, eL_law_1206, ea.1, f0, f0', mI_lm0, mI_lm, mJ_lm, wR_lm, wR_lm0, wL_lm, qArr_lm, l19, l29, l39, l49, l59, l69, l79, l89, wI_def, up2_at, up2_2, pk_us, j10, j20, j21, j30, j31, j32, j40, j41, j42, j43, j50, j51, j52, j53, j54, j60, j70, j71, j80, j01, j02, j03, j04, j05, j06, j07, j08, j12, j13, j14, j15, j23, j24, j25, j34, j35, j45, j56, j57, j58, j65, j67, j68, j75, j76, j78, j85, j86, j87, ite_false_, ite_true_, qA_iA s5, v0 (show 0 < 22 by decide), ci0, one0, one0, eq_self, or_true, true_or, not_true_eq_false, not_false_eq_true, true_imp_iff, false_imp_iff, true_and, and_true, Classical.not_not]
    obtain ⟨t1, t2⟩ := takeb_rows h1 f0 hf hlt
    rw [eL_law_1208]
    refine ⟨by simp, by omega, by omega, t1, fun r μ' q => ?_⟩
    obtain ⟨rfl, rfl⟩ := t2 r μ' q
    have er : I 5 (1 + iN) = m.s (31 + 1 + iN) := kk.2.2.2.2.1.2 iN (by rw [h10, nI_clamp (by omega)]; exact hlt)
    have k1 := take31_ok (I' := up2 I 5 (tkF (I 5) f iN)) iv kk h10 hf hlt (fun k hk => up2_n hk) up2_s
    simp only [eL_law_1211, eL_law_1214, eL_law_1215, eL_law_1218, eL_law_1219, eL_law_1221, er, one0, one0, eq_self, or_true, true_or, not_true_eq_false, not_false_eq_true, true_imp_iff, false_imp_iff, true_and, and_true, Classical.not_not]
    exact hk ν1 _ _ J _ _ _ _ _ _ _ _ _ (so_lm h1) (by rw [ea.2.1]; exact k1) (by omega) (by omega)
theorem lc_9 {b L : Nat} {xs : Nat → Int32} {R : Option Value → qMM → Nat × Nat → Prop} {X : String → qMM → Nat × Nat → Prop} {H x c s : Nat} {m : Mod} {I : Nat → Nat → Int32} {J : Nat → Nat → Int64} {now : Int64} {tu tt z : Int32} {V : Nat} {ν : qMM} (hV : V < 65536) (hν : SoV H x m I J ν) (kk : LwR I J m.s now) (hH : H + 4000 < 2 ^ 30) (hc : c + 1 ≤ 600130) (hs : s + 6 ≤ 7301079) {f iN : Nat} (h10 : m.s 10 = nI f) (hf : f ≤ 20) (hi : f = 0 ∧ iN = 0 ∨ iN < f) (hk : LcK b L xs R X x H c s tu tt z (nI V)) {y18 y20 y21 y22 y23 : Option Value} : EX (SL_law b L xs R X) 996 [some (.ref b), some (.ref x), some (.ref (x + 1492)), some (.ref (x + 1492 + 1)), some (.ref (x + 1492 + 2)), some (.ref (x + 1492 + 3)), some (.ref (x + 1492 + 4)), some (.ref (x + 1492 + 5)), some (.ref (x + 1492 + 6)), some (.ref (x + 1492 + 7)), some (.ref (x + 1492 + 8)), none, none, some (.int (1)), some (.int (tu)), some (.int (tt)), some (.int (z)), some (.int (nI V)), y18, some (.int (nI iN)), y20, y21, y22, y23] [none, none, none, none, none, none, none, none, none, none, none, some (.long (now)), none, none, none, none, none, none, none, none, none, none, none, none] [] (lm ν (x + 1492) I J) (c, s) := by
  have iv : Iv H m.s := HsP_iv hν.1
  have hP : ∃ H m, HsP H (lm ν (x + 1492) I J) x m := ⟨H, m, hν.1⟩
  have e3 : (3 : Int32) = nI 3 := rfl
  have e4 : (4 : Int32) = nI 4 := rfl
  have e16 : (16 : Int32) = nI 16 := rfl
  have e256 : (256 : Int32) = nI 256 := rfl
  obtain ⟨s0, s1, s2, s3, s4, s5, s6, s7, s8⟩ : LaS ν (x + 1492) := hν.2
  have f0 : I 4 0 = nI f := kk.2.2.2.1.1.trans h10
  by_cases gf : f = 0
  · have ei := i0_of hi gf
    have f0' : I 4 0 = 0 := by rw [f0, gf]; rfl
    simp only [eL_law_996, eL_law_998, eL_law_999, eL_law_1000, eL_law_1003, eL_law_1005, eL_law_1008, eL_law_1010, eL_law_1011, eL_law_1012, eL_law_1014, eL_law_1017, eL_law_1019, eL_law_1022, eL_law_1024, eL_law_1025, eL_law_1026, eL_law_1027, eL_law_1028, eL_law_1030, eL_law_1032, eL_law_1035, eL_law_1037, eL_law_1038, eL_law_1039, eL_law_1040, eL_law_1041, eL_law_1042, eL_law_1043, eL_law_1045, eL_law_1047, eL_law_1048, eL_law_1049, eL_law_1051, eL_law_1052, eL_law_1054, eL_law_1055, eL_law_1056, eL_law_1057, eL_law_1058, ei, f0', (show (-100001 : Int32) ≤ 0 by decide), mI_lm0, mI_lm, mJ_lm, wR_lm, wR_lm0, wL_lm, qArr_lm, l19, l29, l39, l49, l59, l69, l79, l89, wI_def, up2_at, up2_2, pk_us, j10, j20, j21, j30, j31, j32, j40, j41, j42, j43, j50, j51, j52, j53, j54, j60, j70, j71, j80, j01, j02, j03, j04, j05, j06, j07, j08, j12, j13, j14, j15, j23, j24, j25, j34, j35, j45, j56, j57, j58, j65, j67, j68, j75, j76, j78, j85, j86, j87, ite_false_, ite_true_, qA_iA s4, v0 (show 0 < 22 by decide), ci0, one0, eq_self, or_true, true_or, not_true_eq_false, not_false_eq_true, true_imp_iff, false_imp_iff, true_and, and_true, Classical.not_not]
    rw [eL_law_1060]
    refine ⟨by simp, by omega, by omega, hP, fun r μ' q => ?_⟩
    have nm : ¬ inL m.s 10 0 := no_in (by rw [h10, gf]; rfl)
    have e1 : cpyR m.s 0 = 1 := by
      unfold cpyR
      rw [if_neg nm]
    obtain ⟨rfl, rfl⟩ := so_f1 (A := fun m => copyA m 0) hν q (by
      show (copyA m 0).2.f 6 = 1
      unfold copyA
      rw [e1, if_neg (by decide)]
      exact fai_f)
    simp only [eL_law_1063, eL_law_1065, eL_law_1068, eL_law_1069, eL_law_1072, eL_law_1073, eL_law_1075, one0, one0, eq_self, or_true, true_or, not_true_eq_false, not_false_eq_true, true_imp_iff, false_imp_iff, true_and, and_true, Classical.not_not]
    exact hk ν _ I J _ _ _ _ _ _ _ _ _ (SoV_mono (by omega) (by omega) hν) kk (by omega) (by omega)
  · have hlt : iN < f := by omega
    have mm1 := is_in h10 hf hlt
    by_cases g20 : f = 20
    · subst g20
      have f0' : I 4 0 = 20 := f0
      simp only [eL_law_996, eL_law_998, eL_law_999, eL_law_1000, eL_law_1003, eL_law_1005, eL_law_1008, eL_law_1010, eL_law_1011, eL_law_1012, eL_law_1014, eL_law_1017, eL_law_1019, eL_law_1022, eL_law_1024, eL_law_1025, eL_law_1026, eL_law_1027, eL_law_1028, eL_law_1030, eL_law_1032, eL_law_1035, eL_law_1037, eL_law_1038, eL_law_1039, eL_law_1040, eL_law_1041, eL_law_1042, eL_law_1043, eL_law_1045, eL_law_1047, eL_law_1048, eL_law_1049, eL_law_1051, eL_law_1052, eL_law_1054, eL_law_1055, eL_law_1056, eL_law_1057, eL_law_1058, f0', (show ¬ (20 : Int32) = 0 by decide), (show (-100003 : Int32) ≤ 0 by decide), mI_lm0, mI_lm, mJ_lm, wR_lm, wR_lm0, wL_lm, qArr_lm, l19, l29, l39, l49, l59, l69, l79, l89, wI_def, up2_at, up2_2, pk_us, j10, j20, j21, j30, j31, j32, j40, j41, j42, j43, j50, j51, j52, j53, j54, j60, j70, j71, j80, j01, j02, j03, j04, j05, j06, j07, j08, j12, j13, j14, j15, j23, j24, j25, j34, j35, j45, j56, j57, j58, j65, j67, j68, j75, j76, j78, j85, j86, j87, ite_false_, ite_true_, qA_iA s4, v0 (show 0 < 22 by decide), ci0, one0, eq_self, or_true, true_or, not_true_eq_false, not_false_eq_true, true_imp_iff, false_imp_iff, true_and, and_true, Classical.not_not]
      rw [eL_law_1060]
      refine ⟨by simp, by omega, by omega, hP, fun r μ' q => ?_⟩
      have e1 : cpyR m.s (nI iN) = 2 := by
        unfold cpyR
        rw [if_pos mm1, if_pos (by rw [h10]; rfl)]
      obtain ⟨rfl, rfl⟩ := so_f2 (A := fun m => copyA m (nI iN)) hν q (by
        show (copyA m (nI iN)).2.f 6 = 2
        unfold copyA
        rw [e1, if_neg (by decide)]
        exact fai_f)
      simp only [eL_law_1063, eL_law_1065, eL_law_1068, eL_law_1069, eL_law_1072, eL_law_1073, eL_law_1075, one0, one0, eq_self, or_true, true_or, not_true_eq_false, not_false_eq_true, true_imp_iff, false_imp_iff, true_and, and_true, Classical.not_not]
      exact hk ν _ I J _ _ _ _ _ _ _ _ _ (SoV_mono (by omega) (by omega) hν) kk (by omega) (by omega)
    · have z1 : ¬ nI f = 0 := nI_ne0 (by omega) (by omega)
      have z2 : ¬ nI f = 20 := fun q => g20 ((nI_eq (b := 20) (by omega) (by decide)).mp q)
      have z3 : ¬ nI (f + 1) ≤ 0 := nI_nle (by omega) (by omega)
      have c1 : (nI (f + 1)).toNatClampNeg = f + 1 := nI_clamp (by omega)
      have v1 : vp_in (nI (f + 1)) 22 := vpn (by omega) (by decide)
      have ei : (1 : Int32) + nI iN = nI (1 + iN) := nI_add 1 iN
      have vi : vp_in (nI (1 + iN)) 22 := vpn (by omega) (by decide)
      have ci : (nI (1 + iN)).toNatClampNeg = 1 + iN := nI_clamp (by omega)
      have uu : upd (I 4) 0 (nI (f + 1)) (1 + iN) = I 4 (1 + iN) := upd_n (by omega)
      have er : I 4 (1 + iN) = m.s (11 + iN) := kk.2.2.2.1.2 iN (by rw [h10, nI_clamp (by omega)]; exact hlt)
      have e1 : cpyR m.s (nI iN) = 0 := by
        unfold cpyR
        rw [if_pos mm1, if_neg (by rw [h10]; exact z2)]
      have ea := cpy_a e1 (show iN < 2 ^ 31 by omega)
      have ej : joinF 10 (m.s (11 + iN)) m.s 10 = nI (f + 1) := (join_in (by omega) h10).1
      have kj := join10_ok (I' := up2 I 4 (upd (upd (I 4) 0 (nI (f + 1))) (f + 1) (m.s (11 + iN)))) iv kk h10 (show f < 20 by omega) (fun k hk => up2_n hk) up2_s
      simp only [eL_law_996, eL_law_998, eL_law_999, eL_law_1000, eL_law_1003, eL_law_1005, eL_law_1008, eL_law_1010, eL_law_1011, eL_law_1012, eL_law_1014, eL_law_1017, eL_law_1019, eL_law_1022, eL_law_1024, eL_law_1025, eL_law_1026, eL_law_1027, eL_law_1028, eL_law_1030, eL_law_1032, eL_law_1035, eL_law_1037, eL_law_1038, eL_law_1039, eL_law_1040, eL_law_1041, eL_law_1042, eL_law_1043, eL_law_1045, eL_law_1047, eL_law_1048, eL_law_1049, eL_law_1051, eL_law_1052, eL_law_1054, eL_law_1055, eL_law_1056, eL_law_1057, eL_law_1058, f0, z1, z2, nI_1, z3, ei, vi, ci, v1, c1, uu, er, mI_lm0, mI_lm, mJ_lm, wR_lm, wR_lm0, wL_lm, qArr_lm, l19, l29, l39, l49, l59, l69, l79, l89, wI_def, up2_at, up2_2, pk_us, j10, j20, j21, j30, j31, j32, j40, j41, j42, j43, j50, j51, j52, j53, j54, j60, j70, j71, j80, j01, j02, j03, j04, j05, j06, j07, j08, j12, j13, j14, j15, j23, j24, j25, j34, j35, j45, j56, j57, j58, j65, j67, j68, j75, j76, j78, j85, j86, j87, ite_false_, ite_true_, qA_iA s4, v0 (show 0 < 22 by decide), ci0, one0, eq_self, or_true, true_or, not_true_eq_false, not_false_eq_true, true_imp_iff, false_imp_iff, true_and, and_true, Classical.not_not]
      rw [eL_law_1060]
      refine ⟨by simp, by omega, by omega, ⟨H, m, (so_lm hν).1⟩, fun r μ' q => ?_⟩
      obtain ⟨ν1, rfl, rfl, h1⟩ := so_up (A := fun m => copyA m (nI iN)) hH (so_lm hν) q ea.2.2
      simp only [eL_law_1063, eL_law_1065, eL_law_1068, eL_law_1069, eL_law_1072, eL_law_1073, eL_law_1075, ea.1, ej, one0, one0, eq_self, or_true, true_or, not_true_eq_false, not_false_eq_true, true_imp_iff, false_imp_iff, true_and, and_true, Classical.not_not]
      exact hk ν1 _ _ J _ _ _ _ _ _ _ _ _ h1 (by rw [ea.2.1]; exact kj) (by omega) (by omega)
theorem lc_10 {b L : Nat} {xs : Nat → Int32} {R : Option Value → qMM → Nat × Nat → Prop} {X : String → qMM → Nat × Nat → Prop} {H x c s : Nat} {m : Mod} {I : Nat → Nat → Int32} {J : Nat → Nat → Int64} {now : Int64} {tu tt z : Int32} {V : Nat} {ν : qMM} (hV : V < 65536) (hν : SoV H x m I J ν) (kk : LwR I J m.s now) (hH : H + 4000 < 2 ^ 30) (hc : c + 1 ≤ 600130) (hs : s + 6 ≤ 7301079) {f iN : Nat} (h10 : m.s 31 = nI f) (hf : f ≤ 20) (hi : f = 0 ∧ iN = 0 ∨ iN < f) (hk : LcK b L xs R X x H c s tu tt z (nI V)) {y18 y19 y21 y22 y23 : Option Value} : EX (SL_law b L xs R X) 1085 [some (.ref b), some (.ref x), some (.ref (x + 1492)), some (.ref (x + 1492 + 1)), some (.ref (x + 1492 + 2)), some (.ref (x + 1492 + 3)), some (.ref (x + 1492 + 4)), some (.ref (x + 1492 + 5)), some (.ref (x + 1492 + 6)), some (.ref (x + 1492 + 7)), some (.ref (x + 1492 + 8)), none, none, some (.int (1)), some (.int (tu)), some (.int (tt)), some (.int (z)), some (.int (nI V)), y18, y19, some (.int (nI iN)), y21, y22, y23] [none, none, none, none, none, none, none, none, none, none, none, some (.long (now)), none, none, none, none, none, none, none, none, none, none, none, none] [] (lm ν (x + 1492) I J) (c, s) := by
  have iv : Iv H m.s := HsP_iv hν.1
  have hP : ∃ H m, HsP H (lm ν (x + 1492) I J) x m := ⟨H, m, hν.1⟩
  have e3 : (3 : Int32) = nI 3 := rfl
  have e4 : (4 : Int32) = nI 4 := rfl
  have e16 : (16 : Int32) = nI 16 := rfl
  have e256 : (256 : Int32) = nI 256 := rfl
  obtain ⟨s0, s1, s2, s3, s4, s5, s6, s7, s8⟩ : LaS ν (x + 1492) := hν.2
  have f0 : I 5 0 = nI f := kk.2.2.2.2.1.1.trans h10
  by_cases gf : f = 0
  · have ei := i0_of hi gf
    have f0' : I 5 0 = 0 := by rw [f0, gf]; rfl
    simp only [eL_law_1085, eL_law_1087, eL_law_1088, eL_law_1089, eL_law_1092, eL_law_1094, eL_law_1097, eL_law_1099, eL_law_1104, eL_law_1106, eL_law_1108, eL_law_1109, eL_law_1112, eL_law_1113, eL_law_1114, eL_law_1115, eL_law_1116, eL_law_1119, eL_law_1121, eL_law_1124, eL_law_1126, eL_law_1127, eL_law_1128, eL_law_1129, eL_law_1132, eL_law_1134, eL_law_1136, eL_law_1137, eL_law_1140, eL_law_1141, eL_law_1143, eL_law_1144, eL_law_1147, eL_law_1149, eL_law_1151, eL_law_1152, eL_law_1153, eL_law_1156, eL_law_1157, eL_law_1158, eL_law_1159, ei, f0', (show ¬ (-100001 : Int32) = -1 by decide), (show (-100001 : Int32) < 0 by decide), mI_lm0, mI_lm, mJ_lm, wR_lm, wR_lm0, wL_lm, qArr_lm, l19, l29, l39, l49, l59, l69, l79, l89, wI_def, up2_at, up2_2, pk_us, j10, j20, j21, j30, j31, j32, j40, j41, j42, j43, j50, j51, j52, j53, j54, j60, j70, j71, j80, j01, j02, j03, j04, j05, j06, j07, j08, j12, j13, j14, j15, j23, j24, j25, j34, j35, j45, j56, j57, j58, j65, j67, j68, j75, j76, j78, j85, j86, j87, ite_false_, ite_true_, qA_iA s5, v0 (show 0 < 22 by decide), ci0, one0, eq_self, or_true, true_or, not_true_eq_false, not_false_eq_true, true_imp_iff, false_imp_iff, true_and, and_true, Classical.not_not]
    rw [eL_law_1161]
    refine ⟨by simp, by omega, by omega, hP, fun r μ' q => ?_⟩
    have nm : ¬ inL m.s 31 0 := no_in (by rw [h10, gf]; rfl)
    obtain ⟨rfl, rfl⟩ := so_f1 (A := fun m => deliverBackA m 0) hν q (by
      show (deliverBackA m 0).2.f 6 = 1
      unfold deliverBackA
      rw [if_neg nm]
      exact fai_f)
    simp only [eL_law_1164, eL_law_1166, eL_law_1169, eL_law_1170, eL_law_1173, eL_law_1174, eL_law_1176, one0, one0, eq_self, or_true, true_or, not_true_eq_false, not_false_eq_true, true_imp_iff, false_imp_iff, true_and, and_true, Classical.not_not]
    exact hk ν _ I J _ _ _ _ _ _ _ _ _ (SoV_mono (by omega) (by omega) hν) kk (by omega) (by omega)
  · have hlt : iN < f := by omega
    have f0' : ¬ nI f = 0 := nI_ne0 (by omega) (by omega)
    have mm1 := is_in h10 hf hlt
    have ea := ret_a mm1 (show iN < 2 ^ 31 by omega)
    have er : I 5 (1 + iN) = m.s (32 + iN) := kk.2.2.2.2.1.2 iN (by rw [h10, nI_clamp (by omega)]; exact hlt)
    have h63 := kk.2.2.2.2.2.2
    have hv : m.s (32 + iN) = -1 ∨ ∃ y : Nat, y < 2 ^ 31 ∧ m.s (32 + iN) = nI y := by
      obtain ⟨b2, hb2, e2, q⟩ := iv.2.2.1
      have e : b2 = f := (nI_eq (by omega) (by omega)).mp (e2.symm.trans h10)
      subst e
      rcases q iN hlt with q | ⟨y, hy, q⟩
      · exact Or.inl q
      · exact Or.inr ⟨y, by have := hν.1.2.2.1; omega, q⟩
    have iv1 := Iv_take31 h10 hf hlt iv
    have k1 := take31_ok (I' := up2 I 5 (tkF (I 5) f iN)) iv kk h10 hf hlt (fun k hk => up2_n hk) up2_s
    have s9 : takeF m.s 31 iN 9 = m.s 9 := take_o (by omega)
    have u0 : up2 I 5 (tkF (I 5) f iN) 0 = I 0 := up2_n (by decide)
    have u3 : up2 I 5 (tkF (I 5) f iN) 3 = I 3 := up2_n (by decide)
    simp only [eL_law_1085, eL_law_1087, eL_law_1088, eL_law_1089, eL_law_1092, eL_law_1094, eL_law_1097, eL_law_1099, f0, f0', mI_lm0, mI_lm, mJ_lm, wR_lm, wR_lm0, wL_lm, qArr_lm, l19, l29, l39, l49, l59, l69, l79, l89, wI_def, up2_at, up2_2, pk_us, j10, j20, j21, j30, j31, j32, j40, j41, j42, j43, j50, j51, j52, j53, j54, j60, j70, j71, j80, j01, j02, j03, j04, j05, j06, j07, j08, j12, j13, j14, j15, j23, j24, j25, j34, j35, j45, j56, j57, j58, j65, j67, j68, j75, j76, j78, j85, j86, j87, ite_false_, ite_true_, qA_iA s5, v0 (show 0 < 22 by decide), ci0, one0, eq_self, or_true, true_or, not_true_eq_false, not_false_eq_true, true_imp_iff, false_imp_iff, true_and, and_true, Classical.not_not]
    obtain ⟨t1, t2⟩ := takeb_rows hν f0 hf hlt
    rw [eL_law_1101]
    refine ⟨by simp, by omega, by omega, t1, fun r μ' q => ?_⟩
    obtain ⟨rfl, rfl⟩ := t2 r μ' q
    rw [er]
    have fin : ∀ I', LwR I' J (hearF (takeF m.s 31 iN) (m.s (32 + iN))) now → EX (SL_law b L xs R X) 1158 [some (.ref b), some (.ref x), some (.ref (x + 1492)), some (.ref (x + 1492 + 1)), some (.ref (x + 1492 + 2)), some (.ref (x + 1492 + 3)), some (.ref (x + 1492 + 4)), some (.ref (x + 1492 + 5)), some (.ref (x + 1492 + 6)), some (.ref (x + 1492 + 7)), some (.ref (x + 1492 + 8)), none, none, some (.int (1)), some (.int (tu)), some (.int (tt)), some (.int (z)), some (.int (nI V)), y18, y19, some (.int (nI iN)), some (.int (m.s (32 + iN))), y22, y23] [none, none, none, none, none, none, none, none, none, none, none, some (.long (now)), none, none, none, none, none, none, none, none, none, none, none, none] [] (lm ν (x + 1492) I' J) (c, s) := by
      intro I' k2
      simp only [eL_law_1158, eL_law_1159]
      rw [eL_law_1161]
      refine ⟨by simp, by omega, by omega, ⟨H, m, (so_lm hν).1⟩, fun r μ' q => ?_⟩
      obtain ⟨ν1, rfl, rfl, h1⟩ := so_up (A := fun m => deliverBackA m (nI iN)) hH (so_lm hν) q ea.2.2
      simp only [eL_law_1164, eL_law_1166, eL_law_1169, eL_law_1170, eL_law_1173, eL_law_1174, eL_law_1176, ea.1, one0, one0, eq_self, or_true, true_or, not_true_eq_false, not_false_eq_true, true_imp_iff, false_imp_iff, true_and, and_true, Classical.not_not]
      exact hk ν1 _ _ J _ _ _ _ _ _ _ _ _ h1 (by rw [ea.2.1]; exact k2) (by omega) (by omega)
    rcases hv with hv | ⟨y, hy, hv⟩
    · have k2 := hear_ok (I' := up2 (up2 I 5 (tkF (I 5) f iN)) 0 (upd (I 0) 1 1)) (v := m.s (32 + iN)) iv1 k1 (Or.inl hv) (fun k h0 h3 => up2_n h0) (by rw [up2_s, if_pos hv, u0]) (by rw [up2_n (by decide), if_neg (fun q => q.1 hv)])
      have w1 : vp_in (1 : Int32) 21 := vpn (i := 1) (by decide) (by decide)
      have g := fin _ k2
      rw [hv] at g ⊢
      simp only [eL_law_1104, eL_law_1106, eL_law_1108, eL_law_1109, eL_law_1112, eL_law_1113, eL_law_1114, eL_law_1115, eL_law_1116, mI_lm0, mI_lm, mJ_lm, wR_lm, wR_lm0, wL_lm, qArr_lm, l19, l29, l39, l49, l59, l69, l79, l89, wI_def, up2_at, up2_2, pk_us, j10, j20, j21, j30, j31, j32, j40, j41, j42, j43, j50, j51, j52, j53, j54, j60, j70, j71, j80, j01, j02, j03, j04, j05, j06, j07, j08, j12, j13, j14, j15, j23, j24, j25, j34, j35, j45, j56, j57, j58, j65, j67, j68, j75, j76, j78, j85, j86, j87, ite_false_, ite_true_, qA_iA s0, w1, ci1, u0, one0, eq_self, or_true, true_or, not_true_eq_false, not_false_eq_true, true_imp_iff, false_imp_iff, true_and, and_true, Classical.not_not]
      exact g
    · have nm : ¬ nI y = -1 := nI_m1 hy
      have n0 : ¬ nI y < 0 := nI_pos hy
      have g0 : I 0 0 = m.s 9 := kk.2.1.1
      by_cases gl : nI y < m.s 9
      · have hyn : y < nOf m.s := by
          rw [(Iv_n iv).1] at gl
          exact (nI_ltI hy (by omega)).mp gl
        have vy : vp_in (nI y) 64 := vpn (by omega) (by decide)
        have cy : (nI y).toNatClampNeg = y := nI_clamp hy
        have gl' : ¬ m.s 9 ≤ nI y := Int32.not_le.mpr gl
        have ak : I 3 y / 1000 - I 3 y / 1000 / 10 * 10 = akL (I 3) y := rfl
        by_cases ga : akL (I 3) y = 0
        · have k2 := hear_ok (I' := up2 (up2 I 5 (tkF (I 5) f iN)) 3 (upd (I 3) y (I 3 y + 1000))) (v := m.s (32 + iN)) iv1 k1 (Or.inr ⟨y, hy, hv⟩) (fun k h0 h3 => up2_n h3) (by rw [up2_n (by decide), if_neg (by rw [hv]; exact nm)]) (by rw [up2_s, hv, cy, u3, if_pos ⟨nm, by rw [s9]; exact gl, ga⟩])
          have g := fin _ k2
          rw [hv] at g ⊢
          simp only [eL_law_1104, eL_law_1106, eL_law_1108, eL_law_1109, eL_law_1112, eL_law_1113, eL_law_1114, eL_law_1115, eL_law_1116, eL_law_1119, eL_law_1121, eL_law_1124, eL_law_1126, eL_law_1127, eL_law_1128, eL_law_1129, eL_law_1132, eL_law_1134, eL_law_1136, eL_law_1137, eL_law_1140, eL_law_1141, eL_law_1143, eL_law_1144, eL_law_1147, eL_law_1149, eL_law_1151, eL_law_1152, eL_law_1153, eL_law_1156, eL_law_1157, (show ¬ (3 : Int32) = 0 by decide), (show ¬ (4 : Int32) = 0 by decide), (show ¬ (16 : Int32) = 0 by decide), (show ¬ (256 : Int32) = 0 by decide), (show ¬ (4096 : Int32) = 0 by decide), (show ¬ (2 : Int32) = 0 by decide), (show ¬ (1 : Int32) = 0 by decide), (show ¬ (1000 : Int32) = 0 by decide), (show ¬ (10 : Int32) = 0 by decide), nm, n0, g0, gl', vy, cy, ak, ga, u0, u3, mI_lm0, mI_lm, mJ_lm, wR_lm, wR_lm0, wL_lm, qArr_lm, l19, l29, l39, l49, l59, l69, l79, l89, wI_def, up2_at, up2_2, pk_us, j10, j20, j21, j30, j31, j32, j40, j41, j42, j43, j50, j51, j52, j53, j54, j60, j70, j71, j80, j01, j02, j03, j04, j05, j06, j07, j08, j12, j13, j14, j15, j23, j24, j25, j34, j35, j45, j56, j57, j58, j65, j67, j68, j75, j76, j78, j85, j86, j87, ite_false_, ite_true_, qA_iA s0, qA_iA s3, v0 (show 0 < 21 by decide), ci0, one0, eq_self, or_true, true_or, not_true_eq_false, not_false_eq_true, true_imp_iff, false_imp_iff, true_and, and_true, Classical.not_not]
          exact g
        · have k2 := hear_ok (I' := up2 I 5 (tkF (I 5) f iN)) (v := m.s (32 + iN)) iv1 k1 (Or.inr ⟨y, hy, hv⟩) (fun k h0 h3 => rfl) (by rw [if_neg (by rw [hv]; exact nm)]) (by rw [hv, cy, u3, if_neg (fun q => ga q.2.2)])
          have g := fin _ k2
          rw [hv] at g ⊢
          simp only [eL_law_1104, eL_law_1106, eL_law_1108, eL_law_1109, eL_law_1112, eL_law_1113, eL_law_1114, eL_law_1115, eL_law_1116, eL_law_1119, eL_law_1121, eL_law_1124, eL_law_1126, eL_law_1127, eL_law_1128, eL_law_1129, eL_law_1132, eL_law_1134, eL_law_1136, eL_law_1137, eL_law_1140, eL_law_1141, eL_law_1143, eL_law_1144, eL_law_1147, eL_law_1149, eL_law_1151, eL_law_1152, eL_law_1153, eL_law_1156, eL_law_1157, (show ¬ (3 : Int32) = 0 by decide), (show ¬ (4 : Int32) = 0 by decide), (show ¬ (16 : Int32) = 0 by decide), (show ¬ (256 : Int32) = 0 by decide), (show ¬ (4096 : Int32) = 0 by decide), (show ¬ (2 : Int32) = 0 by decide), (show ¬ (1 : Int32) = 0 by decide), (show ¬ (1000 : Int32) = 0 by decide), (show ¬ (10 : Int32) = 0 by decide), nm, n0, g0, gl', vy, cy, ak, ga, u0, u3, mI_lm0, mI_lm, mJ_lm, wR_lm, wR_lm0, wL_lm, qArr_lm, l19, l29, l39, l49, l59, l69, l79, l89, wI_def, up2_at, up2_2, pk_us, j10, j20, j21, j30, j31, j32, j40, j41, j42, j43, j50, j51, j52, j53, j54, j60, j70, j71, j80, j01, j02, j03, j04, j05, j06, j07, j08, j12, j13, j14, j15, j23, j24, j25, j34, j35, j45, j56, j57, j58, j65, j67, j68, j75, j76, j78, j85, j86, j87, ite_false_, ite_true_, qA_iA s0, qA_iA s3, v0 (show 0 < 21 by decide), ci0, one0, eq_self, or_true, true_or, not_true_eq_false, not_false_eq_true, true_imp_iff, false_imp_iff, true_and, and_true, Classical.not_not]
          exact g
      · have k2 := hear_ok (I' := up2 I 5 (tkF (I 5) f iN)) (v := m.s (32 + iN)) iv1 k1 (Or.inr ⟨y, hy, hv⟩) (fun k h0 h3 => rfl) (by rw [if_neg (by rw [hv]; exact nm)]) (by rw [hv, if_neg (fun q => gl (by rw [← s9]; exact q.2.1))])
        have gl' : m.s 9 ≤ nI y := Int32.not_lt.mp gl
        have g := fin _ k2
        rw [hv] at g ⊢
        simp only [eL_law_1104, eL_law_1106, eL_law_1108, eL_law_1109, eL_law_1112, eL_law_1113, eL_law_1114, eL_law_1115, eL_law_1116, eL_law_1119, eL_law_1121, eL_law_1124, eL_law_1126, eL_law_1127, eL_law_1128, eL_law_1129, nm, n0, g0, gl', u0, mI_lm0, mI_lm, mJ_lm, wR_lm, wR_lm0, wL_lm, qArr_lm, l19, l29, l39, l49, l59, l69, l79, l89, wI_def, up2_at, up2_2, pk_us, j10, j20, j21, j30, j31, j32, j40, j41, j42, j43, j50, j51, j52, j53, j54, j60, j70, j71, j80, j01, j02, j03, j04, j05, j06, j07, j08, j12, j13, j14, j15, j23, j24, j25, j34, j35, j45, j56, j57, j58, j65, j67, j68, j75, j76, j78, j85, j86, j87, ite_false_, ite_true_, qA_iA s0, v0 (show 0 < 21 by decide), ci0, one0, eq_self, or_true, true_or, not_true_eq_false, not_false_eq_true, true_imp_iff, false_imp_iff, true_and, and_true, Classical.not_not]
        exact g
theorem lc_12l {b L : Nat} {xs : Nat → Int32} {R : Option Value → qMM → Nat × Nat → Prop} {X : String → qMM → Nat × Nat → Prop} {H x c s : Nat} {m M : Mod} {now : Int64} {tu tt z v hd N : Int32} (hc : c + 1 ≤ 600130) (hs : s + 6 ≤ 7301079) {y18 y19 y20 y23 : Option Value} (hK : ∀ (I : Nat → Nat → Int32) (J : Nat → Nat → Int64) (ν : qMM) (y22 : Option Value), SoV H x m I J ν → LwR I J M.s now → N = M.s 57 - m.s 57 → EX (SL_law b L xs R X) 1282 [some (.ref b), some (.ref x), some (.ref (x + 1492)), some (.ref (x + 1492 + 1)), some (.ref (x + 1492 + 2)), some (.ref (x + 1492 + 3)), some (.ref (x + 1492 + 4)), some (.ref (x + 1492 + 5)), some (.ref (x + 1492 + 6)), some (.ref (x + 1492 + 7)), some (.ref (x + 1492 + 8)), none, none, some (.int (1)), some (.int (tu)), some (.int (tt)), some (.int (z)), some (.int (v)), y18, y19, y20, some (.int (hd)), y22, y23] [none, none, none, none, none, none, none, none, none, none, none, some (.long (now)), none, none, none, none, none, none, none, none, none, none, none, none] [] (lm ν (x + 1492) I J) (c, s)) : ∀ (k : Nat) (mi : Mod) (Hi : Nat) (cnt : Int32) (I : Nat → Nat → Int32) (J : Nat → Nat → Int64) (ν : qMM) (y22 : Option Value), mi.s 10 = nI k → k ≤ 20 → Iv Hi mi.s → Hi + 15 * k < 2 ^ 30 → LwR I J mi.s now → SoV H x m I J ν → cnt = mi.s 57 - m.s 57 → allM k mi = M → allN k mi cnt = N → EX (SL_law b L xs R X) 1230 [some (.ref b), some (.ref x), some (.ref (x + 1492)), some (.ref (x + 1492 + 1)), some (.ref (x + 1492 + 2)), some (.ref (x + 1492 + 3)), some (.ref (x + 1492 + 4)), some (.ref (x + 1492 + 5)), some (.ref (x + 1492 + 6)), some (.ref (x + 1492 + 7)), some (.ref (x + 1492 + 8)), none, none, some (.int (1)), some (.int (tu)), some (.int (tt)), some (.int (z)), some (.int (v)), y18, y19, y20, some (.int (hd)), y22, y23] [none, none, none, none, none, none, none, none, none, none, none, some (.long (now)), none, none, none, none, none, none, none, none, none, none, none, none] [] (lm ν (x + 1492) I J) (c, s) := by
  intro k
  induction k with
  | zero =>
    intro mi Hi cnt I J ν y22 h10 hk iv hH kk hν hcnt hM hN
    obtain ⟨s0, s1, s2, s3, s4, s5, s6, s7, s8⟩ : LaS ν (x + 1492) := hν.2
    have f0 : I 4 0 = 0 := kk.2.2.2.1.1.trans h10
    have eM : mi = M := hM
    have eN : cnt = N := hN
    subst eM eN
    rw [eL_law_1230]
    simp only [eL_law_1232, eL_law_1233, eL_law_1234, f0, mI_lm0, mI_lm, mJ_lm, wR_lm, wR_lm0, wL_lm, qArr_lm, l19, l29, l39, l49, l59, l69, l79, l89, wI_def, up2_at, up2_2, pk_us, j10, j20, j21, j30, j31, j32, j40, j41, j42, j43, j50, j51, j52, j53, j54, j60, j70, j71, j80, j01, j02, j03, j04, j05, j06, j07, j08, j12, j13, j14, j15, j23, j24, j25, j34, j35, j45, j56, j57, j58, j65, j67, j68, j75, j76, j78, j85, j86, j87, ite_false_, ite_true_, qA_iA s4, v0 (show 0 < 22 by decide), ci0, (show (0 : Int32) ≤ 0 by decide), one0, eq_self, or_true, true_or, not_true_eq_false, not_false_eq_true, true_imp_iff, false_imp_iff, true_and, and_true, Classical.not_not]
    exact hK I J ν _ hν kk hcnt
  | succ k ih =>
    intro mi Hi cnt I J ν y22 h10 hk iv hH kk hν hcnt hM hN
    obtain ⟨s0, s1, s2, s3, s4, s5, s6, s7, s8⟩ : LaS ν (x + 1492) := hν.2
    have f0 : I 4 0 = nI (k + 1) := kk.2.2.2.1.1.trans h10
    have z0 : ¬ nI (k + 1) ≤ 0 := nI_nle (by omega) (by omega)
    rw [eL_law_1230]
    simp only [eL_law_1232, eL_law_1233, eL_law_1234, eL_law_1237, eL_law_1238, eL_law_1239, eL_law_1241, eL_law_1243, eL_law_1245, eL_law_1247, eL_law_1249, eL_law_1251, eL_law_1253, f0, z0, mI_lm0, mI_lm, mJ_lm, wR_lm, wR_lm0, wL_lm, qArr_lm, l19, l29, l39, l49, l59, l69, l79, l89, wI_def, up2_at, up2_2, pk_us, j10, j20, j21, j30, j31, j32, j40, j41, j42, j43, j50, j51, j52, j53, j54, j60, j70, j71, j80, j01, j02, j03, j04, j05, j06, j07, j08, j12, j13, j14, j15, j23, j24, j25, j34, j35, j45, j56, j57, j58, j65, j67, j68, j75, j76, j78, j85, j86, j87, ite_false_, ite_true_, qA_iA s4, v0 (show 0 < 22 by decide), ci0, one0, eq_self, or_true, true_or, not_true_eq_false, not_false_eq_true, true_imp_iff, false_imp_iff, true_and, and_true, Classical.not_not]
    obtain ⟨t1, t2⟩ := take_rows hν f0 hk (show 0 < k + 1 by omega)
    rw [eL_law_1254]
    refine ⟨cat8, by omega, by omega, t1, fun r μ' q => ?_⟩
    obtain ⟨rfl, rfl⟩ := t2 r μ' q
    obtain ⟨p, hp, ep⟩ := Iv_dl iv h10 hk (show 0 < k + 1 by omega)
    have er : I 4 (1 + 0) = nI p := (kk.2.2.2.1.2 0 (by rw [h10, nI_clamp (by omega)]; omega)).trans ep
    have k1 := take10_ok (I' := up2 I 4 (tkF (I 4) (k + 1) 0)) iv kk h10 hk (show 0 < k + 1 by omega) (fun k hk => up2_n hk) up2_s
    have iv1 := Iv_take10 h10 hk (show 0 < k + 1 by omega) iv
    have n1 : nOf (takeF mi.s 10 0) = nOf mi.s := nOfE (take_o (by omega))
    obtain ⟨q1, q2⟩ := rec_rows (g := mi.g) (by omega) iv1 k1 (so_lm hν) (show p < nOf (takeF mi.s 10 0) by rw [n1]; exact hp)
    rw [er, eL_law_1257]
    refine ⟨by simp, by omega, by omega, q1, fun r μ' q => ?_⟩
    obtain ⟨rfl, ν1, rfl, h1, k2⟩ := q2 r μ' q
    have h63 := kk.2.2.2.2.2.2
    have cp : (mi.s 11).toNatClampNeg = p := by
      have : mi.s 11 = nI p := ep
      rw [this, nI_clamp (by omega)]
    have ge : ¬ outF (lateF (takeF mi.s 10 0) p) mi.g p < 0 := by
      rcases out_4 (s := lateF (takeF mi.s 10 0) p) (g := mi.g) (p := p) with e | e | e | e <;> rw [e] <;> decide
    simp only [eL_law_1260, eL_law_1262, eL_law_1264, eL_law_1267, eL_law_1269, eL_law_1272, eL_law_1273, eL_law_1276, eL_law_1277, eL_law_1279, ge, one0, one0, eq_self, or_true, true_or, not_true_eq_false, not_false_eq_true, true_imp_iff, false_imp_iff, true_and, and_true, Classical.not_not]
    have eM : allM (k + 1) mi = allM k (recM (takeM mi 10 0) p) := by
      show allM k (recM (takeM mi 10 0) (mi.s 11).toNatClampNeg) = _
      rw [cp]
    have eN : allN (k + 1) mi cnt = allN k (recM (takeM mi 10 0) p) (cnt + if recA (takeM mi 10 0) p < 2 then 1 else 0) := by
      show allN k (recM (takeM mi 10 0) (mi.s 11).toNatClampNeg) (cnt + if recA (takeM mi 10 0) (mi.s 11).toNatClampNeg < 2 then 1 else 0) = _
      rw [cp]
    rw [eM] at hM
    rw [eN] at hN
    have es : (recM (takeM mi 10 0) p).s = recS (takeF mi.s 10 0) mi.g p := by
      unfold recM takeM
      rw [Mgs, Mss, Mss, Msg]
    have eA : recA (takeM mi 10 0) p = outF (lateF (takeF mi.s 10 0) p) mi.g p := by
      unfold recA takeM
      rw [Mss, Msg]
    have hp9 : nI p < takeF mi.s 10 0 9 := by
      rw [(Iv_n iv1).1, n1]
      exact (nI_ltI (by omega) (by omega)).mpr hp
    refine ih (recM (takeM mi 10 0) p) (Hi + 15) _ _ _ ν1 _ ?_ (by omega) ?_ (by omega) ?_ h1 ?_ hM hN
    · rw [es, rec_o iv1.2.2.1 (Or.inl (by decide)), (take_in hk h10 (show 0 < k + 1 by omega)).1]
      rfl
    · rw [es]
      exact Iv_rec (by omega) iv1 hp9 (by omega)
    · rw [es]
      exact k2
    · rw [es, eA, rec_57 iv1, take_o (by rw [h10, nI_clamp (by omega)]; omega), hcnt]
      exact subadd _ _ _
theorem lc_12 {b L : Nat} {xs : Nat → Int32} {R : Option Value → qMM → Nat × Nat → Prop} {X : String → qMM → Nat × Nat → Prop} {H x c s : Nat} {m : Mod} {I : Nat → Nat → Int32} {J : Nat → Nat → Int64} {now : Int64} {tu tt z : Int32} {V : Nat} {ν : qMM} (hV : V < 65536) (hν : SoV H x m I J ν) (kk : LwR I J m.s now) (hH : H + 4000 < 2 ^ 30) (hc : c + 1 ≤ 600130) (hs : s + 6 ≤ 7301079) (hk : LcK b L xs R X x H c s tu tt z (nI V)) {y18 y19 y20 y21 y22 y23 : Option Value} : EX (SL_law b L xs R X) 1224 [some (.ref b), some (.ref x), some (.ref (x + 1492)), some (.ref (x + 1492 + 1)), some (.ref (x + 1492 + 2)), some (.ref (x + 1492 + 3)), some (.ref (x + 1492 + 4)), some (.ref (x + 1492 + 5)), some (.ref (x + 1492 + 6)), some (.ref (x + 1492 + 7)), some (.ref (x + 1492 + 8)), none, none, some (.int (1)), some (.int (tu)), some (.int (tt)), some (.int (z)), some (.int (nI V)), y18, y19, y20, y21, y22, y23] [none, none, none, none, none, none, none, none, none, none, none, some (.long (now)), none, none, none, none, none, none, none, none, none, none, none, none] [] (lm ν (x + 1492) I J) (c, s) := by
  have iv : Iv H m.s := HsP_iv hν.1
  have hP : ∃ H m, HsP H (lm ν (x + 1492) I J) x m := ⟨H, m, hν.1⟩
  have e3 : (3 : Int32) = nI 3 := rfl
  have e4 : (4 : Int32) = nI 4 := rfl
  have e16 : (16 : Int32) = nI 16 := rfl
  have e256 : (256 : Int32) = nI 256 := rfl
  obtain ⟨s0, s1, s2, s3, s4, s5, s6, s7, s8⟩ : LaS ν (x + 1492) := hν.2
  obtain ⟨h9, f, hf, h10⟩ := Iv_n iv
  have g12 : I 0 12 = m.s 57 := kk.2.1.2.2.2.2.2.2.2.2 12 (by decide) (by decide)
  have w12 : vp_in (12 : Int32) 21 := vpn (i := 12) (by decide) (by decide)
  have c12 : (12 : Int32).toNatClampNeg = 12 := by decide
  simp only [eL_law_1224, eL_law_1225, eL_law_1227, eL_law_1228, g12, mI_lm0, mI_lm, mJ_lm, wR_lm, wR_lm0, wL_lm, qArr_lm, l19, l29, l39, l49, l59, l69, l79, l89, wI_def, up2_at, up2_2, pk_us, j10, j20, j21, j30, j31, j32, j40, j41, j42, j43, j50, j51, j52, j53, j54, j60, j70, j71, j80, j01, j02, j03, j04, j05, j06, j07, j08, j12, j13, j14, j15, j23, j24, j25, j34, j35, j45, j56, j57, j58, j65, j67, j68, j75, j76, j78, j85, j86, j87, ite_false_, ite_true_, qA_iA s0, w12, c12, one0, eq_self, or_true, true_or, not_true_eq_false, not_false_eq_true, true_imp_iff, false_imp_iff, true_and, and_true, Classical.not_not]
  have cf : (m.s 10).toNatClampNeg = f := by rw [h10, nI_clamp (by omega)]
  refine lc_12l (M := allM f (holM m)) (N := allN f (holM m) 0) hc hs (fun I1 J1 ν1 y22 h1 k1 e1 => ?_) f (holM m) H 0 I J ν _ (by rw [hol_s]; exact h10) hf (by rw [hol_s]; exact iv) (by omega) (by rw [hol_s]; exact kk) hν (by rw [hol_s, Int32.sub_self]) rfl rfl
  simp only [eL_law_1282, eL_law_1284, eL_law_1287, one0, one0, eq_self, or_true, true_or, not_true_eq_false, not_false_eq_true, true_imp_iff, false_imp_iff, true_and, and_true, Classical.not_not]
  rw [eL_law_1288]
  refine ⟨by simp, by omega, by omega, so_t h1, ⟨H, m, h1.1⟩, fun r μ' q => ?_⟩
  obtain ⟨ν2, rfl, rfl, h2⟩ := so_upd (A := deliverAllA) hH h1 q
  have ea : (deliverAllA m).1 = (allM f (holM m)).s 57 - m.s 57 := by
    unfold deliverAllA
    rw [cf]
    exact e1
  have eb : (deliverAllA m).2.s = (allM f (holM m)).s := by
    unfold deliverAllA
    rw [cf]
    exact endS
  have g12' : I1 0 12 = (allM f (holM m)).s 57 := k1.2.1.2.2.2.2.2.2.2.2 12 (by decide) (by decide)
  clear s0 s1 s2 s3 s4 s5 s6 s7 s8
  obtain ⟨s0, s1, s2, s3, s4, s5, s6, s7, s8⟩ : LaS ν2 (x + 1492) := h2.2
  simp only [eL_law_1291, eL_law_1292, eL_law_1294, eL_law_1295, eL_law_1297, eL_law_1298, eL_law_1301, eL_law_1302, eL_law_1305, eL_law_1306, ea, g12', mI_lm0, mI_lm, mJ_lm, wR_lm, wR_lm0, wL_lm, qArr_lm, l19, l29, l39, l49, l59, l69, l79, l89, wI_def, up2_at, up2_2, pk_us, j10, j20, j21, j30, j31, j32, j40, j41, j42, j43, j50, j51, j52, j53, j54, j60, j70, j71, j80, j01, j02, j03, j04, j05, j06, j07, j08, j12, j13, j14, j15, j23, j24, j25, j34, j35, j45, j56, j57, j58, j65, j67, j68, j75, j76, j78, j85, j86, j87, ite_false_, ite_true_, qA_iA s0, w12, c12, one0, eq_self, or_true, true_or, not_true_eq_false, not_false_eq_true, true_imp_iff, false_imp_iff, true_and, and_true, Classical.not_not]
  exact hk ν2 _ _ _ _ _ _ _ _ _ _ _ _ h2 (by rw [eb]; exact k1) (by omega) (by omega)
