/-! ===== the law: its cases (by program: wip/p35/gen/lawp.py) ===== -/
theorem lc_0 {b L : Nat} {xs : Nat → Int32} {R : Option Value → qMM → Nat × Nat → Prop} {X : String → qMM → Nat × Nat → Prop} {H x c s : Nat} {m : Mod} {I : Nat → Nat → Int32} {J : Nat → Nat → Int64} {now : Int64} {tu tt z : Int32} {V : Nat} {ν : qMM} (hV : V < 65536) (hν : SoV H x m I J ν) (kk : LwR I J m.s now) (hH : H + 4000 < 2 ^ 30) (hc : c + 1 ≤ 600130) (hs : s + 6 ≤ 7301079) (hk : LcK b L xs R X x H c s tu tt z (nI V)) {y18 y19 y20 y21 y22 y23 : Option Value} : EX (SL_law b L xs R X) 244 [some (.ref b), some (.ref x), some (.ref (x + 1492)), some (.ref (x + 1492 + 1)), some (.ref (x + 1492 + 2)), some (.ref (x + 1492 + 3)), some (.ref (x + 1492 + 4)), some (.ref (x + 1492 + 5)), some (.ref (x + 1492 + 6)), some (.ref (x + 1492 + 7)), some (.ref (x + 1492 + 8)), none, none, some (.int (1)), some (.int (tu)), some (.int (tt)), some (.int (z)), some (.int (nI V)), y18, y19, y20, y21, y22, y23] [none, none, none, none, none, none, none, none, none, none, none, some (.long (now)), none, none, none, none, none, none, none, none, none, none, none, none] [] (lm ν (x + 1492) I J) (c, s) := by
  have iv : Iv H m.s := HsP_iv hν.1
  have hP : ∃ H m, HsP H (lm ν (x + 1492) I J) x m := ⟨H, m, hν.1⟩
  have e3 : (3 : Int32) = nI 3 := rfl
  have e4 : (4 : Int32) = nI 4 := rfl
  have e16 : (16 : Int32) = nI 16 := rfl
  have e256 : (256 : Int32) = nI 256 := rfl
  obtain ⟨F, hF, eF⟩ : ∃ F : Nat, F < 4 ∧ V % 4 = F := ⟨V % 4, by omega, rfl⟩
  have d4 : nI V - nI V / 4 * 4 = nI F := by
    rw [e4, pk_rem (by omega) (by decide) (by decide), eF]
  have d256 : nI V / 4 - nI V / 4 / 256 * 256 = nI (V / 4 % 256) := by
    rw [e4, e256, pk_div (by omega) (by decide) (by decide), pk_rem (by omega) (by decide) (by decide)]
  have d16 : nI V / 4 - nI V / 4 / 16 * 16 = nI (V / 4 % 16) := by
    rw [e4, e16, pk_div (by omega) (by decide) (by decide), pk_rem (by omega) (by decide) (by decide)]
  obtain ⟨p0, p1, p2, p3⟩ := Hd_pt kk.1
  obtain ⟨r0, ⟨Q1, hQ1, eQ1⟩, ⟨Q2, hQ2, eQ2⟩, r3⟩ := Hd_rg kk.1
  rcases (by omega : F = 0 ∨ F = 1 ∨ F = 2 ∨ F = 3) with rfl | rfl | rfl | rfl
  · have d4' : nI V - nI V / 4 * 4 = 0 := d4
    simp only [eL_law_244, eL_law_246, eL_law_247, eL_law_248, eL_law_250, eL_law_252, eL_law_255, eL_law_257, eL_law_258, eL_law_259, eL_law_262, eL_law_263, eL_law_266, eL_law_268, eL_law_269, eL_law_272, eL_law_274, eL_law_275, eL_law_276, eL_law_278, eL_law_279, eL_law_282, eL_law_284, eL_law_286, eL_law_287, eL_law_289, d4', d256, d16, (show ¬ (3 : Int32) = 0 by decide), (show ¬ (4 : Int32) = 0 by decide), (show ¬ (16 : Int32) = 0 by decide), (show ¬ (256 : Int32) = 0 by decide), (show ¬ (4096 : Int32) = 0 by decide), (show ¬ (2 : Int32) = 0 by decide), (show ¬ (1 : Int32) = 0 by decide), (show ¬ (1000 : Int32) = 0 by decide), (show ¬ (10 : Int32) = 0 by decide), (show ¬ (0 : Int32) = 1 by decide), (show ¬ (0 : Int32) = 2 by decide), (show ¬ (0 : Int32) = 3 by decide), one0, eq_self, or_true, true_or, not_true_eq_false, not_false_eq_true, true_imp_iff, false_imp_iff, true_and, and_true, Classical.not_not]
    rw [eL_law_291]
    refine ⟨by simp, by omega, by omega, hP, fun r μ' q => ?_⟩
    have a1 : inR (0 : Int32) 0 3 := by decide
    have a2 : inR (nI (V / 4 % 256)) 0 (greF 0) := inR_N (b := 255) (by omega) (by decide)
    have ea : setFieldA m 0 (nI (V / 4 % 256)) = (m.s 0, savM m (upd m.s 0 (nI (V / 4 % 256)))) := by
      unfold setFieldA
      rw [if_pos a1, if_pos a2]
      rfl
    obtain ⟨ν1, rfl, rfl, h1⟩ := so_up (A := fun m => setFieldA m 0 (nI (V / 4 % 256))) hH hν q (by show (setFieldA m 0 (nI (V / 4 % 256))).2.f 6 = 0; rw [ea]; exact sav6)
    simp only [ea] at h1
    simp only [eL_law_294, eL_law_296, eL_law_298, eL_law_301, eL_law_304, eL_law_305, eL_law_308, eL_law_309, eL_law_311, eL_law_313, eL_law_316, eL_law_318, eL_law_321, eL_law_323, eL_law_324, eL_law_327, eL_law_329, eL_law_330, eL_law_333, eL_law_335, eL_law_338, eL_law_340, eL_law_341, eL_law_344, eL_law_346, eL_law_347, eL_law_350, eL_law_352, eL_law_355, eL_law_357, eL_law_358, eL_law_361, eL_law_363, eL_law_364, eL_law_367, eL_law_369, eL_law_372, eL_law_374, eL_law_375, eL_law_378, eL_law_381, eL_law_383, ea, p0, p1, p2, p3, PL_low, QL_low, PL_header, QL_header, PL_part, QL_part, PL_moved, QL_moved, fEq, List.length_nil, List.length_cons, ll0, ll1, ll2, ll3, ll4, Nat.le_refl, and_true, Nat.add_zero, (show c + 1 ≤ 600130 by omega), (show s + 6 ≤ 7301079 by omega), (show ¬ (3 : Int32) = 0 by decide), (show ¬ (4 : Int32) = 0 by decide), (show ¬ (16 : Int32) = 0 by decide), (show ¬ (256 : Int32) = 0 by decide), (show ¬ (4096 : Int32) = 0 by decide), (show ¬ (2 : Int32) = 0 by decide), (show ¬ (1 : Int32) = 0 by decide), (show ¬ (1000 : Int32) = 0 by decide), (show ¬ (10 : Int32) = 0 by decide), (show ¬ (0 : Int32) = 1 by decide), (show ¬ (0 : Int32) = 2 by decide), (show ¬ (0 : Int32) = 3 by decide), one0, eq_self, or_true, true_or, not_true_eq_false, not_false_eq_true, true_imp_iff, false_imp_iff, true_and, and_true, Classical.not_not]
    refine hk ν1 _ I J _ _ _ _ _ _ _ _ _ h1 ?_ (Nat.le_refl _) (Nat.le_refl _)
    rw [savS]
    refine LwR_now iv (fun j hj => upd_n (by omega)) (Hd_mk ⟨V / 4 % 256, by omega, rfl⟩ r3 ?_ ?_ ?_ ?_) kk
    · rw [upd_s]
    · rw [upd_n (by decide), eQ1, and_id (by omega)]
    · rw [upd_n (by decide), eQ2, and_id (by omega)]
    · exact upd_n (by decide)
  · have d4' : nI V - nI V / 4 * 4 = 1 := d4
    simp only [eL_law_244, eL_law_246, eL_law_247, eL_law_248, eL_law_250, eL_law_252, eL_law_255, eL_law_257, eL_law_258, eL_law_259, eL_law_262, eL_law_263, eL_law_266, eL_law_268, eL_law_269, eL_law_272, eL_law_274, eL_law_275, eL_law_276, eL_law_278, eL_law_279, eL_law_282, eL_law_284, eL_law_286, eL_law_287, eL_law_289, d4', d256, d16, (show ¬ (3 : Int32) = 0 by decide), (show ¬ (4 : Int32) = 0 by decide), (show ¬ (16 : Int32) = 0 by decide), (show ¬ (256 : Int32) = 0 by decide), (show ¬ (4096 : Int32) = 0 by decide), (show ¬ (2 : Int32) = 0 by decide), (show ¬ (1 : Int32) = 0 by decide), (show ¬ (1000 : Int32) = 0 by decide), (show ¬ (10 : Int32) = 0 by decide), (show ¬ (1 : Int32) = 0 by decide), (show ¬ (1 : Int32) = 2 by decide), (show ¬ (1 : Int32) = 3 by decide), one0, eq_self, or_true, true_or, not_true_eq_false, not_false_eq_true, true_imp_iff, false_imp_iff, true_and, and_true, Classical.not_not]
    rw [eL_law_291]
    refine ⟨by simp, by omega, by omega, hP, fun r μ' q => ?_⟩
    have a1 : inR (1 : Int32) 0 3 := by decide
    have a2 : inR (nI (V)) 0 (greF 1) := inR_N (b := 65535) (by omega) (by decide)
    have ea : setFieldA m 1 (nI (V)) = (m.s 1, savM m (upd m.s 1 (nI (V)))) := by
      unfold setFieldA
      rw [if_pos a1, if_pos a2]
      rfl
    obtain ⟨ν1, rfl, rfl, h1⟩ := so_up (A := fun m => setFieldA m 1 (nI (V))) hH hν q (by show (setFieldA m 1 (nI (V))).2.f 6 = 0; rw [ea]; exact sav6)
    simp only [ea] at h1
    simp only [eL_law_294, eL_law_296, eL_law_298, eL_law_301, eL_law_304, eL_law_305, eL_law_308, eL_law_309, eL_law_311, eL_law_313, eL_law_316, eL_law_318, eL_law_321, eL_law_323, eL_law_324, eL_law_327, eL_law_329, eL_law_330, eL_law_333, eL_law_335, eL_law_338, eL_law_340, eL_law_341, eL_law_344, eL_law_346, eL_law_347, eL_law_350, eL_law_352, eL_law_355, eL_law_357, eL_law_358, eL_law_361, eL_law_363, eL_law_364, eL_law_367, eL_law_369, eL_law_372, eL_law_374, eL_law_375, eL_law_378, eL_law_381, eL_law_383, ea, p0, p1, p2, p3, PL_low, QL_low, PL_header, QL_header, PL_part, QL_part, PL_moved, QL_moved, fEq, List.length_nil, List.length_cons, ll0, ll1, ll2, ll3, ll4, Nat.le_refl, and_true, Nat.add_zero, (show c + 1 ≤ 600130 by omega), (show s + 6 ≤ 7301079 by omega), (show ¬ (3 : Int32) = 0 by decide), (show ¬ (4 : Int32) = 0 by decide), (show ¬ (16 : Int32) = 0 by decide), (show ¬ (256 : Int32) = 0 by decide), (show ¬ (4096 : Int32) = 0 by decide), (show ¬ (2 : Int32) = 0 by decide), (show ¬ (1 : Int32) = 0 by decide), (show ¬ (1000 : Int32) = 0 by decide), (show ¬ (10 : Int32) = 0 by decide), (show ¬ (1 : Int32) = 0 by decide), (show ¬ (1 : Int32) = 2 by decide), (show ¬ (1 : Int32) = 3 by decide), one0, eq_self, or_true, true_or, not_true_eq_false, not_false_eq_true, true_imp_iff, false_imp_iff, true_and, and_true, Classical.not_not]
    refine hk ν1 _ I J _ _ _ _ _ _ _ _ _ h1 ?_ (Nat.le_refl _) (Nat.le_refl _)
    rw [savS]
    refine LwR_now iv (fun j hj => upd_n (by omega)) (Hd_mk r0 r3 ?_ ?_ ?_ ?_) kk
    · exact upd_n (by decide)
    · rw [upd_s, and_id (by omega)]
    · rw [upd_n (by decide), eQ2, and_id (by omega)]
    · exact upd_n (by decide)
  · have d4' : nI V - nI V / 4 * 4 = 2 := d4
    simp only [eL_law_244, eL_law_246, eL_law_247, eL_law_248, eL_law_250, eL_law_252, eL_law_255, eL_law_257, eL_law_258, eL_law_259, eL_law_262, eL_law_263, eL_law_266, eL_law_268, eL_law_269, eL_law_272, eL_law_274, eL_law_275, eL_law_276, eL_law_278, eL_law_279, eL_law_282, eL_law_284, eL_law_286, eL_law_287, eL_law_289, d4', d256, d16, (show ¬ (3 : Int32) = 0 by decide), (show ¬ (4 : Int32) = 0 by decide), (show ¬ (16 : Int32) = 0 by decide), (show ¬ (256 : Int32) = 0 by decide), (show ¬ (4096 : Int32) = 0 by decide), (show ¬ (2 : Int32) = 0 by decide), (show ¬ (1 : Int32) = 0 by decide), (show ¬ (1000 : Int32) = 0 by decide), (show ¬ (10 : Int32) = 0 by decide), (show ¬ (2 : Int32) = 0 by decide), (show ¬ (2 : Int32) = 1 by decide), (show ¬ (2 : Int32) = 3 by decide), one0, eq_self, or_true, true_or, not_true_eq_false, not_false_eq_true, true_imp_iff, false_imp_iff, true_and, and_true, Classical.not_not]
    rw [eL_law_291]
    refine ⟨by simp, by omega, by omega, hP, fun r μ' q => ?_⟩
    have a1 : inR (2 : Int32) 0 3 := by decide
    have a2 : inR (nI (V)) 0 (greF 2) := inR_N (b := 65535) (by omega) (by decide)
    have ea : setFieldA m 2 (nI (V)) = (m.s 2, savM m (upd m.s 2 (nI (V)))) := by
      unfold setFieldA
      rw [if_pos a1, if_pos a2]
      rfl
    obtain ⟨ν1, rfl, rfl, h1⟩ := so_up (A := fun m => setFieldA m 2 (nI (V))) hH hν q (by show (setFieldA m 2 (nI (V))).2.f 6 = 0; rw [ea]; exact sav6)
    simp only [ea] at h1
    simp only [eL_law_294, eL_law_296, eL_law_298, eL_law_301, eL_law_304, eL_law_305, eL_law_308, eL_law_309, eL_law_311, eL_law_313, eL_law_316, eL_law_318, eL_law_321, eL_law_323, eL_law_324, eL_law_327, eL_law_329, eL_law_330, eL_law_333, eL_law_335, eL_law_338, eL_law_340, eL_law_341, eL_law_344, eL_law_346, eL_law_347, eL_law_350, eL_law_352, eL_law_355, eL_law_357, eL_law_358, eL_law_361, eL_law_363, eL_law_364, eL_law_367, eL_law_369, eL_law_372, eL_law_374, eL_law_375, eL_law_378, eL_law_381, eL_law_383, ea, p0, p1, p2, p3, PL_low, QL_low, PL_header, QL_header, PL_part, QL_part, PL_moved, QL_moved, fEq, List.length_nil, List.length_cons, ll0, ll1, ll2, ll3, ll4, Nat.le_refl, and_true, Nat.add_zero, (show c + 1 ≤ 600130 by omega), (show s + 6 ≤ 7301079 by omega), (show ¬ (3 : Int32) = 0 by decide), (show ¬ (4 : Int32) = 0 by decide), (show ¬ (16 : Int32) = 0 by decide), (show ¬ (256 : Int32) = 0 by decide), (show ¬ (4096 : Int32) = 0 by decide), (show ¬ (2 : Int32) = 0 by decide), (show ¬ (1 : Int32) = 0 by decide), (show ¬ (1000 : Int32) = 0 by decide), (show ¬ (10 : Int32) = 0 by decide), (show ¬ (2 : Int32) = 0 by decide), (show ¬ (2 : Int32) = 1 by decide), (show ¬ (2 : Int32) = 3 by decide), one0, eq_self, or_true, true_or, not_true_eq_false, not_false_eq_true, true_imp_iff, false_imp_iff, true_and, and_true, Classical.not_not]
    refine hk ν1 _ I J _ _ _ _ _ _ _ _ _ h1 ?_ (Nat.le_refl _) (Nat.le_refl _)
    rw [savS]
    refine LwR_now iv (fun j hj => upd_n (by omega)) (Hd_mk r0 r3 ?_ ?_ ?_ ?_) kk
    · exact upd_n (by decide)
    · rw [upd_n (by decide), eQ1, and_id (by omega)]
    · rw [upd_s, and_id (by omega)]
    · exact upd_n (by decide)
  · have d4' : nI V - nI V / 4 * 4 = 3 := d4
    simp only [eL_law_244, eL_law_246, eL_law_247, eL_law_248, eL_law_250, eL_law_252, eL_law_255, eL_law_257, eL_law_258, eL_law_259, eL_law_262, eL_law_263, eL_law_266, eL_law_268, eL_law_269, eL_law_272, eL_law_274, eL_law_275, eL_law_276, eL_law_278, eL_law_279, eL_law_282, eL_law_284, eL_law_286, eL_law_287, eL_law_289, d4', d256, d16, (show ¬ (3 : Int32) = 0 by decide), (show ¬ (4 : Int32) = 0 by decide), (show ¬ (16 : Int32) = 0 by decide), (show ¬ (256 : Int32) = 0 by decide), (show ¬ (4096 : Int32) = 0 by decide), (show ¬ (2 : Int32) = 0 by decide), (show ¬ (1 : Int32) = 0 by decide), (show ¬ (1000 : Int32) = 0 by decide), (show ¬ (10 : Int32) = 0 by decide), (show ¬ (3 : Int32) = 0 by decide), (show ¬ (3 : Int32) = 1 by decide), (show ¬ (3 : Int32) = 2 by decide), one0, eq_self, or_true, true_or, not_true_eq_false, not_false_eq_true, true_imp_iff, false_imp_iff, true_and, and_true, Classical.not_not]
    rw [eL_law_291]
    refine ⟨by simp, by omega, by omega, hP, fun r μ' q => ?_⟩
    have a1 : inR (3 : Int32) 0 3 := by decide
    have a2 : inR (nI (V / 4 % 16)) 0 (greF 3) := inR_N (b := 15) (by omega) (by decide)
    have ea : setFieldA m 3 (nI (V / 4 % 16)) = (m.s 3, savM m (upd m.s 3 (nI (V / 4 % 16)))) := by
      unfold setFieldA
      rw [if_pos a1, if_pos a2]
      rfl
    obtain ⟨ν1, rfl, rfl, h1⟩ := so_up (A := fun m => setFieldA m 3 (nI (V / 4 % 16))) hH hν q (by show (setFieldA m 3 (nI (V / 4 % 16))).2.f 6 = 0; rw [ea]; exact sav6)
    simp only [ea] at h1
    simp only [eL_law_294, eL_law_296, eL_law_298, eL_law_301, eL_law_304, eL_law_305, eL_law_308, eL_law_309, eL_law_311, eL_law_313, eL_law_316, eL_law_318, eL_law_321, eL_law_323, eL_law_324, eL_law_327, eL_law_329, eL_law_330, eL_law_333, eL_law_335, eL_law_338, eL_law_340, eL_law_341, eL_law_344, eL_law_346, eL_law_347, eL_law_350, eL_law_352, eL_law_355, eL_law_357, eL_law_358, eL_law_361, eL_law_363, eL_law_364, eL_law_367, eL_law_369, eL_law_372, eL_law_374, eL_law_375, eL_law_378, eL_law_381, eL_law_383, ea, p0, p1, p2, p3, PL_low, QL_low, PL_header, QL_header, PL_part, QL_part, PL_moved, QL_moved, fEq, List.length_nil, List.length_cons, ll0, ll1, ll2, ll3, ll4, Nat.le_refl, and_true, Nat.add_zero, (show c + 1 ≤ 600130 by omega), (show s + 6 ≤ 7301079 by omega), (show ¬ (3 : Int32) = 0 by decide), (show ¬ (4 : Int32) = 0 by decide), (show ¬ (16 : Int32) = 0 by decide), (show ¬ (256 : Int32) = 0 by decide), (show ¬ (4096 : Int32) = 0 by decide), (show ¬ (2 : Int32) = 0 by decide), (show ¬ (1 : Int32) = 0 by decide), (show ¬ (1000 : Int32) = 0 by decide), (show ¬ (10 : Int32) = 0 by decide), (show ¬ (3 : Int32) = 0 by decide), (show ¬ (3 : Int32) = 1 by decide), (show ¬ (3 : Int32) = 2 by decide), one0, eq_self, or_true, true_or, not_true_eq_false, not_false_eq_true, true_imp_iff, false_imp_iff, true_and, and_true, Classical.not_not]
    refine hk ν1 _ I J _ _ _ _ _ _ _ _ _ h1 ?_ (Nat.le_refl _) (Nat.le_refl _)
    rw [savS]
    refine LwR_now iv (fun j hj => upd_n (by omega)) (Hd_mk r0 ⟨V / 4 % 16, by omega, rfl⟩ ?_ ?_ ?_ ?_) kk
    · exact upd_n (by decide)
    · rw [upd_n (by decide), eQ1, and_id (by omega)]
    · rw [upd_n (by decide), eQ2, and_id (by omega)]
    · rw [upd_s]
theorem lc_1 {b L : Nat} {xs : Nat → Int32} {R : Option Value → qMM → Nat × Nat → Prop} {X : String → qMM → Nat × Nat → Prop} {H x c s : Nat} {m : Mod} {I : Nat → Nat → Int32} {J : Nat → Nat → Int64} {now : Int64} {tu tt z : Int32} {V : Nat} {ν : qMM} (hV : V < 65536) (hν : SoV H x m I J ν) (kk : LwR I J m.s now) (hH : H + 4000 < 2 ^ 30) (hc : c + 1 ≤ 600130) (hs : s + 6 ≤ 7301079) (hk : LcK b L xs R X x H c s tu tt z (nI V)) {y18 y19 y20 y21 y22 y23 : Option Value} : EX (SL_law b L xs R X) 392 [some (.ref b), some (.ref x), some (.ref (x + 1492)), some (.ref (x + 1492 + 1)), some (.ref (x + 1492 + 2)), some (.ref (x + 1492 + 3)), some (.ref (x + 1492 + 4)), some (.ref (x + 1492 + 5)), some (.ref (x + 1492 + 6)), some (.ref (x + 1492 + 7)), some (.ref (x + 1492 + 8)), none, none, some (.int (1)), some (.int (tu)), some (.int (tt)), some (.int (z)), some (.int (nI V)), y18, y19, y20, y21, y22, y23] [none, none, none, none, none, none, none, none, none, none, none, some (.long (now)), none, none, none, none, none, none, none, none, none, none, none, none] [] (lm ν (x + 1492) I J) (c, s) := by
  have iv : Iv H m.s := HsP_iv hν.1
  have hP : ∃ H m, HsP H (lm ν (x + 1492) I J) x m := ⟨H, m, hν.1⟩
  have e3 : (3 : Int32) = nI 3 := rfl
  have e4 : (4 : Int32) = nI 4 := rfl
  have e16 : (16 : Int32) = nI 16 := rfl
  have e256 : (256 : Int32) = nI 256 := rfl
  have d1 : nI V - nI V / 256 * 256 = nI (V % 256) := by rw [e256, pk_rem (by omega) (by decide) (by decide)]
  have d2 : nI V / 16 = nI (V / 16) := by rw [e16, pk_div (by omega) (by decide) (by decide)]
  have sd := kk.2.1.2.2.2.2.1
  obtain ⟨sd1, sd2⟩ := SdR_at sd
  simp only [eL_law_392, eL_law_393, eL_law_395, eL_law_398, eL_law_399, eL_law_401, eL_law_403, d1, d2, (show ¬ (3 : Int32) = 0 by decide), (show ¬ (4 : Int32) = 0 by decide), (show ¬ (16 : Int32) = 0 by decide), (show ¬ (256 : Int32) = 0 by decide), (show ¬ (4096 : Int32) = 0 by decide), (show ¬ (2 : Int32) = 0 by decide), (show ¬ (1 : Int32) = 0 by decide), (show ¬ (1000 : Int32) = 0 by decide), (show ¬ (10 : Int32) = 0 by decide), one0, eq_self, or_true, true_or, not_true_eq_false, not_false_eq_true, true_imp_iff, false_imp_iff, true_and, and_true, Classical.not_not]
  rw [eL_law_404]
  refine ⟨by simp, by omega, by omega, hP, fun r μ' q => ?_⟩
  have a1 : inR (nI (V % 256)) 0 255 ∧ inR (nI (V / 16)) 0 4095 := ⟨inR_N (b := 255) (by omega) (by decide), inR_N (b := 4095) (by omega) (by decide)⟩
  have ea : setStridesA m (nI (V % 256)) (nI (V / 16)) = (m.s 5, savM m (upd (upd m.s 4 (nI (V % 256))) 5 (nI (V / 16)))) := by
    unfold setStridesA
    rw [if_pos a1]
  obtain ⟨ν1, rfl, rfl, h1⟩ := so_up (A := fun m => setStridesA m (nI (V % 256)) (nI (V / 16))) hH hν q (by show (setStridesA m (nI (V % 256)) (nI (V / 16))).2.f 6 = 0; rw [ea]; exact sav6)
  simp only [ea] at h1
  obtain ⟨s0, s1, s2, s3, s4, s5, s6, s7, s8⟩ : LaS ν1 (x + 1492) := h1.2
  have w4 : vp_in (4 : Int32) 21 := vpn (i := 4) (by decide) (by decide)
  have e5 : (4096 : Int32) * nI (V % 256) + nI (V / 16) = nI (4096 * (V % 256) + V / 16) := by
    rw [show (4096 : Int32) = nI 4096 from rfl, pk_mul, nI_add]
  simp only [eL_law_407, eL_law_408, eL_law_409, eL_law_410, eL_law_413, eL_law_414, eL_law_417, eL_law_418, eL_law_421, eL_law_422, eL_law_424, eL_law_425, eL_law_426, eL_law_429, eL_law_431, eL_law_434, eL_law_435, eL_law_436, eL_law_438, eL_law_440, eL_law_441, eL_law_442, eL_law_443, ea, sd2, d1, d2, e5, mI_lm0, mI_lm, mJ_lm, wR_lm, wR_lm0, wL_lm, qArr_lm, l19, l29, l39, l49, l59, l69, l79, l89, wI_def, up2_at, up2_2, pk_us, j10, j20, j21, j30, j31, j32, j40, j41, j42, j43, j50, j51, j52, j53, j54, j60, j70, j71, j80, j01, j02, j03, j04, j05, j06, j07, j08, j12, j13, j14, j15, j23, j24, j25, j34, j35, j45, j56, j57, j58, j65, j67, j68, j75, j76, j78, j85, j86, j87, ite_false_, ite_true_, qA_iA s0, w4, ci4, (show ¬ (3 : Int32) = 0 by decide), (show ¬ (4 : Int32) = 0 by decide), (show ¬ (16 : Int32) = 0 by decide), (show ¬ (256 : Int32) = 0 by decide), (show ¬ (4096 : Int32) = 0 by decide), (show ¬ (2 : Int32) = 0 by decide), (show ¬ (1 : Int32) = 0 by decide), (show ¬ (1000 : Int32) = 0 by decide), (show ¬ (10 : Int32) = 0 by decide), one0, eq_self, or_true, true_or, not_true_eq_false, not_false_eq_true, true_imp_iff, false_imp_iff, true_and, and_true, Classical.not_not]
  refine hk ν1 _ _ J _ _ _ _ _ _ _ _ _ (so_lm h1) ?_ (Nat.le_refl _) (Nat.le_refl _)
  rw [savS]
  refine LwR_g iv (fun j h1 h2 => by rw [upd_n (by omega), upd_n (by omega)]) (fun k hk => up2_n hk) ?_ kk
  rw [up2_s]
  obtain ⟨q0, q1, q2, q3, q4, q7, q8, q9, q10⟩ := kk.2.1
  refine ⟨?_, ?_, ?_, ?_, ?_, ?_, ?_, ?_, fun i h1 h2 => ?_⟩
  · rw [upd_n (by decide), upd_n (by decide), upd_n (by decide)]; exact q0
  · rw [upd_n (by decide), upd_n (by decide), upd_n (by decide)]; exact q1
  · rw [upd_n (by decide), upd_n (by decide), upd_n (by decide)]; exact q2
  · rw [upd_n (by decide), upd_n (by decide), upd_n (by decide)]; exact q3
  · rw [upd_s, upd_n (by decide), upd_s, upd_s]
    exact ⟨V % 256, V / 16, by omega, by omega, rfl, rfl, rfl⟩
  · rw [upd_n (by decide), upd_n (by decide), upd_n (by decide)]; exact q7
  · rw [upd_n (by decide), upd_n (by decide), upd_n (by decide)]; exact q8
  · rw [upd_n (by decide), upd_n (by decide), upd_n (by decide)]; exact q9
  · rw [upd_n (by omega), upd_n (by omega), upd_n (by omega)]; exact q10 i h1 h2
theorem lc_2 {b L : Nat} {xs : Nat → Int32} {R : Option Value → qMM → Nat × Nat → Prop} {X : String → qMM → Nat × Nat → Prop} {H x c s : Nat} {m : Mod} {I : Nat → Nat → Int32} {J : Nat → Nat → Int64} {now : Int64} {tu tt z : Int32} {V : Nat} {ν : qMM} (hV : V < 65536) (hν : SoV H x m I J ν) (kk : LwR I J m.s now) (hH : H + 4000 < 2 ^ 30) (hc : c + 1 ≤ 600130) (hs : s + 6 ≤ 7301079) (hk : LcK b L xs R X x H c s tu tt z (nI V)) {y18 y19 y20 y21 y22 y23 : Option Value} : EX (SL_law b L xs R X) 452 [some (.ref b), some (.ref x), some (.ref (x + 1492)), some (.ref (x + 1492 + 1)), some (.ref (x + 1492 + 2)), some (.ref (x + 1492 + 3)), some (.ref (x + 1492 + 4)), some (.ref (x + 1492 + 5)), some (.ref (x + 1492 + 6)), some (.ref (x + 1492 + 7)), some (.ref (x + 1492 + 8)), none, none, some (.int (1)), some (.int (tu)), some (.int (tt)), some (.int (z)), some (.int (nI V)), y18, y19, y20, y21, y22, y23] [none, none, none, none, none, none, none, none, none, none, none, some (.long (now)), none, none, none, none, none, none, none, none, none, none, none, none] [] (lm ν (x + 1492) I J) (c, s) := by
  have iv : Iv H m.s := HsP_iv hν.1
  have hP : ∃ H m, HsP H (lm ν (x + 1492) I J) x m := ⟨H, m, hν.1⟩
  have e3 : (3 : Int32) = nI 3 := rfl
  have e4 : (4 : Int32) = nI 4 := rfl
  have e16 : (16 : Int32) = nI 16 := rfl
  have e256 : (256 : Int32) = nI 256 := rfl
  obtain ⟨C, hC, d3⟩ : ∃ C : Nat, C ≤ 15 ∧ nI V / 3 - nI V / 3 / (if nI V - nI V / 2 * 2 = 0 then 16 else 1) * (if nI V - nI V / 2 * 2 = 0 then 16 else 1) = nI C := by
    by_cases g : nI V - nI V / 2 * 2 = 0
    · rw [if_pos g, e3, e16, pk_div (by omega) (by decide) (by decide), pk_rem (by omega) (by decide) (by decide)]
      exact ⟨V / 3 % 16, by omega, rfl⟩
    · rw [if_neg g, e3, show (1 : Int32) = nI 1 from rfl, pk_div (by omega) (by decide) (by decide), pk_rem (by omega) (by decide) (by decide)]
      exact ⟨V / 3 % 1, by omega, rfl⟩
  have zd : ¬ (if nI V - nI V / 2 * 2 = 0 then (16 : Int32) else 1) = 0 := by
    by_cases g : nI V - nI V / 2 * 2 = 0
    · rw [if_pos g]; decide
    · rw [if_neg g]; decide
  have d1 : nI V - nI V / 3 * 3 = nI (V % 3) := by rw [e3, pk_rem (by omega) (by decide) (by decide)]
  simp only [eL_law_452, eL_law_453, eL_law_455, eL_law_456, eL_law_457, eL_law_459, eL_law_460, eL_law_461, eL_law_463, eL_law_464, eL_law_465, eL_law_468, eL_law_470, eL_law_473, (show ¬ (3 : Int32) = 0 by decide), (show ¬ (4 : Int32) = 0 by decide), (show ¬ (16 : Int32) = 0 by decide), (show ¬ (256 : Int32) = 0 by decide), (show ¬ (4096 : Int32) = 0 by decide), (show ¬ (2 : Int32) = 0 by decide), (show ¬ (1 : Int32) = 0 by decide), (show ¬ (1000 : Int32) = 0 by decide), (show ¬ (10 : Int32) = 0 by decide), one0, eq_self, or_true, true_or, not_true_eq_false, not_false_eq_true, true_imp_iff, false_imp_iff, true_and, and_true, Classical.not_not, mrgI, mrgN]
  simp only [eL_law_474, d1, d3, zd, one0, eq_self, or_true, true_or, not_true_eq_false, not_false_eq_true, true_imp_iff, false_imp_iff, true_and, and_true, Classical.not_not]
  rw [eL_law_475]
  refine ⟨by simp, by omega, by omega, hP, fun r μ' q => ?_⟩
  have a1 : polR (nI (V % 3)) (nI C) := ⟨⟨nI_pos' (by omega), nI_le (b := 2) (by omega) (by decide)⟩, nI_pos' (by omega), nI_le (b := 15) (by omega) (by decide)⟩
  have ea : setPolicyA m (nI (V % 3)) (nI C) = (m.s 6, savM m (upd (upd m.s 6 (nI (V % 3))) 7 (nI C))) := by
    unfold setPolicyA
    rw [if_pos a1]
  obtain ⟨ν1, rfl, rfl, h1⟩ := so_up (A := fun m => setPolicyA m (nI (V % 3)) (nI C)) hH hν q (by show (setPolicyA m (nI (V % 3)) (nI C)).2.f 6 = 0; rw [ea]; exact sav6)
  simp only [ea] at h1
  obtain ⟨s0, s1, s2, s3, s4, s5, s6, s7, s8⟩ : LaS ν1 (x + 1492) := h1.2
  have w2 : vp_in (2 : Int32) 21 := vpn (i := 2) (by decide) (by decide)
  have w3 : vp_in (3 : Int32) 21 := vpn (i := 3) (by decide) (by decide)
  have c2 : (2 : Int32).toNatClampNeg = 2 := by decide
  have c3 : (3 : Int32).toNatClampNeg = 3 := by decide
  obtain ⟨q0, q1, q2, q3, q4, q7, q8, q9, q10⟩ := id kk.2.1
  simp only [eL_law_478, eL_law_479, eL_law_480, eL_law_481, eL_law_484, eL_law_485, eL_law_488, eL_law_489, eL_law_491, eL_law_492, eL_law_493, eL_law_495, eL_law_496, eL_law_497, eL_law_498, eL_law_499, eL_law_500, eL_law_502, eL_law_503, eL_law_504, eL_law_506, eL_law_507, eL_law_508, eL_law_511, eL_law_513, eL_law_516, ea, q2, d1, mI_lm0, mI_lm, mJ_lm, wR_lm, wR_lm0, wL_lm, qArr_lm, l19, l29, l39, l49, l59, l69, l79, l89, wI_def, up2_at, up2_2, pk_us, j10, j20, j21, j30, j31, j32, j40, j41, j42, j43, j50, j51, j52, j53, j54, j60, j70, j71, j80, j01, j02, j03, j04, j05, j06, j07, j08, j12, j13, j14, j15, j23, j24, j25, j34, j35, j45, j56, j57, j58, j65, j67, j68, j75, j76, j78, j85, j86, j87, ite_false_, ite_true_, qA_iA s0, w2, w3, c2, c3, (show ¬ (3 : Int32) = 0 by decide), (show ¬ (4 : Int32) = 0 by decide), (show ¬ (16 : Int32) = 0 by decide), (show ¬ (256 : Int32) = 0 by decide), (show ¬ (4096 : Int32) = 0 by decide), (show ¬ (2 : Int32) = 0 by decide), (show ¬ (1 : Int32) = 0 by decide), (show ¬ (1000 : Int32) = 0 by decide), (show ¬ (10 : Int32) = 0 by decide), one0, eq_self, or_true, true_or, not_true_eq_false, not_false_eq_true, true_imp_iff, false_imp_iff, true_and, and_true, Classical.not_not, mrgI, mrgN]
  simp only [eL_law_517, eL_law_518, eL_law_519, d3, zd, mI_lm0, mI_lm, mJ_lm, wR_lm, wR_lm0, wL_lm, qArr_lm, l19, l29, l39, l49, l59, l69, l79, l89, wI_def, up2_at, up2_2, pk_us, j10, j20, j21, j30, j31, j32, j40, j41, j42, j43, j50, j51, j52, j53, j54, j60, j70, j71, j80, j01, j02, j03, j04, j05, j06, j07, j08, j12, j13, j14, j15, j23, j24, j25, j34, j35, j45, j56, j57, j58, j65, j67, j68, j75, j76, j78, j85, j86, j87, ite_false_, ite_true_, qA_iA s0, w3, c3, one0, eq_self, or_true, true_or, not_true_eq_false, not_false_eq_true, true_imp_iff, false_imp_iff, true_and, and_true, Classical.not_not]
  refine hk ν1 _ _ J _ _ _ _ _ _ _ _ _ (so_lm h1) ?_ (Nat.le_refl _) (Nat.le_refl _)
  rw [savS]
  refine LwR_g iv (fun j h1 h2 => by rw [upd_n (by omega), upd_n (by omega)]) (fun k hk => up2_n hk) ?_ kk
  rw [up2_s]
  refine ⟨?_, ?_, ?_, ?_, ?_, ?_, ?_, ?_, fun i h1 h2 => ?_⟩
  · rw [upd_n (by decide), upd_n (by decide), upd_n (by decide), upd_n (by decide)]; exact q0
  · rw [upd_n (by decide), upd_n (by decide), upd_n (by decide), upd_n (by decide)]; exact q1
  · rw [upd_n (by decide), upd_s, upd_n (by decide), upd_s]
  · rw [upd_s, upd_s]
  · rw [upd_n (by decide), upd_n (by decide), upd_n (by decide), upd_n (by decide), upd_n (by decide), upd_n (by decide)]; exact q4
  · rw [upd_n (by decide), upd_n (by decide), upd_n (by decide), upd_n (by decide)]; exact q7
  · rw [upd_n (by decide), upd_n (by decide), upd_n (by decide), upd_n (by decide)]; exact q8
  · rw [upd_n (by decide), upd_n (by decide), upd_n (by decide), upd_n (by decide)]; exact q9
  · rw [upd_n (by omega), upd_n (by omega), upd_n (by omega), upd_n (by omega)]; exact q10 i h1 h2
theorem lc_3 {b L : Nat} {xs : Nat → Int32} {R : Option Value → qMM → Nat × Nat → Prop} {X : String → qMM → Nat × Nat → Prop} {H x c s : Nat} {m : Mod} {I : Nat → Nat → Int32} {J : Nat → Nat → Int64} {now : Int64} {tu tt z : Int32} {V : Nat} {ν : qMM} (hV : V < 65536) (hν : SoV H x m I J ν) (kk : LwR I J m.s now) (hH : H + 4000 < 2 ^ 30) (hc : c + 1 ≤ 600130) (hs : s + 6 ≤ 7301079) (hk : LcK b L xs R X x H c s tu tt z (nI V)) {y18 y19 y20 y21 y22 y23 : Option Value} : EX (SL_law b L xs R X) 528 [some (.ref b), some (.ref x), some (.ref (x + 1492)), some (.ref (x + 1492 + 1)), some (.ref (x + 1492 + 2)), some (.ref (x + 1492 + 3)), some (.ref (x + 1492 + 4)), some (.ref (x + 1492 + 5)), some (.ref (x + 1492 + 6)), some (.ref (x + 1492 + 7)), some (.ref (x + 1492 + 8)), none, none, some (.int (1)), some (.int (tu)), some (.int (tt)), some (.int (z)), some (.int (nI V)), y18, y19, y20, y21, y22, y23] [none, none, none, none, none, none, none, none, none, none, none, some (.long (now)), none, none, none, none, none, none, none, none, none, none, none, none] [] (lm ν (x + 1492) I J) (c, s) := by
  have iv : Iv H m.s := HsP_iv hν.1
  have hP : ∃ H m, HsP H (lm ν (x + 1492) I J) x m := ⟨H, m, hν.1⟩
  have e3 : (3 : Int32) = nI 3 := rfl
  have e4 : (4 : Int32) = nI 4 := rfl
  have e16 : (16 : Int32) = nI 16 := rfl
  have e256 : (256 : Int32) = nI 256 := rfl
  obtain ⟨C, hC, d3⟩ : ∃ C : Nat, C ≤ 15 ∧ nI V / 16 - nI V / 16 / (if nI V - nI V / 3 * 3 = 0 then 16 else 3) * (if nI V - nI V / 3 * 3 = 0 then 16 else 3) = nI C := by
    by_cases g : nI V - nI V / 3 * 3 = 0
    · rw [if_pos g, e16, pk_div (by omega) (by decide) (by decide), pk_rem (by omega) (by decide) (by decide)]
      exact ⟨V / 16 % 16, by omega, rfl⟩
    · rw [if_neg g, e3, e16, pk_div (by omega) (by decide) (by decide), pk_rem (by omega) (by decide) (by decide)]
      exact ⟨V / 16 % 3, by omega, rfl⟩
  have zd : ¬ (if nI V - nI V / 3 * 3 = 0 then (16 : Int32) else 3) = 0 := by
    by_cases g : nI V - nI V / 3 * 3 = 0
    · rw [if_pos g]; decide
    · rw [if_neg g]; decide
  have d1 : nI V - nI V / 16 * 16 = nI (V % 16) := by rw [e16, pk_rem (by omega) (by decide) (by decide)]
  have d4 : (1 : Int32) + (nI V / 256 - nI V / 256 / 4 * 4) = nI (1 + V / 256 % 4) := by
    rw [e256, e4, pk_div (by omega) (by decide) (by decide), pk_rem (by omega) (by decide) (by decide), show (1 : Int32) = nI 1 from rfl, nI_add]
  have d5 : (1 : Int32) + nI C = nI (1 + C) := nI_add 1 C
  simp only [eL_law_528, eL_law_529, eL_law_531, eL_law_533, eL_law_534, eL_law_535, eL_law_537, eL_law_539, eL_law_540, eL_law_542, eL_law_543, eL_law_544, eL_law_547, eL_law_549, eL_law_552, (show ¬ (3 : Int32) = 0 by decide), (show ¬ (4 : Int32) = 0 by decide), (show ¬ (16 : Int32) = 0 by decide), (show ¬ (256 : Int32) = 0 by decide), (show ¬ (4096 : Int32) = 0 by decide), (show ¬ (2 : Int32) = 0 by decide), (show ¬ (1 : Int32) = 0 by decide), (show ¬ (1000 : Int32) = 0 by decide), (show ¬ (10 : Int32) = 0 by decide), one0, eq_self, or_true, true_or, not_true_eq_false, not_false_eq_true, true_imp_iff, false_imp_iff, true_and, and_true, Classical.not_not, mrgI, mrgN]
  simp only [eL_law_553, eL_law_554, eL_law_555, eL_law_556, eL_law_558, eL_law_561, eL_law_562, eL_law_563, eL_law_564, d1, d3, d4, d5, zd, (show ¬ (3 : Int32) = 0 by decide), (show ¬ (4 : Int32) = 0 by decide), (show ¬ (16 : Int32) = 0 by decide), (show ¬ (256 : Int32) = 0 by decide), (show ¬ (4096 : Int32) = 0 by decide), (show ¬ (2 : Int32) = 0 by decide), (show ¬ (1 : Int32) = 0 by decide), (show ¬ (1000 : Int32) = 0 by decide), (show ¬ (10 : Int32) = 0 by decide), one0, eq_self, or_true, true_or, not_true_eq_false, not_false_eq_true, true_imp_iff, false_imp_iff, true_and, and_true, Classical.not_not]
  rw [eL_law_565]
  refine ⟨by simp, by omega, by omega, hP, fun r μ' q => ?_⟩
  have a1 : inR (nI (V % 16)) 0 15 ∧ inR (nI (1 + C)) 1 16 ∧ inR (nI (1 + V / 256 % 4)) 1 8 := ⟨inR_N (b := 15) (by omega) (by decide), ⟨nI_le (a := 1) (by omega) (by omega), nI_le (b := 16) (by omega) (by decide)⟩, nI_le (a := 1) (by omega) (by omega), nI_le (b := 8) (by omega) (by decide)⟩
  have ea : setReceiverA m (nI (V % 16)) (nI (1 + C)) (nI (1 + V / 256 % 4)) = (m.s 52, savM m (upd (upd (upd m.s 52 (nI (V % 16))) 53 (nI (1 + C))) 54 (nI (1 + V / 256 % 4)))) := by
    unfold setReceiverA
    rw [if_pos a1]
  obtain ⟨ν1, rfl, rfl, h1⟩ := so_up (A := fun m => setReceiverA m (nI (V % 16)) (nI (1 + C)) (nI (1 + V / 256 % 4))) hH hν q (by show (setReceiverA m (nI (V % 16)) (nI (1 + C)) (nI (1 + V / 256 % 4))).2.f 6 = 0; rw [ea]; exact sav6)
  simp only [ea] at h1
  obtain ⟨s0, s1, s2, s3, s4, s5, s6, s7, s8⟩ : LaS ν1 (x + 1492) := h1.2
  have w7 : vp_in (7 : Int32) 21 := vpn (i := 7) (by decide) (by decide)
  have w8 : vp_in (8 : Int32) 21 := vpn (i := 8) (by decide) (by decide)
  have w9 : vp_in (9 : Int32) 21 := vpn (i := 9) (by decide) (by decide)
  have c7 : (7 : Int32).toNatClampNeg = 7 := by decide
  have c8 : (8 : Int32).toNatClampNeg = 8 := by decide
  have c9 : (9 : Int32).toNatClampNeg = 9 := by decide
  obtain ⟨q0, q1, q2, q3, q4, q7, q8, q9, q10⟩ := id kk.2.1
  simp only [eL_law_568, eL_law_569, eL_law_571, eL_law_572, eL_law_575, eL_law_576, eL_law_579, eL_law_580, eL_law_582, eL_law_583, eL_law_585, eL_law_586, eL_law_588, eL_law_591, eL_law_592, eL_law_593, eL_law_594, eL_law_595, eL_law_596, eL_law_597, eL_law_599, eL_law_601, eL_law_603, eL_law_604, eL_law_605, eL_law_606, eL_law_608, eL_law_609, eL_law_611, eL_law_613, eL_law_614, eL_law_616, eL_law_617, eL_law_618, eL_law_621, eL_law_623, eL_law_626, ea, q7, d1, d4, mI_lm0, mI_lm, mJ_lm, wR_lm, wR_lm0, wL_lm, qArr_lm, l19, l29, l39, l49, l59, l69, l79, l89, wI_def, up2_at, up2_2, pk_us, j10, j20, j21, j30, j31, j32, j40, j41, j42, j43, j50, j51, j52, j53, j54, j60, j70, j71, j80, j01, j02, j03, j04, j05, j06, j07, j08, j12, j13, j14, j15, j23, j24, j25, j34, j35, j45, j56, j57, j58, j65, j67, j68, j75, j76, j78, j85, j86, j87, ite_false_, ite_true_, qA_iA s0, w7, w8, w9, c7, c8, c9, (show ¬ (3 : Int32) = 0 by decide), (show ¬ (4 : Int32) = 0 by decide), (show ¬ (16 : Int32) = 0 by decide), (show ¬ (256 : Int32) = 0 by decide), (show ¬ (4096 : Int32) = 0 by decide), (show ¬ (2 : Int32) = 0 by decide), (show ¬ (1 : Int32) = 0 by decide), (show ¬ (1000 : Int32) = 0 by decide), (show ¬ (10 : Int32) = 0 by decide), one0, eq_self, or_true, true_or, not_true_eq_false, not_false_eq_true, true_imp_iff, false_imp_iff, true_and, and_true, Classical.not_not, mrgI, mrgN]
  simp only [eL_law_627, eL_law_628, eL_law_629, eL_law_630, d3, d5, zd, mI_lm0, mI_lm, mJ_lm, wR_lm, wR_lm0, wL_lm, qArr_lm, l19, l29, l39, l49, l59, l69, l79, l89, wI_def, up2_at, up2_2, pk_us, j10, j20, j21, j30, j31, j32, j40, j41, j42, j43, j50, j51, j52, j53, j54, j60, j70, j71, j80, j01, j02, j03, j04, j05, j06, j07, j08, j12, j13, j14, j15, j23, j24, j25, j34, j35, j45, j56, j57, j58, j65, j67, j68, j75, j76, j78, j85, j86, j87, ite_false_, ite_true_, qA_iA s0, w8, c8, one0, eq_self, or_true, true_or, not_true_eq_false, not_false_eq_true, true_imp_iff, false_imp_iff, true_and, and_true, Classical.not_not]
  refine hk ν1 _ _ J _ _ _ _ _ _ _ _ _ (so_lm h1) ?_ (Nat.le_refl _) (Nat.le_refl _)
  rw [savS]
  refine LwR_g iv (fun j h1 h2 => by rw [upd_n (by omega), upd_n (by omega), upd_n (by omega)]) (fun k hk => up2_n hk) ?_ kk
  rw [up2_s]
  have o : ∀ j, j ≠ 52 → j ≠ 53 → j ≠ 54 → upd (upd (upd m.s 52 (nI (V % 16))) 53 (nI (1 + C))) 54 (nI (1 + V / 256 % 4)) j = m.s j := fun j a b c => by rw [upd_n c, upd_n b, upd_n a]
  have og : ∀ j, j ≠ 7 → j ≠ 8 → j ≠ 9 → upd (upd (upd (I 0) 9 (nI (1 + V / 256 % 4))) 7 (nI (V % 16))) 8 (nI (1 + C)) j = I 0 j := fun j a b c => by rw [upd_n b, upd_n a, upd_n c]
  refine ⟨?_, ?_, ?_, ?_, ?_, ?_, ?_, ?_, fun i h1 h2 => ?_⟩
  · rw [og 0 (by decide) (by decide) (by decide), o 9 (by decide) (by decide) (by decide)]; exact q0
  · rw [og 1 (by decide) (by decide) (by decide), o 8 (by decide) (by decide) (by decide)]; exact q1
  · rw [og 2 (by decide) (by decide) (by decide), o 6 (by decide) (by decide) (by decide)]; exact q2
  · rw [og 3 (by decide) (by decide) (by decide), o 7 (by decide) (by decide) (by decide)]; exact q3
  · rw [og 4 (by decide) (by decide) (by decide), o 4 (by decide) (by decide) (by decide), o 5 (by decide) (by decide) (by decide)]; exact q4
  · rw [upd_n (by decide), upd_s, upd_n (by decide), upd_n (by decide), upd_s]
  · rw [upd_s, upd_n (by decide), upd_s]
  · rw [upd_n (by decide), upd_n (by decide), upd_s, upd_s]
  · rw [og i (by omega) (by omega) (by omega), o _ (by omega) (by omega) (by omega)]; exact q10 i h1 h2
theorem lc_4 {b L : Nat} {xs : Nat → Int32} {R : Option Value → qMM → Nat × Nat → Prop} {X : String → qMM → Nat × Nat → Prop} {H x c s : Nat} {m : Mod} {I : Nat → Nat → Int32} {J : Nat → Nat → Int64} {now : Int64} {tu tt z : Int32} {V : Nat} {ν : qMM} (hV : V < 65536) (hν : SoV H x m I J ν) (kk : LwR I J m.s now) (hH : H + 4000 < 2 ^ 30) (hc : c + 1 ≤ 600130) (hs : s + 6 ≤ 7301079) (hk : LcK b L xs R X x H c s tu tt z (nI V)) {y18 y19 y20 y21 y22 y23 : Option Value} : EX (SL_law b L xs R X) 640 [some (.ref b), some (.ref x), some (.ref (x + 1492)), some (.ref (x + 1492 + 1)), some (.ref (x + 1492 + 2)), some (.ref (x + 1492 + 3)), some (.ref (x + 1492 + 4)), some (.ref (x + 1492 + 5)), some (.ref (x + 1492 + 6)), some (.ref (x + 1492 + 7)), some (.ref (x + 1492 + 8)), none, none, some (.int (1)), some (.int (tu)), some (.int (tt)), some (.int (z)), some (.int (nI V)), y18, y19, y20, y21, y22, y23] [none, none, none, none, none, none, none, none, none, none, none, some (.long (now)), none, none, none, none, none, none, none, none, none, none, none, none] [] (lm ν (x + 1492) I J) (c, s) := by
  have iv : Iv H m.s := HsP_iv hν.1
  have hP : ∃ H m, HsP H (lm ν (x + 1492) I J) x m := ⟨H, m, hν.1⟩
  have e3 : (3 : Int32) = nI 3 := rfl
  have e4 : (4 : Int32) = nI 4 := rfl
  have e16 : (16 : Int32) = nI 16 := rfl
  have e256 : (256 : Int32) = nI 256 := rfl
  obtain ⟨s0, s1, s2, s3, s4, s5, s6, s7, s8⟩ : LaS ν (x + 1492) := hν.2
  have w4 : vp_in (4 : Int32) 21 := vpn (i := 4) (by decide) (by decide)
  have kg := go_ok iv kk
  obtain ⟨p0, p1, p2, p3⟩ := Hd_pt kg.1
  simp only [eL_law_640, eL_law_642, eL_law_643, eL_law_644, eL_law_645, eL_law_646, eL_law_649, eL_law_651, PL_low, QL_low, PL_header, QL_header, PL_part, QL_part, PL_moved, QL_moved, fEq, List.length_nil, List.length_cons, ll0, ll1, ll2, ll3, ll4, Nat.le_refl, and_true, Nat.add_zero, (show c ≤ 600130 by omega), (show s ≤ 7301079 by omega), mI_lm0, mI_lm, mJ_lm, wR_lm, wR_lm0, wL_lm, qArr_lm, l19, l29, l39, l49, l59, l69, l79, l89, wI_def, up2_at, up2_2, pk_us, j10, j20, j21, j30, j31, j32, j40, j41, j42, j43, j50, j51, j52, j53, j54, j60, j70, j71, j80, j01, j02, j03, j04, j05, j06, j07, j08, j12, j13, j14, j15, j23, j24, j25, j34, j35, j45, j56, j57, j58, j65, j67, j68, j75, j76, j78, j85, j86, j87, ite_false_, ite_true_, qA_iA s0, w4, ci4, one0, eq_self, or_true, true_or, not_true_eq_false, not_false_eq_true, true_imp_iff, false_imp_iff, true_and, and_true, Classical.not_not]
  rw [eL_law_652]
  refine ⟨by simp, by omega, by omega, so_t hν, hP, fun r μ' q => ?_⟩
  obtain ⟨ν1, rfl, rfl, h1⟩ := so_upd (A := advanceA) hH hν q
  have ea : (advanceA m).1 = goesF m.s 1 := rfl
  have es : (advanceA m).2.s = goesF m.s := rfl
  simp only [eL_law_655, eL_law_657, eL_law_658, eL_law_661, eL_law_664, eL_law_665, eL_law_668, eL_law_669, eL_law_671, ea, p1, PL_low, QL_low, PL_header, QL_header, PL_part, QL_part, PL_moved, QL_moved, fEq, List.length_nil, List.length_cons, ll0, ll1, ll2, ll3, ll4, Nat.le_refl, and_true, Nat.add_zero, (show c ≤ 600130 by omega), (show s ≤ 7301079 by omega), one0, eq_self, or_true, true_or, not_true_eq_false, not_false_eq_true, true_imp_iff, false_imp_iff, true_and, and_true, Classical.not_not]
  exact hk ν1 _ I J _ _ _ _ _ _ _ _ _ h1 (by rw [es]; exact kg) (by omega) (by omega)
