/-! ===== contracts, out of the bodies (by program) ===== -/
theorem mX8_inRange {l : Launch} : qMet l yX8_inRange cX8_inRange 3 (some .boolean) 0 0 spX8_inRange := by
  refine qMet_of (cal := calX8_inRange) (fld := fX8) (cst := kX8) (csl := jX8) (nwo := nX8) false (plainFor_of_name (by decide +kernel)) tabX8 va_AOA_words.1 va_AOA_words.2 (ini := false) (fun h => by cases h) ?_ ?_ ?_
  · intro idx kd q' h p e s m args below meth c D cA B Q hF
    cases h
  · rintro av μ ⟨x1, x2, x3, rfl, hp⟩
    exact Nat.le_of_ble_eq_true rfl
  · rintro av μ ⟨x1, x2, x3, rfl, hp⟩
    have h := xX8_inRange x1 x2 x3 μ hp
    rw [← sg_siii_i_R (P := PX8_inRange)] at h
    exact h
theorem mX8_mixed {l : Launch} : qMet l yX8_mixed cX8_mixed 4 (some .long) 0 0 spX8_mixed := by
  refine qMet_of (cal := calX8_mixed) (fld := fX8) (cst := kX8) (csl := jX8) (nwo := nX8) true (plainFor_of_name (by decide +kernel)) tabX8 va_AOA_words.1 va_AOA_words.2 (ini := false) (fun h => by cases h) ?_ ?_ ?_
  · intro idx kd q' h p e s m args below meth c D cA B Q hF
    cases h
  · rintro av μ ⟨x1, x2, rfl, hp⟩
    exact Nat.le_of_ble_eq_true rfl
  · rintro av μ ⟨x1, x2, rfl, hp⟩
    have h := xX8_mixed x1 x2 μ hp
    rw [← sg_sjj_j_R (P := PX8_mixed)] at h
    exact h
theorem mX3_wrapped {l : Launch} : qMet l yX3_wrapped cX3_wrapped 1 (some .int) 0 0 spX3_wrapped := by
  refine qMet_of (cal := calX3_wrapped) (fld := fX3) (cst := kX3) (csl := jX3) (nwo := nX3) false (plainFor_of_name (by decide +kernel)) tabX3 va_AOA_words.1 va_AOA_words.2 (ini := false) (fun h => by cases h) ?_ ?_ ?_
  · intro idx kd q' h p e s m args below meth c D cA B Q hF
    cases h
  · rintro av μ ⟨x1, rfl, hp⟩
    exact Nat.le_of_ble_eq_true rfl
  · rintro av μ ⟨x1, rfl, hp⟩
    have h := xX3_wrapped x1 μ hp
    rw [← sg_si_i_R (P := PX3_wrapped)] at h
    exact h
theorem mX3_difference {l : Launch} : qMet l yX3_difference cX3_difference 2 (some .int) 0 0 spX3_difference := by
  refine qMet_of (cal := calX3_difference) (fld := fX3) (cst := kX3) (csl := jX3) (nwo := nX3) false (plainFor_of_name (by decide +kernel)) tabX3 va_AOA_words.1 va_AOA_words.2 (ini := false) (fun h => by cases h) ?_ ?_ ?_
  · intro idx kd q' h p e s m args below meth c D cA B Q hF
    cases h
  · rintro av μ ⟨x1, x2, rfl, hp⟩
    exact Nat.le_of_ble_eq_true rfl
  · rintro av μ ⟨x1, x2, rfl, hp⟩
    have h := xX3_difference x1 x2 μ hp
    rw [← sg_sii_i_R (P := PX3_difference)] at h
    exact h
theorem mX3_bytesOf {l : Launch} : qMet l yX3_bytesOf cX3_bytesOf 1 (some .int) 1 22 spX3_bytesOf := by
  refine qMet_of (cal := calX3_bytesOf) (fld := fX3) (cst := kX3) (csl := jX3) (nwo := nX3) false (plainFor_of_name (by decide +kernel)) tabX3 va_AOA_words.1 va_AOA_words.2 (ini := false) (fun h => by cases h) ?_ ?_ ?_
  · intro idx kd q' h p e s m args below meth c D cA B Q hF
    unfold calX3_bytesOf at h
    split at h
    · cases h
      exact qc_SN hF mX8_inRange (by exact (qm_c qw515 (qm_c qw51 (qm_c qw516 qm_0)))) (by decide +kernel) rfl (by decide +kernel) (by decide)
    · cases h
  · rintro av μ ⟨x1, rfl, hp⟩
    exact Nat.le_of_ble_eq_true rfl
  · rintro av μ ⟨x1, rfl, hp⟩
    have h := xX3_bytesOf x1 μ hp
    rw [← sg_si_i_R (P := PX3_bytesOf)] at h
    exact h
theorem mJ9_floorMod_7cf53 {l : Launch} : qMet l yJ9_floorMod_7cf53 cJ9_floorMod_7cf53 3 (some .int) 0 0 spJ9_floorMod_7cf53 := by
  refine qMet_of (cal := calJ9_floorMod_7cf53) (fld := fun _ => none) (cst := fun _ => none) (csl := fun _ => none) (nwo := fun _ => none) false (by decide +kernel) qTab0 va_AOA_words.1 va_AOA_words.2 (ini := false) (fun h => by cases h) ?_ ?_ ?_
  · intro idx kd q' h p e s m args below meth c D cA B Q hF
    cases h
  · rintro av μ ⟨x1, x2, rfl, hp⟩
    exact Nat.le_of_ble_eq_true rfl
  · rintro av μ ⟨x1, x2, rfl, hp⟩
    have h := xJ9_floorMod_7cf53 x1 x2 μ hp
    rw [← sg_sii_i_R (P := PJ9_floorMod_7cf53)] at h
    exact h
