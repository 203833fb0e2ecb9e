/-! ===== contracts, out of the bodies (by program) ===== -/
theorem mX8_inRange {l : Launch} : qMet l yX8_inRange cX8_inRange 3 (some .boolean) 0 0 spX8_inRange := by
  refine qMet_of (cal := calX8_inRange) (fld := fX8) (cst := kX8) (csl := jX8) (nwo := nX8) false (plainFor_of_name (by decide +kernel)) tabX8 va_AOA_words.1 va_AOA_words.2 (ini := false) (fun h => by cases h) ?_ ?_ ?_
  · intro idx kd q' h p e s m args below meth c D cA B Q hF
    cases h
  · rintro av μ ⟨x1, x2, x3, rfl, hp⟩
    exact Nat.le_of_ble_eq_true rfl
  · rintro av μ ⟨x1, x2, x3, rfl, hp⟩
    have h := xX8_inRange x1 x2 x3 μ hp
    rw [← sg_siii_i_R (P := PX8_inRange)] at h
    exact h
theorem mX8_mixed {l : Launch} : qMet l yX8_mixed cX8_mixed 4 (some .long) 0 0 spX8_mixed := by
  refine qMet_of (cal := calX8_mixed) (fld := fX8) (cst := kX8) (csl := jX8) (nwo := nX8) true (plainFor_of_name (by decide +kernel)) tabX8 va_AOA_words.1 va_AOA_words.2 (ini := false) (fun h => by cases h) ?_ ?_ ?_
  · intro idx kd q' h p e s m args below meth c D cA B Q hF
    cases h
  · rintro av μ ⟨x1, x2, rfl, hp⟩
    exact Nat.le_of_ble_eq_true rfl
  · rintro av μ ⟨x1, x2, rfl, hp⟩
    have h := xX8_mixed x1 x2 μ hp
    rw [← sg_sjj_j_R (P := PX8_mixed)] at h
    exact h
theorem mX3_wrapped {l : Launch} : qMet l yX3_wrapped cX3_wrapped 1 (some .int) 0 0 spX3_wrapped := by
  refine qMet_of (cal := calX3_wrapped) (fld := fX3) (cst := kX3) (csl := jX3) (nwo := nX3) false (plainFor_of_name (by decide +kernel)) tabX3 va_AOA_words.1 va_AOA_words.2 (ini := false) (fun h => by cases h) ?_ ?_ ?_
  · intro idx kd q' h p e s m args below meth c D cA B Q hF
    cases h
  · rintro av μ ⟨x1, rfl, hp⟩
    exact Nat.le_of_ble_eq_true rfl
  · rintro av μ ⟨x1, rfl, hp⟩
    have h := xX3_wrapped x1 μ hp
    rw [← sg_si_i_R (P := PX3_wrapped)] at h
    exact h
theorem mX3_difference {l : Launch} : qMet l yX3_difference cX3_difference 2 (some .int) 0 0 spX3_difference := by
  refine qMet_of (cal := calX3_difference) (fld := fX3) (cst := kX3) (csl := jX3) (nwo := nX3) false (plainFor_of_name (by decide +kernel)) tabX3 va_AOA_words.1 va_AOA_words.2 (ini := false) (fun h => by cases h) ?_ ?_ ?_
  · intro idx kd q' h p e s m args below meth c D cA B Q hF
    cases h
  · rintro av μ ⟨x1, x2, rfl, hp⟩
    exact Nat.le_of_ble_eq_true rfl
  · rintro av μ ⟨x1, x2, rfl, hp⟩
    have h := xX3_difference x1 x2 μ hp
    rw [← sg_sii_i_R (P := PX3_difference)] at h
    exact h
theorem mX3_bytesOf {l : Launch} : qMet l yX3_bytesOf cX3_bytesOf 1 (some .int) 1 22 spX3_bytesOf := by
  refine qMet_of (cal := calX3_bytesOf) (fld := fX3) (cst := kX3) (csl := jX3) (nwo := nX3) false (plainFor_of_name (by decide +kernel)) tabX3 va_AOA_words.1 va_AOA_words.2 (ini := false) (fun h => by cases h) ?_ ?_ ?_
  · intro idx kd q' h p e s m args below meth c D cA B Q hF
    unfold calX3_bytesOf at h
    split at h
    · cases h
      exact qc_SN hF mX8_inRange (by exact (qm_c qw515 (qm_c qw51 (qm_c qw516 qm_0)))) (by decide +kernel) rfl (by decide +kernel) (by decide)
    · cases h
  · rintro av μ ⟨x1, rfl, hp⟩
    exact Nat.le_of_ble_eq_true rfl
  · rintro av μ ⟨x1, rfl, hp⟩
    have h := xX3_bytesOf x1 μ hp
    rw [← sg_si_i_R (P := PX3_bytesOf)] at h
    exact h
theorem mJ9_floorMod_7cf53 {l : Launch} : qMet l yJ9_floorMod_7cf53 cJ9_floorMod_7cf53 3 (some .int) 0 0 spJ9_floorMod_7cf53 := by
  refine qMet_of (cal := calJ9_floorMod_7cf53) (fld := fun _ => none) (cst := fun _ => none) (csl := fun _ => none) (nwo := fun _ => none) false (by decide +kernel) qTab0 va_AOA_words.1 va_AOA_words.2 (ini := false) (fun h => by cases h) ?_ ?_ ?_
  · intro idx kd q' h p e s m args below meth c D cA B Q hF
    cases h
  · rintro av μ ⟨x1, x2, rfl, hp⟩
    exact Nat.le_of_ble_eq_true rfl
  · rintro av μ ⟨x1, x2, rfl, hp⟩
    have h := xJ9_floorMod_7cf53 x1 x2 μ hp
    rw [← sg_sii_i_R (P := PJ9_floorMod_7cf53)] at h
    exact h
theorem mX3_copyRow {l : Launch} : qMet l yX3_copyRow cX3_copyRow 2 none 1 26 spX3_copyRow := by
  refine qMet_of (cal := calX3_copyRow) (fld := fX3) (cst := kX3) (csl := jX3) (nwo := nX3) false (plainFor_of_name (by decide +kernel)) tabX3 va_AOA_words.1 va_AOA_words.2 (ini := false) (fun h => by cases h) ?_ ?_ ?_
  · intro idx kd q' h p e s m args below meth c D cA B Q hF
    unfold calX3_copyRow at h
    split at h
    · cases h
      exact qc_acp hF (by exact (qm_c qw331 (qm_c qw333 (qm_c qw332 (qm_c qw67 qm_0))))) (by decide)
    · cases h
  · rintro av μ ⟨x1, x2, rfl, hp⟩
    exact Nat.le_of_ble_eq_true rfl
  · rintro av μ ⟨x1, x2, rfl, hp⟩
    have h := xX3_copyRow x1 x2 μ hp
    rw [← sg_saa_v_R (P := PX3_copyRow)] at h
    exact h
theorem mX3_putBase {l : Launch} : qMet l yX3_putBase cX3_putBase 4 none 1 26 spX3_putBase := by
  refine qMet_of (cal := calX3_putBase) (fld := fX3) (cst := kX3) (csl := jX3) (nwo := nX3) false (plainFor_of_name (by decide +kernel)) tabX3 va_AOA_words.1 va_AOA_words.2 (ini := false) (fun h => by cases h) ?_ ?_ ?_
  · intro idx kd q' h p e s m args below meth c D cA B Q hF
    unfold calX3_putBase at h
    split at h
    · cases h
      exact qc_acp hF (by exact (qm_c qw331 (qm_c qw333 (qm_c qw332 (qm_c qw67 qm_0))))) (by decide)
    · cases h
      exact qc_S hF mX3_wrapped (by exact (qm_c qw418 (qm_c qw363 (qm_c qw66 (qm_c qw364 qm_0))))) rfl (by decide +kernel) (by decide)
    · cases h
  · rintro av μ ⟨x1, x2, x3, x4, rfl, hp⟩
    exact Nat.le_of_ble_eq_true rfl
  · rintro av μ ⟨x1, x2, x3, x4, rfl, hp⟩
    have h := xX3_putBase x1 x2 x3 x4 μ hp
    rw [← sg_saaii_v_R (P := PX3_putBase)] at h
    exact h
theorem mX3_putCarried {l : Launch} : qMet l yX3_putCarried cX3_putCarried 3 none 1 21 spX3_putCarried := by
  refine qMet_of (cal := calX3_putCarried) (fld := fX3) (cst := kX3) (csl := jX3) (nwo := nX3) false (plainFor_of_name (by decide +kernel)) tabX3 va_AOA_words.1 va_AOA_words.2 (ini := false) (fun h => by cases h) ?_ ?_ ?_
  · intro idx kd q' h p e s m args below meth c D cA B Q hF
    unfold calX3_putCarried at h
    split at h
    · cases h
      exact qc_S hF mX3_difference (by exact (qm_c qw561 (qm_c qw562 (qm_c qw66 (qm_c qw563 qm_0))))) rfl (by decide +kernel) (by decide)
    · cases h
  · rintro av μ ⟨x1, x2, x3, rfl, hp⟩
    exact Nat.le_of_ble_eq_true rfl
  · rintro av μ ⟨x1, x2, x3, rfl, hp⟩
    have h := xX3_putCarried x1 x2 x3 μ hp
    rw [← sg_saaa_v_R (P := PX3_putCarried)] at h
    exact h
theorem mX3_addCarried {l : Launch} : qMet l yX3_addCarried cX3_addCarried 2 none 1 20 spX3_addCarried := by
  refine qMet_of (cal := calX3_addCarried) (fld := fX3) (cst := kX3) (csl := jX3) (nwo := nX3) false (plainFor_of_name (by decide +kernel)) tabX3 va_AOA_words.1 va_AOA_words.2 (ini := false) (fun h => by cases h) ?_ ?_ ?_
  · intro idx kd q' h p e s m args below meth c D cA B Q hF
    unfold calX3_addCarried at h
    split at h
    · cases h
      exact qc_S hF mX3_wrapped (by exact (qm_c qw418 (qm_c qw363 (qm_c qw66 (qm_c qw364 qm_0))))) rfl (by decide +kernel) (by decide)
    · cases h
  · rintro av μ ⟨x1, x2, rfl, hp⟩
    exact Nat.le_of_ble_eq_true rfl
  · rintro av μ ⟨x1, x2, rfl, hp⟩
    have h := xX3_addCarried x1 x2 μ hp
    rw [← sg_saa_v_R (P := PX3_addCarried)] at h
    exact h
theorem mX3_sameHeader {l : Launch} : qMet l yX3_sameHeader cX3_sameHeader 3 (some .boolean) 0 0 spX3_sameHeader := by
  refine qMet_of (cal := calX3_sameHeader) (fld := fX3) (cst := kX3) (csl := jX3) (nwo := nX3) false (plainFor_of_name (by decide +kernel)) tabX3 va_AOA_words.1 va_AOA_words.2 (ini := false) (fun h => by cases h) ?_ ?_ ?_
  · intro idx kd q' h p e s m args below meth c D cA B Q hF
    cases h
  · rintro av μ ⟨x1, x2, rfl, hp⟩
    exact Nat.le_of_ble_eq_true rfl
  · rintro av μ ⟨x1, x2, rfl, hp⟩
    have h := xX3_sameHeader x1 x2 μ hp
    rw [← sg_saa_i_R (P := PX3_sameHeader)] at h
    exact h
theorem mX3_sizeOf {l : Launch} : qMet l yX3_sizeOf cX3_sizeOf 2 (some .int) 2 42 spX3_sizeOf := by
  refine qMet_of (cal := calX3_sizeOf) (fld := fX3) (cst := kX3) (csl := jX3) (nwo := nX3) false (plainFor_of_name (by decide +kernel)) tabX3 va_AOA_words.1 va_AOA_words.2 (ini := false) (fun h => by cases h) ?_ ?_ ?_
  · intro idx kd q' h p e s m args below meth c D cA B Q hF
    unfold calX3_sizeOf at h
    split at h
    · cases h
      exact qc_S hF mX3_bytesOf (by exact (qm_c qw567 (qm_c qw568 (qm_c qw66 (qm_c qw569 qm_0))))) rfl (by decide +kernel) (by decide)
    · cases h
  · rintro av μ ⟨x1, rfl, hp⟩
    exact Nat.le_of_ble_eq_true rfl
  · rintro av μ ⟨x1, rfl, hp⟩
    have h := xX3_sizeOf x1 μ hp
    rw [← sg_sa_i_R (P := PX3_sizeOf)] at h
    exact h
theorem mX0_copyFrom {l : Launch} : qMet l yX0_copyFrom cX0_copyFrom 2 none 1 26 spX0_copyFrom := by
  refine qMet_of (cal := calX0_copyFrom) (fld := fX0) (cst := kX0) (csl := jX0) (nwo := nX0) false (plainFor_of_name (by decide +kernel)) tabX0 va_AOA_words.1 va_AOA_words.2 (ini := false) (fun h => by cases h) ?_ ?_ ?_
  · intro idx kd q' h p e s m args below meth c D cA B Q hF
    unfold calX0_copyFrom at h
    split at h
    · cases h
      exact qc_acp hF (by exact (qm_c qw350 (qm_c qw333 (qm_c qw332 (qm_c qw67 qm_0))))) (by decide)
    · cases h
  · rintro av μ ⟨o, x1, rfl, ht, hp⟩
    exact Nat.le_of_ble_eq_true rfl
  · rintro av μ ⟨o, x1, rfl, ht, hp⟩
    have h := xX0_copyFrom o x1 μ ht hp
    rw [← sg_ra_v_R (P := PX0_copyFrom)] at h
    exact h
theorem mX0_has {l : Launch} : qMet l yX0_has cX0_has 2 (some .boolean) 1 22 spX0_has := by
  refine qMet_of (cal := calX0_has) (fld := fX0) (cst := kX0) (csl := jX0) (nwo := nX0) false (plainFor_of_name (by decide +kernel)) tabX0 va_AOA_words.1 va_AOA_words.2 (ini := false) (fun h => by cases h) ?_ ?_ ?_
  · intro idx kd q' h p e s m args below meth c D cA B Q hF
    unfold calX0_has at h
    split at h
    · cases h
      exact qc_SN hF mX8_inRange (by exact (qm_c qw515 (qm_c qw51 (qm_c qw516 qm_0)))) (by decide +kernel) rfl (by decide +kernel) (by decide)
    · cases h
  · rintro av μ ⟨o, x1, rfl, ht, hp⟩
    exact Nat.le_of_ble_eq_true rfl
  · rintro av μ ⟨o, x1, rfl, ht, hp⟩
    have h := xX0_has o x1 μ ht hp
    rw [← sg_ri_i_R (P := PX0_has)] at h
    exact h
theorem mX0_isFull {l : Launch} : qMet l yX0_isFull cX0_isFull 1 (some .boolean) 0 0 spX0_isFull := by
  refine qMet_of (cal := calX0_isFull) (fld := fX0) (cst := kX0) (csl := jX0) (nwo := nX0) false (plainFor_of_name (by decide +kernel)) tabX0 va_AOA_words.1 va_AOA_words.2 (ini := false) (fun h => by cases h) ?_ ?_ ?_
  · intro idx kd q' h p e s m args below meth c D cA B Q hF
    cases h
  · rintro av μ ⟨o, rfl, ht, hp⟩
    exact Nat.le_of_ble_eq_true rfl
  · rintro av μ ⟨o, rfl, ht, hp⟩
    have h := xX0_isFull o μ ht hp
    rw [← sg_r_i_R (P := PX0_isFull)] at h
    exact h
theorem mX0_put {l : Launch} : qMet l yX0_put cX0_put 2 none 1 20 spX0_put := by
  refine qMet_of (cal := calX0_put) (fld := fX0) (cst := kX0) (csl := jX0) (nwo := nX0) false (plainFor_of_name (by decide +kernel)) tabX0 va_AOA_words.1 va_AOA_words.2 (ini := false) (fun h => by cases h) ?_ ?_ ?_
  · intro idx kd q' h p e s m args below meth c D cA B Q hF
    unfold calX0_put at h
    split at h
    · cases h
      exact qc_V (C := RX0) (T := TX0) (N := 2) hF mX0_isFull (by exact (qm_c qw437 (qm_c qw438 (qm_c qw439 (qm_c qw54 (qm_c qw440 qm_0)))))) rfl (by decide +kernel) (by decide) sg_r_i_recv
    · cases h
  · rintro av μ ⟨o, x1, rfl, ht, hp⟩
    exact Nat.le_of_ble_eq_true rfl
  · rintro av μ ⟨o, x1, rfl, ht, hp⟩
    have h := xX0_put o x1 μ ht hp
    rw [← sg_ri_v_R (P := PX0_put)] at h
    exact h
theorem mX0_takeOut {l : Launch} : qMet l yX0_takeOut cX0_takeOut 3 (some .int) 1 26 spX0_takeOut := by
  refine qMet_of (cal := calX0_takeOut) (fld := fX0) (cst := kX0) (csl := jX0) (nwo := nX0) false (plainFor_of_name (by decide +kernel)) tabX0 va_AOA_words.1 va_AOA_words.2 (ini := false) (fun h => by cases h) ?_ ?_ ?_
  · intro idx kd q' h p e s m args below meth c D cA B Q hF
    unfold calX0_takeOut at h
    split at h
    · cases h
      exact qc_acp hF (by exact (qm_c qw350 (qm_c qw333 (qm_c qw332 (qm_c qw67 qm_0))))) (by decide)
    · cases h
  · rintro av μ ⟨o, x1, rfl, ht, hp⟩
    exact Nat.le_of_ble_eq_true rfl
  · rintro av μ ⟨o, x1, rfl, ht, hp⟩
    have h := xX0_takeOut o x1 μ ht hp
    rw [← sg_ri_i_R (P := PX0_takeOut)] at h
    exact h
theorem mX0_digestOn {l : Launch} : qMet l yX0_digestOn cX0_digestOn 6 (some .long) 1 23 spX0_digestOn := by
  refine qMet_of (cal := calX0_digestOn) (fld := fX0) (cst := kX0) (csl := jX0) (nwo := nX0) true (plainFor_of_name (by decide +kernel)) tabX0 va_AOA_words.1 va_AOA_words.2 (ini := false) (fun h => by cases h) ?_ ?_ ?_
  · intro idx kd q' h p e s m args below meth c D cA B Q hF
    unfold calX0_digestOn at h
    split at h
    · cases h
      exact qc_SN hF mX8_mixed (by exact (qm_c qw588 (qm_c qw51 (qm_c qw589 qm_0)))) (by decide +kernel) rfl (by decide +kernel) (by decide)
    · cases h
  · rintro av μ ⟨o, x1, rfl, ht, hp⟩
    exact Nat.le_of_ble_eq_true rfl
  · rintro av μ ⟨o, x1, rfl, ht, hp⟩
    have h := xX0_digestOn o x1 μ ht hp
    rw [← sg_rj_j_R (P := PX0_digestOn)] at h
    exact h
theorem mX7_copyFrom {l : Launch} : qMet l yX7_copyFrom cX7_copyFrom 3 none 2 47 spX7_copyFrom := by
  refine qMet_of (cal := calX7_copyFrom) (fld := fX7) (cst := kX7) (csl := jX7) (nwo := nX7) false (plainFor_of_name (by decide +kernel)) tabX7 va_AOA_words.1 va_AOA_words.2 (ini := false) (fun h => by cases h) ?_ ?_ ?_
  · intro idx kd q' h p e s m args below meth c D cA B Q hF
    unfold calX7_copyFrom at h
    split at h
    · cases h
      exact qc_acp hF (by exact (qm_c qw344 (qm_c qw333 (qm_c qw332 (qm_c qw67 qm_0))))) (by decide)
    · cases h
      exact qc_S hF mX3_copyRow (by exact (qm_c qw345 (qm_c qw329 (qm_c qw66 (qm_c qw330 qm_0))))) rfl (by decide +kernel) (by decide)
    · cases h
  · rintro av μ ⟨o, x1, rfl, ht, hp⟩
    exact Nat.le_of_ble_eq_true rfl
  · rintro av μ ⟨o, x1, rfl, ht, hp⟩
    have h := xX7_copyFrom o x1 μ ht hp
    rw [← sg_ra_v_R (P := PX7_copyFrom)] at h
    exact h
theorem mX7_has {l : Launch} : qMet l yX7_has cX7_has 2 (some .boolean) 0 0 spX7_has := by
  refine qMet_of (cal := calX7_has) (fld := fX7) (cst := kX7) (csl := jX7) (nwo := nX7) false (plainFor_of_name (by decide +kernel)) tabX7 va_AOA_words.1 va_AOA_words.2 (ini := false) (fun h => by cases h) ?_ ?_ ?_
  · intro idx kd q' h p e s m args below meth c D cA B Q hF
    cases h
  · rintro av μ ⟨o, x1, rfl, ht, hp⟩
    exact Nat.le_of_ble_eq_true rfl
  · rintro av μ ⟨o, x1, rfl, ht, hp⟩
    have h := xX7_has o x1 μ ht hp
    rw [← sg_ri_i_R (P := PX7_has)] at h
    exact h
theorem mX7_rowOf {l : Launch} : qMet l yX7_rowOf cX7_rowOf 2 (some (.array .int)) 1 22 spX7_rowOf := by
  refine qMet_of (cal := calX7_rowOf) (fld := fX7) (cst := kX7) (csl := jX7) (nwo := nX7) false (plainFor_of_name (by decide +kernel)) tabX7 va_AOA_words.1 va_AOA_words.2 (ini := false) (fun h => by cases h) ?_ ?_ ?_
  · intro idx kd q' h p e s m args below meth c D cA B Q hF
    unfold calX7_rowOf at h
    split at h
    · cases h
      exact qc_S hF mJ9_floorMod_7cf53 (by exact (qm_c qw414 (qm_c qw399 (qm_c qw68 (qm_c qw400 qm_0))))) rfl (by decide +kernel) (by decide)
    · cases h
  · rintro av μ ⟨o, x1, rfl, ht, hp⟩
    exact Nat.le_of_ble_eq_true rfl
  · rintro av μ ⟨o, x1, rfl, ht, hp⟩
    have h := xX7_rowOf o x1 μ ht hp
    rw [← sg_ri_a_R (P := PX7_rowOf)] at h
    exact h
theorem mX7_keep {l : Launch} : qMet l yX7_keep cX7_keep 4 none 2 47 spX7_keep := by
  refine qMet_of (cal := calX7_keep) (fld := fX7) (cst := kX7) (csl := jX7) (nwo := nX7) false (plainFor_of_name (by decide +kernel)) tabX7 va_AOA_words.1 va_AOA_words.2 (ini := false) (fun h => by cases h) ?_ ?_ ?_
  · intro idx kd q' h p e s m args below meth c D cA B Q hF
    unfold calX7_keep at h
    split at h
    · cases h
      exact qc_S hF mX3_copyRow (by exact (qm_c qw345 (qm_c qw329 (qm_c qw66 (qm_c qw330 qm_0))))) rfl (by decide +kernel) (by decide)
    · cases h
      exact qc_S hF mJ9_floorMod_7cf53 (by exact (qm_c qw414 (qm_c qw399 (qm_c qw68 (qm_c qw400 qm_0))))) rfl (by decide +kernel) (by decide)
    · cases h
  · rintro av μ ⟨o, x1, x2, rfl, ht, hp⟩
    exact Nat.le_of_ble_eq_true rfl
  · rintro av μ ⟨o, x1, x2, rfl, ht, hp⟩
    have h := xX7_keep o x1 x2 μ ht hp
    rw [← sg_ria_v_R (P := PX7_keep)] at h
    exact h
theorem mX7_dropUpTo {l : Launch} : qMet l yX7_dropUpTo cX7_dropUpTo 3 none 0 0 spX7_dropUpTo := by
  refine qMet_of (cal := calX7_dropUpTo) (fld := fX7) (cst := kX7) (csl := jX7) (nwo := nX7) false (plainFor_of_name (by decide +kernel)) tabX7 va_AOA_words.1 va_AOA_words.2 (ini := false) (fun h => by cases h) ?_ ?_ ?_
  · intro idx kd q' h p e s m args below meth c D cA B Q hF
    cases h
  · rintro av μ ⟨o, x1, rfl, ht, hp⟩
    exact Nat.le_of_ble_eq_true rfl
  · rintro av μ ⟨o, x1, rfl, ht, hp⟩
    have h := xX7_dropUpTo o x1 μ ht hp
    rw [← sg_ri_v_R (P := PX7_dropUpTo)] at h
    exact h
theorem mX7_size {l : Launch} : qMet l yX7_size cX7_size 3 (some .int) 0 0 spX7_size := by
  refine qMet_of (cal := calX7_size) (fld := fX7) (cst := kX7) (csl := jX7) (nwo := nX7) false (plainFor_of_name (by decide +kernel)) tabX7 va_AOA_words.1 va_AOA_words.2 (ini := false) (fun h => by cases h) ?_ ?_ ?_
  · intro idx kd q' h p e s m args below meth c D cA B Q hF
    cases h
  · rintro av μ ⟨o, rfl, ht, hp⟩
    exact Nat.le_of_ble_eq_true rfl
  · rintro av μ ⟨o, rfl, ht, hp⟩
    have h := xX7_size o μ ht hp
    rw [← sg_r_i_R (P := PX7_size)] at h
    exact h
theorem mX7_valueOf {l : Launch} : qMet l yX7_valueOf cX7_valueOf 3 (some .int) 2 43 spX7_valueOf := by
  refine qMet_of (cal := calX7_valueOf) (fld := fX7) (cst := kX7) (csl := jX7) (nwo := nX7) false (plainFor_of_name (by decide +kernel)) tabX7 va_AOA_words.1 va_AOA_words.2 (ini := false) (fun h => by cases h) ?_ ?_ ?_
  · intro idx kd q' h p e s m args below meth c D cA B Q hF
    unfold calX7_valueOf at h
    split at h
    · cases h
      exact qc_V (C := RX7) (T := TX7) (N := 2) hF mX7_has (by exact (qm_c qw615 (qm_c qw402 (qm_c qw403 (qm_c qw57 (qm_c qw404 qm_0)))))) rfl (by decide +kernel) (by decide) sg_ri_i_recv
    · cases h
      exact qc_V (C := RX7) (T := TX7) (N := 2) hF mX7_rowOf (by exact (qm_c qw616 (qm_c qw411 (qm_c qw412 (qm_c qw57 (qm_c qw413 qm_0)))))) rfl (by decide +kernel) (by decide) sg_ri_a_recv
    · cases h
  · rintro av μ ⟨o, x1, x2, rfl, ht, hp⟩
    exact Nat.le_of_ble_eq_true rfl
  · rintro av μ ⟨o, x1, x2, rfl, ht, hp⟩
    have h := xX7_valueOf o x1 x2 μ ht hp
    rw [← sg_rii_i_R (P := PX7_valueOf)] at h
    exact h
theorem mX9_thrown {l : Launch} : qMet l yX9_thrown cX9_thrown 1 (some .int) 0 0 spX9_thrown := by
  refine qMet_of (cal := calX9_thrown) (fld := fX9) (cst := kX9) (csl := jX9) (nwo := nX9) false (plainFor_of_name (by decide +kernel)) tabX9 va_AOA_words.1 va_AOA_words.2 (ini := false) (fun h => by cases h) ?_ ?_ ?_
  · intro idx kd q' h p e s m args below meth c D cA B Q hF
    cases h
  · rintro av μ ⟨o, rfl, ht, hp⟩
    exact Nat.le_of_ble_eq_true rfl
  · rintro av μ ⟨o, rfl, ht, hp⟩
    have h := xX9_thrown o μ ht hp
    rw [← sg_r_i_R (P := PX9_thrown)] at h
    exact h
theorem mX9_in {l : Launch} : qMet l yX9_in cX9_in 3 (some .boolean) 0 0 spX9_in := by
  refine qMet_of (cal := calX9_in) (fld := fX9) (cst := kX9) (csl := jX9) (nwo := nX9) false (plainFor_of_name (by decide +kernel)) tabX9 va_AOA_words.1 va_AOA_words.2 (ini := false) (fun h => by cases h) ?_ ?_ ?_
  · intro idx kd q' h p e s m args below meth c D cA B Q hF
    cases h
  · rintro av μ ⟨x1, x2, x3, rfl, hp⟩
    exact Nat.le_of_ble_eq_true rfl
  · rintro av μ ⟨x1, x2, x3, rfl, hp⟩
    have h := xX9_in x1 x2 x3 μ hp
    rw [← sg_siii_i_R (P := PX9_in)] at h
    exact h
theorem mX9_fails {l : Launch} : qMet l yX9_fails cX9_fails 2 (some .int) 0 0 spX9_fails := by
  refine qMet_of (cal := calX9_fails) (fld := fX9) (cst := kX9) (csl := jX9) (nwo := nX9) false (plainFor_of_name (by decide +kernel)) tabX9 va_AOA_words.1 va_AOA_words.2 (ini := false) (fun h => by cases h) ?_ ?_ ?_
  · intro idx kd q' h p e s m args below meth c D cA B Q hF
    cases h
  · rintro av μ ⟨o, x1, rfl, ht, hp⟩
    exact Nat.le_of_ble_eq_true rfl
  · rintro av μ ⟨o, x1, rfl, ht, hp⟩
    have h := xX9_fails o x1 μ ht hp
    rw [← sg_ri_i_R (P := PX9_fails)] at h
    exact h
theorem mX9_tells {l : Launch} : qMet l yX9_tells cX9_tells 2 (some .int) 0 0 spX9_tells := by
  refine qMet_of (cal := calX9_tells) (fld := fX9) (cst := kX9) (csl := jX9) (nwo := nX9) false (plainFor_of_name (by decide +kernel)) tabX9 va_AOA_words.1 va_AOA_words.2 (ini := false) (fun h => by cases h) ?_ ?_ ?_
  · intro idx kd q' h p e s m args below meth c D cA B Q hF
    cases h
  · rintro av μ ⟨o, x1, rfl, ht, hp⟩
    exact Nat.le_of_ble_eq_true rfl
  · rintro av μ ⟨o, x1, rfl, ht, hp⟩
    have h := xX9_tells o x1 μ ht hp
    rw [← sg_ri_i_R (P := PX9_tells)] at h
    exact h
theorem mX9_hold {l : Launch} : qMet l yX9_hold cX9_hold 2 none 0 0 spX9_hold := by
  refine qMet_of (cal := calX9_hold) (fld := fX9) (cst := kX9) (csl := jX9) (nwo := nX9) false (plainFor_of_name (by decide +kernel)) tabX9 va_AOA_words.1 va_AOA_words.2 (ini := false) (fun h => by cases h) ?_ ?_ ?_
  · intro idx kd q' h p e s m args below meth c D cA B Q hF
    cases h
  · rintro av μ ⟨o, rfl, ht, hp⟩
    exact Nat.le_of_ble_eq_true rfl
  · rintro av μ ⟨o, rfl, ht, hp⟩
    have h := xX9_hold o μ ht hp
    rw [← sg_r_v_R (P := PX9_hold)] at h
    exact h
theorem mX9_restore {l : Launch} : qMet l yX9_restore cX9_restore 2 none 0 0 spX9_restore := by
  refine qMet_of (cal := calX9_restore) (fld := fX9) (cst := kX9) (csl := jX9) (nwo := nX9) false (plainFor_of_name (by decide +kernel)) tabX9 va_AOA_words.1 va_AOA_words.2 (ini := false) (fun h => by cases h) ?_ ?_ ?_
  · intro idx kd q' h p e s m args below meth c D cA B Q hF
    cases h
  · rintro av μ ⟨o, rfl, ht, hp⟩
    exact Nat.le_of_ble_eq_true rfl
  · rintro av μ ⟨o, rfl, ht, hp⟩
    have h := xX9_restore o μ ht hp
    rw [← sg_r_v_R (P := PX9_restore)] at h
    exact h
theorem mX9_ends {l : Launch} : qMet l yX9_ends cX9_ends 3 (some .int) 1 21 spX9_ends := by
  refine qMet_of (cal := calX9_ends) (fld := fX9) (cst := kX9) (csl := jX9) (nwo := nX9) false (plainFor_of_name (by decide +kernel)) tabX9 va_AOA_words.1 va_AOA_words.2 (ini := false) (fun h => by cases h) ?_ ?_ ?_
  · intro idx kd q' h p e s m args below meth c D cA B Q hF
    unfold calX9_ends at h
    split at h
    · cases h
      exact qc_V (C := RX9) (T := TX9) (N := 13) hF mX9_tells (by exact (qm_c qw970 (qm_c qw972 (qm_c qw14 (qm_c qw60 (qm_c qw973 qm_0)))))) rfl (by decide +kernel) (by decide) sg_ri_i_recv
    · cases h
  · rintro av μ ⟨o, x1, rfl, ht, hp⟩
    exact Nat.le_of_ble_eq_true rfl
  · rintro av μ ⟨o, x1, rfl, ht, hp⟩
    have h := xX9_ends o x1 μ ht hp
    rw [← sg_ri_i_R (P := PX9_ends)] at h
    exact h
theorem mX9_modulo {l : Launch} : qMet l yX9_modulo cX9_modulo 1 (some .int) 0 0 spX9_modulo := by
  refine qMet_of (cal := calX9_modulo) (fld := fX9) (cst := kX9) (csl := jX9) (nwo := nX9) false (plainFor_of_name (by decide +kernel)) tabX9 va_AOA_words.1 va_AOA_words.2 (ini := false) (fun h => by cases h) ?_ ?_ ?_
  · intro idx kd q' h p e s m args below meth c D cA B Q hF
    cases h
  · rintro av μ ⟨x1, rfl, hp⟩
    exact Nat.le_of_ble_eq_true rfl
  · rintro av μ ⟨x1, rfl, hp⟩
    have h := xX9_modulo x1 μ hp
    rw [← sg_si_i_R (P := PX9_modulo)] at h
    exact h
theorem mX9_difference {l : Launch} : qMet l yX9_difference cX9_difference 3 (some .int) 1 20 spX9_difference := by
  refine qMet_of (cal := calX9_difference) (fld := fX9) (cst := kX9) (csl := jX9) (nwo := nX9) false (plainFor_of_name (by decide +kernel)) tabX9 va_AOA_words.1 va_AOA_words.2 (ini := false) (fun h => by cases h) ?_ ?_ ?_
  · intro idx kd q' h p e s m args below meth c D cA B Q hF
    unfold calX9_difference at h
    split at h
    · cases h
      exact qc_S hF mX9_modulo (by exact (qm_c qw993 (qm_c qw994 (qm_c qw60 (qm_c qw995 qm_0))))) rfl (by decide +kernel) (by decide)
    · cases h
  · rintro av μ ⟨x1, x2, rfl, hp⟩
    exact Nat.le_of_ble_eq_true rfl
  · rintro av μ ⟨x1, x2, rfl, hp⟩
    have h := xX9_difference x1 x2 μ hp
    rw [← sg_sii_i_R (P := PX9_difference)] at h
    exact h
theorem mX9_greatest {l : Launch} : qMet l yX9_greatest cX9_greatest 1 (some .int) 0 0 spX9_greatest := by
  refine qMet_of (cal := calX9_greatest) (fld := fX9) (cst := kX9) (csl := jX9) (nwo := nX9) false (plainFor_of_name (by decide +kernel)) tabX9 va_AOA_words.1 va_AOA_words.2 (ini := false) (fun h => by cases h) ?_ ?_ ?_
  · intro idx kd q' h p e s m args below meth c D cA B Q hF
    cases h
  · rintro av μ ⟨x1, rfl, hp⟩
    exact Nat.le_of_ble_eq_true rfl
  · rintro av μ ⟨x1, rfl, hp⟩
    have h := xX9_greatest x1 μ hp
    rw [← sg_si_i_R (P := PX9_greatest)] at h
    exact h
theorem mX9_isPolicy {l : Launch} : qMet l yX9_isPolicy cX9_isPolicy 2 (some .boolean) 1 22 spX9_isPolicy := by
  refine qMet_of (cal := calX9_isPolicy) (fld := fX9) (cst := kX9) (csl := jX9) (nwo := nX9) false (plainFor_of_name (by decide +kernel)) tabX9 va_AOA_words.1 va_AOA_words.2 (ini := false) (fun h => by cases h) ?_ ?_ ?_
  · intro idx kd q' h p e s m args below meth c D cA B Q hF
    unfold calX9_isPolicy at h
    split at h
    · cases h
      exact qc_S hF mX9_in (by exact (qm_c qw951 (qm_c qw952 (qm_c qw60 (qm_c qw953 qm_0))))) rfl (by decide +kernel) (by decide)
    · cases h
  · rintro av μ ⟨x1, x2, rfl, hp⟩
    exact Nat.le_of_ble_eq_true rfl
  · rintro av μ ⟨x1, x2, rfl, hp⟩
    have h := xX9_isPolicy x1 x2 μ hp
    rw [← sg_sii_i_R (P := PX9_isPolicy)] at h
    exact h
theorem mX9_goesOn {l : Launch} : qMet l yX9_goesOn cX9_goesOn 1 none 1 20 spX9_goesOn := by
  refine qMet_of (cal := calX9_goesOn) (fld := fX9) (cst := kX9) (csl := jX9) (nwo := nX9) false (plainFor_of_name (by decide +kernel)) tabX9 va_AOA_words.1 va_AOA_words.2 (ini := false) (fun h => by cases h) ?_ ?_ ?_
  · intro idx kd q' h p e s m args below meth c D cA B Q hF
    unfold calX9_goesOn at h
    split at h
    · cases h
      exact qc_S hF mX9_modulo (by exact (qm_c qw993 (qm_c qw994 (qm_c qw60 (qm_c qw995 qm_0))))) rfl (by decide +kernel) (by decide)
    · cases h
  · rintro av μ ⟨o, rfl, ht, hp⟩
    exact Nat.le_of_ble_eq_true rfl
  · rintro av μ ⟨o, rfl, ht, hp⟩
    have h := xX9_goesOn o μ ht hp
    rw [← sg_r_v_R (P := PX9_goesOn)] at h
    exact h
theorem mX9_of {l : Launch} : qMet l yX9_of cX9_of 3 (some .int) 0 0 spX9_of := by
  refine qMet_of (cal := calX9_of) (fld := fX9) (cst := kX9) (csl := jX9) (nwo := nX9) false (plainFor_of_name (by decide +kernel)) tabX9 va_AOA_words.1 va_AOA_words.2 (ini := false) (fun h => by cases h) ?_ ?_ ?_
  · intro idx kd q' h p e s m args below meth c D cA B Q hF
    cases h
  · rintro av μ ⟨o, x1, x2, rfl, ht, hp⟩
    exact Nat.le_of_ble_eq_true rfl
  · rintro av μ ⟨o, x1, x2, rfl, ht, hp⟩
    have h := xX9_of o x1 x2 μ ht hp
    rw [← sg_rii_i_R (P := PX9_of)] at h
    exact h
theorem mX9_puts {l : Launch} : qMet l yX9_puts cX9_puts 4 none 0 0 spX9_puts := by
  refine qMet_of (cal := calX9_puts) (fld := fX9) (cst := kX9) (csl := jX9) (nwo := nX9) false (plainFor_of_name (by decide +kernel)) tabX9 va_AOA_words.1 va_AOA_words.2 (ini := false) (fun h => by cases h) ?_ ?_ ?_
  · intro idx kd q' h p e s m args below meth c D cA B Q hF
    cases h
  · rintro av μ ⟨o, x1, x2, x3, rfl, ht, hp⟩
    exact Nat.le_of_ble_eq_true rfl
  · rintro av μ ⟨o, x1, x2, x3, rfl, ht, hp⟩
    have h := xX9_puts o x1 x2 x3 μ ht hp
    rw [← sg_riii_v_R (P := PX9_puts)] at h
    exact h
theorem mX9_baseOf {l : Launch} : qMet l yX9_baseOf cX9_baseOf 5 (some .int) 1 22 spX9_baseOf := by
  refine qMet_of (cal := calX9_baseOf) (fld := fX9) (cst := kX9) (csl := jX9) (nwo := nX9) false (plainFor_of_name (by decide +kernel)) tabX9 va_AOA_words.1 va_AOA_words.2 (ini := false) (fun h => by cases h) ?_ ?_ ?_
  · intro idx kd q' h p e s m args below meth c D cA B Q hF
    unfold calX9_baseOf at h
    split at h
    · cases h
      exact qc_S hF mX9_modulo (by exact (qm_c qw993 (qm_c qw994 (qm_c qw60 (qm_c qw995 qm_0))))) rfl (by decide +kernel) (by decide)
    · cases h
      exact qc_S hF mX9_in (by exact (qm_c qw951 (qm_c qw952 (qm_c qw60 (qm_c qw953 qm_0))))) rfl (by decide +kernel) (by decide)
    · cases h
  · rintro av μ ⟨x1, x2, x3, x4, x5, rfl, hp⟩
    exact Nat.le_of_ble_eq_true rfl
  · rintro av μ ⟨x1, x2, x3, x4, x5, rfl, hp⟩
    have h := xX9_baseOf x1 x2 x3 x4 x5 μ hp
    rw [← sg_siiiii_i_R (P := PX9_baseOf)] at h
    exact h
theorem mX9_bytesFor {l : Launch} : qMet l yX9_bytesFor cX9_bytesFor 1 (some .int) 1 22 spX9_bytesFor := by
  refine qMet_of (cal := calX9_bytesFor) (fld := fX9) (cst := kX9) (csl := jX9) (nwo := nX9) false (plainFor_of_name (by decide +kernel)) tabX9 va_AOA_words.1 va_AOA_words.2 (ini := false) (fun h => by cases h) ?_ ?_ ?_
  · intro idx kd q' h p e s m args below meth c D cA B Q hF
    unfold calX9_bytesFor at h
    split at h
    · cases h
      exact qc_S hF mX9_in (by exact (qm_c qw951 (qm_c qw952 (qm_c qw60 (qm_c qw953 qm_0))))) rfl (by decide +kernel) (by decide)
    · cases h
  · rintro av μ ⟨x1, rfl, hp⟩
    exact Nat.le_of_ble_eq_true rfl
  · rintro av μ ⟨x1, rfl, hp⟩
    have h := xX9_bytesFor x1 μ hp
    rw [← sg_si_i_R (P := PX9_bytesFor)] at h
    exact h
theorem mX9_formFor {l : Launch} : qMet l yX9_formFor cX9_formFor 3 (some .int) 0 0 spX9_formFor := by
  refine qMet_of (cal := calX9_formFor) (fld := fX9) (cst := kX9) (csl := jX9) (nwo := nX9) false (plainFor_of_name (by decide +kernel)) tabX9 va_AOA_words.1 va_AOA_words.2 (ini := false) (fun h => by cases h) ?_ ?_ ?_
  · intro idx kd q' h p e s m args below meth c D cA B Q hF
    cases h
  · rintro av μ ⟨o, x1, x2, rfl, ht, hp⟩
    exact Nat.le_of_ble_eq_true rfl
  · rintro av μ ⟨o, x1, x2, rfl, ht, hp⟩
    have h := xX9_formFor o x1 x2 μ ht hp
    rw [← sg_rii_i_R (P := PX9_formFor)] at h
    exact h
theorem mX9_joins {l : Launch} : qMet l yX9_joins cX9_joins 3 none 0 0 spX9_joins := by
  refine qMet_of (cal := calX9_joins) (fld := fX9) (cst := kX9) (csl := jX9) (nwo := nX9) false (plainFor_of_name (by decide +kernel)) tabX9 va_AOA_words.1 va_AOA_words.2 (ini := false) (fun h => by cases h) ?_ ?_ ?_
  · intro idx kd q' h p e s m args below meth c D cA B Q hF
    cases h
  · rintro av μ ⟨o, x1, x2, rfl, ht, hp⟩
    exact Nat.le_of_ble_eq_true rfl
  · rintro av μ ⟨o, x1, x2, rfl, ht, hp⟩
    have h := xX9_joins o x1 x2 μ ht hp
    rw [← sg_rii_v_R (P := PX9_joins)] at h
    exact h
theorem mX9_maySend {l : Launch} : qMet l yX9_maySend cX9_maySend 2 (some .boolean) 0 0 spX9_maySend := by
  refine qMet_of (cal := calX9_maySend) (fld := fX9) (cst := kX9) (csl := jX9) (nwo := nX9) false (plainFor_of_name (by decide +kernel)) tabX9 va_AOA_words.1 va_AOA_words.2 (ini := false) (fun h => by cases h) ?_ ?_ ?_
  · intro idx kd q' h p e s m args below meth c D cA B Q hF
    cases h
  · rintro av μ ⟨o, x1, rfl, ht, hp⟩
    exact Nat.le_of_ble_eq_true rfl
  · rintro av μ ⟨o, x1, rfl, ht, hp⟩
    have h := xX9_maySend o x1 μ ht hp
    rw [← sg_ri_i_R (P := PX9_maySend)] at h
    exact h
theorem mX9_placeOf {l : Launch} : qMet l yX9_placeOf cX9_placeOf 3 (some .int) 0 0 spX9_placeOf := by
  refine qMet_of (cal := calX9_placeOf) (fld := fX9) (cst := kX9) (csl := jX9) (nwo := nX9) false (plainFor_of_name (by decide +kernel)) tabX9 va_AOA_words.1 va_AOA_words.2 (ini := false) (fun h => by cases h) ?_ ?_ ?_
  · intro idx kd q' h p e s m args below meth c D cA B Q hF
    cases h
  · rintro av μ ⟨o, x1, rfl, ht, hp⟩
    exact Nat.le_of_ble_eq_true rfl
  · rintro av μ ⟨o, x1, rfl, ht, hp⟩
    have h := xX9_placeOf o x1 μ ht hp
    rw [← sg_ri_i_R (P := PX9_placeOf)] at h
    exact h
theorem mX9_numberOf {l : Launch} : qMet l yX9_numberOf cX9_numberOf 3 (some .int) 0 0 spX9_numberOf := by
  refine qMet_of (cal := calX9_numberOf) (fld := fX9) (cst := kX9) (csl := jX9) (nwo := nX9) false (plainFor_of_name (by decide +kernel)) tabX9 va_AOA_words.1 va_AOA_words.2 (ini := false) (fun h => by cases h) ?_ ?_ ?_
  · intro idx kd q' h p e s m args below meth c D cA B Q hF
    cases h
  · rintro av μ ⟨o, x1, rfl, ht, hp⟩
    exact Nat.le_of_ble_eq_true rfl
  · rintro av μ ⟨o, x1, rfl, ht, hp⟩
    have h := xX9_numberOf o x1 μ ht hp
    rw [← sg_ri_i_R (P := PX9_numberOf)] at h
    exact h
theorem mX9_isIn {l : Launch} : qMet l yX9_isIn cX9_isIn 3 (some .boolean) 1 22 spX9_isIn := by
  refine qMet_of (cal := calX9_isIn) (fld := fX9) (cst := kX9) (csl := jX9) (nwo := nX9) false (plainFor_of_name (by decide +kernel)) tabX9 va_AOA_words.1 va_AOA_words.2 (ini := false) (fun h => by cases h) ?_ ?_ ?_
  · intro idx kd q' h p e s m args below meth c D cA B Q hF
    unfold calX9_isIn at h
    split at h
    · cases h
      exact qc_S hF mX9_in (by exact (qm_c qw951 (qm_c qw952 (qm_c qw60 (qm_c qw953 qm_0))))) rfl (by decide +kernel) (by decide)
    · cases h
  · rintro av μ ⟨o, x1, x2, rfl, ht, hp⟩
    exact Nat.le_of_ble_eq_true rfl
  · rintro av μ ⟨o, x1, x2, rfl, ht, hp⟩
    have h := xX9_isIn o x1 x2 μ ht hp
    rw [← sg_rii_i_R (P := PX9_isIn)] at h
    exact h
theorem mX9_counted {l : Launch} : qMet l yX9_counted cX9_counted 2 (some .int) 0 0 spX9_counted := by
  refine qMet_of (cal := calX9_counted) (fld := fX9) (cst := kX9) (csl := jX9) (nwo := nX9) false (plainFor_of_name (by decide +kernel)) tabX9 va_AOA_words.1 va_AOA_words.2 (ini := false) (fun h => by cases h) ?_ ?_ ?_
  · intro idx kd q' h p e s m args below meth c D cA B Q hF
    cases h
  · rintro av μ ⟨o, x1, rfl, ht, hp⟩
    exact Nat.le_of_ble_eq_true rfl
  · rintro av μ ⟨o, x1, rfl, ht, hp⟩
    have h := xX9_counted o x1 μ ht hp
    rw [← sg_ri_i_R (P := PX9_counted)] at h
    exact h
theorem mX9_spared {l : Launch} : qMet l yX9_spared cX9_spared 1 (some .int) 0 0 spX9_spared := by
  refine qMet_of (cal := calX9_spared) (fld := fX9) (cst := kX9) (csl := jX9) (nwo := nX9) false (plainFor_of_name (by decide +kernel)) tabX9 va_AOA_words.1 va_AOA_words.2 (ini := false) (fun h => by cases h) ?_ ?_ ?_
  · intro idx kd q' h p e s m args below meth c D cA B Q hF
    cases h
  · rintro av μ ⟨o, rfl, ht, hp⟩
    exact Nat.le_of_ble_eq_true rfl
  · rintro av μ ⟨o, rfl, ht, hp⟩
    have h := xX9_spared o μ ht hp
    rw [← sg_r_i_R (P := PX9_spared)] at h
    exact h
theorem mX9_recordOf {l : Launch} : qMet l yX9_recordOf cX9_recordOf 4 (some .int) 1 22 spX9_recordOf := by
  refine qMet_of (cal := calX9_recordOf) (fld := fX9) (cst := kX9) (csl := jX9) (nwo := nX9) false (plainFor_of_name (by decide +kernel)) tabX9 va_AOA_words.1 va_AOA_words.2 (ini := false) (fun h => by cases h) ?_ ?_ ?_
  · intro idx kd q' h p e s m args below meth c D cA B Q hF
    unfold calX9_recordOf at h
    split at h
    · cases h
      exact qc_V (C := RX9) (T := TX9) (N := 13) hF mX9_placeOf (by exact (qm_c qw1094 (qm_c qw1096 (qm_c qw31 (qm_c qw60 (qm_c qw1097 qm_0)))))) rfl (by decide +kernel) (by decide) sg_ri_i_recv
    · cases h
  · rintro av μ ⟨o, x1, x2, rfl, ht, hp⟩
    exact Nat.le_of_ble_eq_true rfl
  · rintro av μ ⟨o, x1, x2, rfl, ht, hp⟩
    have h := xX9_recordOf o x1 x2 μ ht hp
    rw [← sg_rii_i_R (P := PX9_recordOf)] at h
    exact h
theorem mX9_told {l : Launch} : qMet l yX9_told cX9_told 3 (some .int) 1 22 spX9_told := by
  refine qMet_of (cal := calX9_told) (fld := fX9) (cst := kX9) (csl := jX9) (nwo := nX9) false (plainFor_of_name (by decide +kernel)) tabX9 va_AOA_words.1 va_AOA_words.2 (ini := false) (fun h => by cases h) ?_ ?_ ?_
  · intro idx kd q' h p e s m args below meth c D cA B Q hF
    unfold calX9_told at h
    split at h
    · cases h
      exact qc_V (C := RX9) (T := TX9) (N := 13) hF mX9_of (by exact (qm_c qw1012 (qm_c qw1014 (qm_c qw19 (qm_c qw60 (qm_c qw1015 qm_0)))))) rfl (by decide +kernel) (by decide) sg_rii_i_recv
    · cases h
  · rintro av μ ⟨o, x1, x2, rfl, ht, hp⟩
    exact Nat.le_of_ble_eq_true rfl
  · rintro av μ ⟨o, x1, x2, rfl, ht, hp⟩
    have h := xX9_told o x1 x2 μ ht hp
    rw [← sg_rii_i_R (P := PX9_told)] at h
    exact h
theorem mX9_trusted {l : Launch} : qMet l yX9_trusted cX9_trusted 4 (some .int) 1 22 spX9_trusted := by
  refine qMet_of (cal := calX9_trusted) (fld := fX9) (cst := kX9) (csl := jX9) (nwo := nX9) false (plainFor_of_name (by decide +kernel)) tabX9 va_AOA_words.1 va_AOA_words.2 (ini := false) (fun h => by cases h) ?_ ?_ ?_
  · intro idx kd q' h p e s m args below meth c D cA B Q hF
    unfold calX9_trusted at h
    split at h
    · cases h
      exact qc_V (C := RX9) (T := TX9) (N := 13) hF mX9_of (by exact (qm_c qw1012 (qm_c qw1014 (qm_c qw19 (qm_c qw60 (qm_c qw1015 qm_0)))))) rfl (by decide +kernel) (by decide) sg_rii_i_recv
    · cases h
  · rintro av μ ⟨o, x1, rfl, ht, hp⟩
    exact Nat.le_of_ble_eq_true rfl
  · rintro av μ ⟨o, x1, rfl, ht, hp⟩
    have h := xX9_trusted o x1 μ ht hp
    rw [← sg_ri_i_R (P := PX9_trusted)] at h
    exact h
theorem mX9_senderBase {l : Launch} : qMet l yX9_senderBase cX9_senderBase 5 (some .int) 2 46 spX9_senderBase := by
  refine qMet_of (cal := calX9_senderBase) (fld := fX9) (cst := kX9) (csl := jX9) (nwo := nX9) false (plainFor_of_name (by decide +kernel)) tabX9 va_AOA_words.1 va_AOA_words.2 (ini := false) (fun h => by cases h) ?_ ?_ ?_
  · intro idx kd q' h p e s m args below meth c D cA B Q hF
    unfold calX9_senderBase at h
    split at h
    · cases h
      exact qc_S hF mX9_in (by exact (qm_c qw951 (qm_c qw952 (qm_c qw60 (qm_c qw953 qm_0))))) rfl (by decide +kernel) (by decide)
    · cases h
      exact qc_V (C := RX9) (T := TX9) (N := 13) hF mX9_of (by exact (qm_c qw1012 (qm_c qw1014 (qm_c qw19 (qm_c qw60 (qm_c qw1015 qm_0)))))) rfl (by decide +kernel) (by decide) sg_rii_i_recv
    · cases h
      exact qc_S hF mX9_baseOf (by exact (qm_c qw1028 (qm_c qw1029 (qm_c qw60 (qm_c qw1030 qm_0))))) rfl (by decide +kernel) (by decide)
    · cases h
  · rintro av μ ⟨o, x1, x2, x3, x4, rfl, ht, hp⟩
    exact Nat.le_of_ble_eq_true rfl
  · rintro av μ ⟨o, x1, x2, x3, x4, rfl, ht, hp⟩
    have h := xX9_senderBase o x1 x2 x3 x4 μ ht hp
    rw [← sg_riiii_i_R (P := PX9_senderBase)] at h
    exact h
theorem mX9_sizeOf {l : Launch} : qMet l yX9_sizeOf cX9_sizeOf 8 (some .int) 3 70 spX9_sizeOf := by
  refine qMet_of (cal := calX9_sizeOf) (fld := fX9) (cst := kX9) (csl := jX9) (nwo := nX9) false (plainFor_of_name (by decide +kernel)) tabX9 va_AOA_words.1 va_AOA_words.2 (ini := false) (fun h => by cases h) ?_ ?_ ?_
  · intro idx kd q' h p e s m args below meth c D cA B Q hF
    unfold calX9_sizeOf at h
    split at h
    · cases h
      exact qc_S hF mX9_in (by exact (qm_c qw951 (qm_c qw952 (qm_c qw60 (qm_c qw953 qm_0))))) rfl (by decide +kernel) (by decide)
    · cases h
      exact qc_V (C := RX9) (T := TX9) (N := 13) hF mX9_senderBase (by exact (qm_c qw1024 (qm_c qw1026 (qm_c qw22 (qm_c qw60 (qm_c qw1027 qm_0)))))) rfl (by decide +kernel) (by decide) sg_riiii_i_recv
    · cases h
      exact qc_S hF mX9_difference (by exact (qm_c qw1031 (qm_c qw1032 (qm_c qw60 (qm_c qw1033 qm_0))))) rfl (by decide +kernel) (by decide)
    · cases h
      exact qc_S hF mX9_bytesFor (by exact (qm_c qw1035 (qm_c qw1036 (qm_c qw60 (qm_c qw1037 qm_0))))) rfl (by decide +kernel) (by decide)
    · cases h
  · rintro av μ ⟨o, x1, x2, rfl, ht, hp⟩
    exact Nat.le_of_ble_eq_true rfl
  · rintro av μ ⟨o, x1, x2, rfl, ht, hp⟩
    have h := xX9_sizeOf o x1 x2 μ ht hp
    rw [← sg_rii_i_R (P := PX9_sizeOf)] at h
    exact h
theorem mX9_sends {l : Launch} : qMet l yX9_sends cX9_sends 6 none 4 97 spX9_sends := by
  refine qMet_of (cal := calX9_sends) (fld := fX9) (cst := kX9) (csl := jX9) (nwo := nX9) false (plainFor_of_name (by decide +kernel)) tabX9 va_AOA_words.1 va_AOA_words.2 (ini := false) (fun h => by cases h) ?_ ?_ ?_
  · intro idx kd q' h p e s m args below meth c D cA B Q hF
    unfold calX9_sends at h
    split at h
    · cases h
      exact qc_V (C := RX9) (T := TX9) (N := 13) hF mX9_of (by exact (qm_c qw1012 (qm_c qw1014 (qm_c qw19 (qm_c qw60 (qm_c qw1015 qm_0)))))) rfl (by decide +kernel) (by decide) sg_rii_i_recv
    · cases h
      exact qc_V (C := RX9) (T := TX9) (N := 13) hF mX9_trusted (by exact (qm_c qw1008 (qm_c qw1010 (qm_c qw18 (qm_c qw60 (qm_c qw1011 qm_0)))))) rfl (by decide +kernel) (by decide) sg_ri_i_recv
    · cases h
      exact qc_V (C := RX9) (T := TX9) (N := 13) hF mX9_formFor (by exact (qm_c qw1016 (qm_c qw1018 (qm_c qw20 (qm_c qw60 (qm_c qw1019 qm_0)))))) rfl (by decide +kernel) (by decide) sg_rii_i_recv
    · cases h
      exact qc_V (C := RX9) (T := TX9) (N := 13) hF mX9_sizeOf (by exact (qm_c qw1020 (qm_c qw1022 (qm_c qw21 (qm_c qw60 (qm_c qw1023 qm_0)))))) rfl (by decide +kernel) (by decide) sg_rii_i_recv
    · cases h
      exact qc_V (C := RX9) (T := TX9) (N := 13) hF mX9_puts (by exact (qm_c qw1038 (qm_c qw1040 (qm_c qw23 (qm_c qw60 (qm_c qw1041 qm_0)))))) rfl (by decide +kernel) (by decide) sg_riii_v_recv
    · cases h
      exact qc_V (C := RX9) (T := TX9) (N := 13) hF mX9_joins (by exact (qm_c qw1042 (qm_c qw1044 (qm_c qw24 (qm_c qw60 (qm_c qw1045 qm_0)))))) rfl (by decide +kernel) (by decide) sg_rii_v_recv
    · cases h
  · rintro av μ ⟨o, rfl, ht, hp⟩
    exact Nat.le_of_ble_eq_true rfl
  · rintro av μ ⟨o, rfl, ht, hp⟩
    have h := xX9_sends o μ ht hp
    rw [← sg_r_v_R (P := PX9_sends)] at h
    exact h
theorem mX9_decodes {l : Launch} : qMet l yX9_decodes cX9_decodes 10 none 3 70 spX9_decodes := by
  refine qMet_of (cal := calX9_decodes) (fld := fX9) (cst := kX9) (csl := jX9) (nwo := nX9) false (plainFor_of_name (by decide +kernel)) tabX9 va_AOA_words.1 va_AOA_words.2 (ini := false) (fun h => by cases h) ?_ ?_ ?_
  · intro idx kd q' h p e s m args below meth c D cA B Q hF
    unfold calX9_decodes at h
    split at h
    · cases h
      exact qc_S hF mX9_modulo (by exact (qm_c qw993 (qm_c qw994 (qm_c qw60 (qm_c qw995 qm_0))))) rfl (by decide +kernel) (by decide)
    · cases h
      exact qc_S hF mX9_in (by exact (qm_c qw951 (qm_c qw952 (qm_c qw60 (qm_c qw953 qm_0))))) rfl (by decide +kernel) (by decide)
    · cases h
      exact qc_V (C := RX9) (T := TX9) (N := 13) hF mX9_of (by exact (qm_c qw1012 (qm_c qw1014 (qm_c qw19 (qm_c qw60 (qm_c qw1015 qm_0)))))) rfl (by decide +kernel) (by decide) sg_rii_i_recv
    · cases h
      exact qc_S hF mX9_baseOf (by exact (qm_c qw1028 (qm_c qw1029 (qm_c qw60 (qm_c qw1030 qm_0))))) rfl (by decide +kernel) (by decide)
    · cases h
      exact qc_V (C := RX9) (T := TX9) (N := 13) hF mX9_senderBase (by exact (qm_c qw1024 (qm_c qw1026 (qm_c qw22 (qm_c qw60 (qm_c qw1027 qm_0)))))) rfl (by decide +kernel) (by decide) sg_riiii_i_recv
    · cases h
      exact qc_S hF mX9_difference (by exact (qm_c qw1031 (qm_c qw1032 (qm_c qw60 (qm_c qw1033 qm_0))))) rfl (by decide +kernel) (by decide)
    · cases h
  · rintro av μ ⟨o, x1, x2, x3, rfl, ht, hp⟩
    exact Nat.le_of_ble_eq_true rfl
  · rintro av μ ⟨o, x1, x2, x3, rfl, ht, hp⟩
    have h := xX9_decodes o x1 x2 x3 μ ht hp
    rw [← sg_riii_v_R (P := PX9_decodes)] at h
    exact h
theorem mX9_drops {l : Launch} : qMet l yX9_drops cX9_drops 3 none 0 0 spX9_drops := by
  refine qMet_of (cal := calX9_drops) (fld := fX9) (cst := kX9) (csl := jX9) (nwo := nX9) false (plainFor_of_name (by decide +kernel)) tabX9 va_AOA_words.1 va_AOA_words.2 (ini := false) (fun h => by cases h) ?_ ?_ ?_
  · intro idx kd q' h p e s m args below meth c D cA B Q hF
    cases h
  · rintro av μ ⟨o, x1, rfl, ht, hp⟩
    exact Nat.le_of_ble_eq_true rfl
  · rintro av μ ⟨o, x1, rfl, ht, hp⟩
    have h := xX9_drops o x1 μ ht hp
    rw [← sg_ri_v_R (P := PX9_drops)] at h
    exact h
theorem mX9_keeps {l : Launch} : qMet l yX9_keeps cX9_keeps 4 none 1 22 spX9_keeps := by
  refine qMet_of (cal := calX9_keeps) (fld := fX9) (cst := kX9) (csl := jX9) (nwo := nX9) false (plainFor_of_name (by decide +kernel)) tabX9 va_AOA_words.1 va_AOA_words.2 (ini := false) (fun h => by cases h) ?_ ?_ ?_
  · intro idx kd q' h p e s m args below meth c D cA B Q hF
    unfold calX9_keeps at h
    split at h
    · cases h
      exact qc_V (C := RX9) (T := TX9) (N := 13) hF mX9_drops (by exact (qm_c qw1110 (qm_c qw1112 (qm_c qw35 (qm_c qw60 (qm_c qw1113 qm_0)))))) rfl (by decide +kernel) (by decide) sg_ri_v_recv
    · cases h
  · rintro av μ ⟨o, x1, rfl, ht, hp⟩
    exact Nat.le_of_ble_eq_true rfl
  · rintro av μ ⟨o, x1, rfl, ht, hp⟩
    have h := xX9_keeps o x1 μ ht hp
    rw [← sg_ri_v_R (P := PX9_keeps)] at h
    exact h
theorem mX9_fails2 {l : Launch} : qMet l yX9_fails2 cX9_fails2 1 (some .int) 1 22 spX9_fails2 := by
  refine qMet_of (cal := calX9_fails2) (fld := fX9) (cst := kX9) (csl := jX9) (nwo := nX9) false (plainFor_of_name (by decide +kernel)) tabX9 va_AOA_words.1 va_AOA_words.2 (ini := false) (fun h => by cases h) ?_ ?_ ?_
  · intro idx kd q' h p e s m args below meth c D cA B Q hF
    unfold calX9_fails2 at h
    split at h
    · cases h
      exact qc_V (C := RX9) (T := TX9) (N := 13) hF mX9_joins (by exact (qm_c qw1042 (qm_c qw1044 (qm_c qw24 (qm_c qw60 (qm_c qw1045 qm_0)))))) rfl (by decide +kernel) (by decide) sg_rii_v_recv
    · cases h
  · rintro av μ ⟨o, rfl, ht, hp⟩
    exact Nat.le_of_ble_eq_true rfl
  · rintro av μ ⟨o, rfl, ht, hp⟩
    have h := xX9_fails2 o μ ht hp
    rw [← sg_r_i_R (P := PX9_fails2)] at h
    exact h
theorem mX9_takes {l : Launch} : qMet l yX9_takes cX9_takes 5 (some .int) 0 0 spX9_takes := by
  refine qMet_of (cal := calX9_takes) (fld := fX9) (cst := kX9) (csl := jX9) (nwo := nX9) false (plainFor_of_name (by decide +kernel)) tabX9 va_AOA_words.1 va_AOA_words.2 (ini := false) (fun h => by cases h) ?_ ?_ ?_
  · intro idx kd q' h p e s m args below meth c D cA B Q hF
    cases h
  · rintro av μ ⟨o, x1, x2, rfl, ht, hp⟩
    exact Nat.le_of_ble_eq_true rfl
  · rintro av μ ⟨o, x1, x2, rfl, ht, hp⟩
    have h := xX9_takes o x1 x2 μ ht hp
    rw [← sg_rii_i_R (P := PX9_takes)] at h
    exact h
theorem mX9_receives {l : Launch} : qMet l yX9_receives cX9_receives 7 (some .int) 4 99 spX9_receives := by
  refine qMet_of (cal := calX9_receives) (fld := fX9) (cst := kX9) (csl := jX9) (nwo := nX9) false (plainFor_of_name (by decide +kernel)) tabX9 va_AOA_words.1 va_AOA_words.2 (ini := false) (fun h => by cases h) ?_ ?_ ?_
  · intro idx kd q' h p e s m args below meth c D cA B Q hF
    unfold calX9_receives at h
    split at h
    · cases h
      exact qc_V (C := RX9) (T := TX9) (N := 13) hF mX9_of (by exact (qm_c qw1012 (qm_c qw1014 (qm_c qw19 (qm_c qw60 (qm_c qw1015 qm_0)))))) rfl (by decide +kernel) (by decide) sg_rii_i_recv
    · cases h
      exact qc_V (C := RX9) (T := TX9) (N := 13) hF mX9_joins (by exact (qm_c qw1042 (qm_c qw1044 (qm_c qw24 (qm_c qw60 (qm_c qw1045 qm_0)))))) rfl (by decide +kernel) (by decide) sg_rii_v_recv
    · cases h
      exact qc_V (C := RX9) (T := TX9) (N := 13) hF mX9_numberOf (by exact (qm_c qw1090 (qm_c qw1092 (qm_c qw30 (qm_c qw60 (qm_c qw1093 qm_0)))))) rfl (by decide +kernel) (by decide) sg_ri_i_recv
    · cases h
      exact qc_V (C := RX9) (T := TX9) (N := 13) hF mX9_placeOf (by exact (qm_c qw1094 (qm_c qw1096 (qm_c qw31 (qm_c qw60 (qm_c qw1097 qm_0)))))) rfl (by decide +kernel) (by decide) sg_ri_i_recv
    · cases h
      exact qc_V (C := RX9) (T := TX9) (N := 13) hF mX9_fails2 (by exact (qm_c qw1098 (qm_c qw1100 (qm_c qw32 (qm_c qw60 (qm_c qw1101 qm_0)))))) rfl (by decide +kernel) (by decide) sg_r_i_recv
    · cases h
      exact qc_V (C := RX9) (T := TX9) (N := 13) hF mX9_decodes (by exact (qm_c qw1102 (qm_c qw1104 (qm_c qw33 (qm_c qw60 (qm_c qw1105 qm_0)))))) rfl (by decide +kernel) (by decide) sg_riii_v_recv
    · cases h
      exact qc_V (C := RX9) (T := TX9) (N := 13) hF mX9_keeps (by exact (qm_c qw1106 (qm_c qw1108 (qm_c qw34 (qm_c qw60 (qm_c qw1109 qm_0)))))) rfl (by decide +kernel) (by decide) sg_ri_v_recv
    · cases h
  · rintro av μ ⟨o, x1, rfl, ht, hp⟩
    exact Nat.le_of_ble_eq_true rfl
  · rintro av μ ⟨o, x1, rfl, ht, hp⟩
    have h := xX9_receives o x1 μ ht hp
    rw [← sg_ri_i_R (P := PX9_receives)] at h
    exact h
theorem mX9_delivers {l : Launch} : qMet l yX9_delivers cX9_delivers 2 (some .int) 5 125 spX9_delivers := by
  refine qMet_of (cal := calX9_delivers) (fld := fX9) (cst := kX9) (csl := jX9) (nwo := nX9) false (plainFor_of_name (by decide +kernel)) tabX9 va_AOA_words.1 va_AOA_words.2 (ini := false) (fun h => by cases h) ?_ ?_ ?_
  · intro idx kd q' h p e s m args below meth c D cA B Q hF
    unfold calX9_delivers at h
    split at h
    · cases h
      exact qc_V (C := RX9) (T := TX9) (N := 13) hF mX9_isIn (by exact (qm_c qw1078 (qm_c qw1080 (qm_c qw27 (qm_c qw60 (qm_c qw1081 qm_0)))))) rfl (by decide +kernel) (by decide) sg_rii_i_recv
    · cases h
      exact qc_V (C := RX9) (T := TX9) (N := 13) hF mX9_takes (by exact (qm_c qw1082 (qm_c qw1084 (qm_c qw28 (qm_c qw60 (qm_c qw1085 qm_0)))))) rfl (by decide +kernel) (by decide) sg_rii_i_recv
    · cases h
      exact qc_V (C := RX9) (T := TX9) (N := 13) hF mX9_receives (by exact (qm_c qw1086 (qm_c qw1088 (qm_c qw29 (qm_c qw60 (qm_c qw1089 qm_0)))))) rfl (by decide +kernel) (by decide) sg_ri_i_recv
    · cases h
  · rintro av μ ⟨o, x1, rfl, ht, hp⟩
    exact Nat.le_of_ble_eq_true rfl
  · rintro av μ ⟨o, x1, rfl, ht, hp⟩
    have h := xX9_delivers o x1 μ ht hp
    rw [← sg_ri_i_R (P := PX9_delivers)] at h
    exact h
theorem mX9_loses {l : Launch} : qMet l yX9_loses cX9_loses 3 (some .int) 2 44 spX9_loses := by
  refine qMet_of (cal := calX9_loses) (fld := fX9) (cst := kX9) (csl := jX9) (nwo := nX9) false (plainFor_of_name (by decide +kernel)) tabX9 va_AOA_words.1 va_AOA_words.2 (ini := false) (fun h => by cases h) ?_ ?_ ?_
  · intro idx kd q' h p e s m args below meth c D cA B Q hF
    unfold calX9_loses at h
    split at h
    · cases h
      exact qc_V (C := RX9) (T := TX9) (N := 13) hF mX9_isIn (by exact (qm_c qw1078 (qm_c qw1080 (qm_c qw27 (qm_c qw60 (qm_c qw1081 qm_0)))))) rfl (by decide +kernel) (by decide) sg_rii_i_recv
    · cases h
      exact qc_V (C := RX9) (T := TX9) (N := 13) hF mX9_takes (by exact (qm_c qw1082 (qm_c qw1084 (qm_c qw28 (qm_c qw60 (qm_c qw1085 qm_0)))))) rfl (by decide +kernel) (by decide) sg_rii_i_recv
    · cases h
  · rintro av μ ⟨o, x1, x2, rfl, ht, hp⟩
    exact Nat.le_of_ble_eq_true rfl
  · rintro av μ ⟨o, x1, x2, rfl, ht, hp⟩
    have h := xX9_loses o x1 x2 μ ht hp
    rw [← sg_rii_i_R (P := PX9_loses)] at h
    exact h
theorem mX9_copies {l : Launch} : qMet l yX9_copies cX9_copies 2 (some .int) 2 44 spX9_copies := by
  refine qMet_of (cal := calX9_copies) (fld := fX9) (cst := kX9) (csl := jX9) (nwo := nX9) false (plainFor_of_name (by decide +kernel)) tabX9 va_AOA_words.1 va_AOA_words.2 (ini := false) (fun h => by cases h) ?_ ?_ ?_
  · intro idx kd q' h p e s m args below meth c D cA B Q hF
    unfold calX9_copies at h
    split at h
    · cases h
      exact qc_V (C := RX9) (T := TX9) (N := 13) hF mX9_joins (by exact (qm_c qw1042 (qm_c qw1044 (qm_c qw24 (qm_c qw60 (qm_c qw1045 qm_0)))))) rfl (by decide +kernel) (by decide) sg_rii_v_recv
    · cases h
      exact qc_V (C := RX9) (T := TX9) (N := 13) hF mX9_isIn (by exact (qm_c qw1078 (qm_c qw1080 (qm_c qw27 (qm_c qw60 (qm_c qw1081 qm_0)))))) rfl (by decide +kernel) (by decide) sg_rii_i_recv
    · cases h
  · rintro av μ ⟨o, x1, rfl, ht, hp⟩
    exact Nat.le_of_ble_eq_true rfl
  · rintro av μ ⟨o, x1, rfl, ht, hp⟩
    have h := xX9_copies o x1 μ ht hp
    rw [← sg_ri_i_R (P := PX9_copies)] at h
    exact h
theorem mX9_returns {l : Launch} : qMet l yX9_returns cX9_returns 2 (some .int) 2 44 spX9_returns := by
  refine qMet_of (cal := calX9_returns) (fld := fX9) (cst := kX9) (csl := jX9) (nwo := nX9) false (plainFor_of_name (by decide +kernel)) tabX9 va_AOA_words.1 va_AOA_words.2 (ini := false) (fun h => by cases h) ?_ ?_ ?_
  · intro idx kd q' h p e s m args below meth c D cA B Q hF
    unfold calX9_returns at h
    split at h
    · cases h
      exact qc_V (C := RX9) (T := TX9) (N := 13) hF mX9_puts (by exact (qm_c qw1038 (qm_c qw1040 (qm_c qw23 (qm_c qw60 (qm_c qw1041 qm_0)))))) rfl (by decide +kernel) (by decide) sg_riii_v_recv
    · cases h
      exact qc_V (C := RX9) (T := TX9) (N := 13) hF mX9_isIn (by exact (qm_c qw1078 (qm_c qw1080 (qm_c qw27 (qm_c qw60 (qm_c qw1081 qm_0)))))) rfl (by decide +kernel) (by decide) sg_rii_i_recv
    · cases h
      exact qc_V (C := RX9) (T := TX9) (N := 13) hF mX9_takes (by exact (qm_c qw1082 (qm_c qw1084 (qm_c qw28 (qm_c qw60 (qm_c qw1085 qm_0)))))) rfl (by decide +kernel) (by decide) sg_rii_i_recv
    · cases h
  · rintro av μ ⟨o, x1, rfl, ht, hp⟩
    exact Nat.le_of_ble_eq_true rfl
  · rintro av μ ⟨o, x1, rfl, ht, hp⟩
    have h := xX9_returns o x1 μ ht hp
    rw [← sg_ri_i_R (P := PX9_returns)] at h
    exact h
theorem mX9_done {l : Launch} : qMet l yX9_done cX9_done 2 (some .int) 2 43 spX9_done := by
  refine qMet_of (cal := calX9_done) (fld := fX9) (cst := kX9) (csl := jX9) (nwo := nX9) false (plainFor_of_name (by decide +kernel)) tabX9 va_AOA_words.1 va_AOA_words.2 (ini := false) (fun h => by cases h) ?_ ?_ ?_
  · intro idx kd q' h p e s m args below meth c D cA B Q hF
    unfold calX9_done at h
    split at h
    · cases h
      exact qc_V (C := RX9) (T := TX9) (N := 13) hF mX9_fails (by exact (qm_c qw954 (qm_c qw956 (qm_c qw11 (qm_c qw60 (qm_c qw957 qm_0)))))) rfl (by decide +kernel) (by decide) sg_ri_i_recv
    · cases h
      exact qc_V (C := RX9) (T := TX9) (N := 13) hF mX9_ends (by exact (qm_c qw966 (qm_c qw968 (qm_c qw13 (qm_c qw60 (qm_c qw969 qm_0)))))) rfl (by decide +kernel) (by decide) sg_ri_i_recv
    · cases h
  · rintro av μ ⟨o, x1, rfl, ht, hp⟩
    exact Nat.le_of_ble_eq_true rfl
  · rintro av μ ⟨o, x1, rfl, ht, hp⟩
    have h := xX9_done o x1 μ ht hp
    rw [← sg_ri_i_R (P := PX9_done)] at h
    exact h
theorem mX9_keptMany {l : Launch} : qMet l yX9_keptMany cX9_keptMany 3 (some .int) 0 0 spX9_keptMany := by
  refine qMet_of (cal := calX9_keptMany) (fld := fX9) (cst := kX9) (csl := jX9) (nwo := nX9) false (plainFor_of_name (by decide +kernel)) tabX9 va_AOA_words.1 va_AOA_words.2 (ini := false) (fun h => by cases h) ?_ ?_ ?_
  · intro idx kd q' h p e s m args below meth c D cA B Q hF
    cases h
  · rintro av μ ⟨o, rfl, ht, hp⟩
    exact Nat.le_of_ble_eq_true rfl
  · rintro av μ ⟨o, rfl, ht, hp⟩
    have h := xX9_keptMany o μ ht hp
    rw [← sg_r_i_R (P := PX9_keptMany)] at h
    exact h
theorem mX9_mix {l : Launch} : qMet l yX9_mix cX9_mix 2 none 0 0 spX9_mix := by
  refine qMet_of (cal := calX9_mix) (fld := fX9) (cst := kX9) (csl := jX9) (nwo := nX9) false (plainFor_of_name (by decide +kernel)) tabX9 va_AOA_words.1 va_AOA_words.2 (ini := false) (fun h => by cases h) ?_ ?_ ?_
  · intro idx kd q' h p e s m args below meth c D cA B Q hF
    cases h
  · rintro av μ ⟨o, x1, rfl, ht, hp⟩
    exact Nat.le_of_ble_eq_true rfl
  · rintro av μ ⟨o, x1, rfl, ht, hp⟩
    have h := xX9_mix o x1 μ ht hp
    rw [← sg_ri_v_R (P := PX9_mix)] at h
    exact h
theorem mX9_mixAll {l : Launch} : qMet l yX9_mixAll cX9_mixAll 4 none 1 21 spX9_mixAll := by
  refine qMet_of (cal := calX9_mixAll) (fld := fX9) (cst := kX9) (csl := jX9) (nwo := nX9) false (plainFor_of_name (by decide +kernel)) tabX9 va_AOA_words.1 va_AOA_words.2 (ini := false) (fun h => by cases h) ?_ ?_ ?_
  · intro idx kd q' h p e s m args below meth c D cA B Q hF
    unfold calX9_mixAll at h
    split at h
    · cases h
      exact qc_V (C := RX9) (T := TX9) (N := 13) hF mX9_mix (by exact (qm_c qw1247 (qm_c qw1249 (qm_c qw48 (qm_c qw60 (qm_c qw1250 qm_0)))))) rfl (by decide +kernel) (by decide) sg_ri_v_recv
    · cases h
  · rintro av μ ⟨o, x1, x2, rfl, ht, hp⟩
    exact Nat.le_of_ble_eq_true rfl
  · rintro av μ ⟨o, x1, x2, rfl, ht, hp⟩
    have h := xX9_mixAll o x1 x2 μ ht hp
    rw [← sg_rii_v_R (P := PX9_mixAll)] at h
    exact h
theorem mX9_setField {l : Launch} : qMet l yX9_setField cX9_setField 4 (some .int) 2 43 spX9_setField := by
  refine qMet_of (cal := calX9_setField) (fld := fX9) (cst := kX9) (csl := jX9) (nwo := nX9) false (plainFor_of_name (by decide +kernel)) tabX9 va_AOA_words.1 va_AOA_words.2 (ini := false) (fun h => by cases h) ?_ ?_ ?_
  · intro idx kd q' h p e s m args below meth c D cA B Q hF
    unfold calX9_setField at h
    split at h
    · cases h
      exact qc_S hF mX9_in (by exact (qm_c qw951 (qm_c qw952 (qm_c qw60 (qm_c qw953 qm_0))))) rfl (by decide +kernel) (by decide)
    · cases h
      exact qc_V (C := RX9) (T := TX9) (N := 13) hF mX9_fails (by exact (qm_c qw954 (qm_c qw956 (qm_c qw11 (qm_c qw60 (qm_c qw957 qm_0)))))) rfl (by decide +kernel) (by decide) sg_ri_i_recv
    · cases h
      exact qc_S hF mX9_greatest (by exact (qm_c qw958 (qm_c qw959 (qm_c qw60 (qm_c qw960 qm_0))))) rfl (by decide +kernel) (by decide)
    · cases h
      exact qc_V (C := RX9) (T := TX9) (N := 13) hF mX9_hold (by exact (qm_c qw962 (qm_c qw964 (qm_c qw12 (qm_c qw60 (qm_c qw965 qm_0)))))) rfl (by decide +kernel) (by decide) sg_r_v_recv
    · cases h
      exact qc_V (C := RX9) (T := TX9) (N := 13) hF mX9_ends (by exact (qm_c qw966 (qm_c qw968 (qm_c qw13 (qm_c qw60 (qm_c qw969 qm_0)))))) rfl (by decide +kernel) (by decide) sg_ri_i_recv
    · cases h
  · rintro av μ ⟨o, x1, x2, rfl, ht, hp⟩
    exact Nat.le_of_ble_eq_true rfl
  · rintro av μ ⟨o, x1, x2, rfl, ht, hp⟩
    have h := xX9_setField o x1 x2 μ ht hp
    rw [← sg_rii_i_R (P := PX9_setField)] at h
    exact h
theorem mX9_setStrides {l : Launch} : qMet l yX9_setStrides cX9_setStrides 4 (some .int) 2 43 spX9_setStrides := by
  refine qMet_of (cal := calX9_setStrides) (fld := fX9) (cst := kX9) (csl := jX9) (nwo := nX9) false (plainFor_of_name (by decide +kernel)) tabX9 va_AOA_words.1 va_AOA_words.2 (ini := false) (fun h => by cases h) ?_ ?_ ?_
  · intro idx kd q' h p e s m args below meth c D cA B Q hF
    unfold calX9_setStrides at h
    split at h
    · cases h
      exact qc_S hF mX9_in (by exact (qm_c qw951 (qm_c qw952 (qm_c qw60 (qm_c qw953 qm_0))))) rfl (by decide +kernel) (by decide)
    · cases h
      exact qc_V (C := RX9) (T := TX9) (N := 13) hF mX9_fails (by exact (qm_c qw954 (qm_c qw956 (qm_c qw11 (qm_c qw60 (qm_c qw957 qm_0)))))) rfl (by decide +kernel) (by decide) sg_ri_i_recv
    · cases h
      exact qc_V (C := RX9) (T := TX9) (N := 13) hF mX9_hold (by exact (qm_c qw962 (qm_c qw964 (qm_c qw12 (qm_c qw60 (qm_c qw965 qm_0)))))) rfl (by decide +kernel) (by decide) sg_r_v_recv
    · cases h
      exact qc_V (C := RX9) (T := TX9) (N := 13) hF mX9_ends (by exact (qm_c qw966 (qm_c qw968 (qm_c qw13 (qm_c qw60 (qm_c qw969 qm_0)))))) rfl (by decide +kernel) (by decide) sg_ri_i_recv
    · cases h
  · rintro av μ ⟨o, x1, x2, rfl, ht, hp⟩
    exact Nat.le_of_ble_eq_true rfl
  · rintro av μ ⟨o, x1, x2, rfl, ht, hp⟩
    have h := xX9_setStrides o x1 x2 μ ht hp
    rw [← sg_rii_i_R (P := PX9_setStrides)] at h
    exact h
theorem mX9_setPolicy {l : Launch} : qMet l yX9_setPolicy cX9_setPolicy 4 (some .int) 2 43 spX9_setPolicy := by
  refine qMet_of (cal := calX9_setPolicy) (fld := fX9) (cst := kX9) (csl := jX9) (nwo := nX9) false (plainFor_of_name (by decide +kernel)) tabX9 va_AOA_words.1 va_AOA_words.2 (ini := false) (fun h => by cases h) ?_ ?_ ?_
  · intro idx kd q' h p e s m args below meth c D cA B Q hF
    unfold calX9_setPolicy at h
    split at h
    · cases h
      exact qc_V (C := RX9) (T := TX9) (N := 13) hF mX9_fails (by exact (qm_c qw954 (qm_c qw956 (qm_c qw11 (qm_c qw60 (qm_c qw957 qm_0)))))) rfl (by decide +kernel) (by decide) sg_ri_i_recv
    · cases h
      exact qc_V (C := RX9) (T := TX9) (N := 13) hF mX9_hold (by exact (qm_c qw962 (qm_c qw964 (qm_c qw12 (qm_c qw60 (qm_c qw965 qm_0)))))) rfl (by decide +kernel) (by decide) sg_r_v_recv
    · cases h
      exact qc_V (C := RX9) (T := TX9) (N := 13) hF mX9_ends (by exact (qm_c qw966 (qm_c qw968 (qm_c qw13 (qm_c qw60 (qm_c qw969 qm_0)))))) rfl (by decide +kernel) (by decide) sg_ri_i_recv
    · cases h
      exact qc_S hF mX9_isPolicy (by exact (qm_c qw982 (qm_c qw983 (qm_c qw60 (qm_c qw984 qm_0))))) rfl (by decide +kernel) (by decide)
    · cases h
  · rintro av μ ⟨o, x1, x2, rfl, ht, hp⟩
    exact Nat.le_of_ble_eq_true rfl
  · rintro av μ ⟨o, x1, x2, rfl, ht, hp⟩
    have h := xX9_setPolicy o x1 x2 μ ht hp
    rw [← sg_rii_i_R (P := PX9_setPolicy)] at h
    exact h
theorem mX9_advance {l : Launch} : qMet l yX9_advance cX9_advance 1 (some .int) 2 43 spX9_advance := by
  refine qMet_of (cal := calX9_advance) (fld := fX9) (cst := kX9) (csl := jX9) (nwo := nX9) false (plainFor_of_name (by decide +kernel)) tabX9 va_AOA_words.1 va_AOA_words.2 (ini := false) (fun h => by cases h) ?_ ?_ ?_
  · intro idx kd q' h p e s m args below meth c D cA B Q hF
    unfold calX9_advance at h
    split at h
    · cases h
      exact qc_V (C := RX9) (T := TX9) (N := 13) hF mX9_hold (by exact (qm_c qw962 (qm_c qw964 (qm_c qw12 (qm_c qw60 (qm_c qw965 qm_0)))))) rfl (by decide +kernel) (by decide) sg_r_v_recv
    · cases h
      exact qc_V (C := RX9) (T := TX9) (N := 13) hF mX9_ends (by exact (qm_c qw966 (qm_c qw968 (qm_c qw13 (qm_c qw60 (qm_c qw969 qm_0)))))) rfl (by decide +kernel) (by decide) sg_ri_i_recv
    · cases h
      exact qc_V (C := RX9) (T := TX9) (N := 13) hF mX9_goesOn (by exact (qm_c qw989 (qm_c qw991 (qm_c qw15 (qm_c qw60 (qm_c qw992 qm_0)))))) rfl (by decide +kernel) (by decide) sg_r_v_recv
    · cases h
  · rintro av μ ⟨o, rfl, ht, hp⟩
    exact Nat.le_of_ble_eq_true rfl
  · rintro av μ ⟨o, rfl, ht, hp⟩
    have h := xX9_advance o μ ht hp
    rw [← sg_r_i_R (P := PX9_advance)] at h
    exact h
theorem mX9_send {l : Launch} : qMet l yX9_send cX9_send 1 (some .int) 5 122 spX9_send := by
  refine qMet_of (cal := calX9_send) (fld := fX9) (cst := kX9) (csl := jX9) (nwo := nX9) false (plainFor_of_name (by decide +kernel)) tabX9 va_AOA_words.1 va_AOA_words.2 (ini := false) (fun h => by cases h) ?_ ?_ ?_
  · intro idx kd q' h p e s m args below meth c D cA B Q hF
    unfold calX9_send at h
    split at h
    · cases h
      exact qc_V (C := RX9) (T := TX9) (N := 13) hF mX9_fails (by exact (qm_c qw954 (qm_c qw956 (qm_c qw11 (qm_c qw60 (qm_c qw957 qm_0)))))) rfl (by decide +kernel) (by decide) sg_ri_i_recv
    · cases h
      exact qc_V (C := RX9) (T := TX9) (N := 13) hF mX9_hold (by exact (qm_c qw962 (qm_c qw964 (qm_c qw12 (qm_c qw60 (qm_c qw965 qm_0)))))) rfl (by decide +kernel) (by decide) sg_r_v_recv
    · cases h
      exact qc_V (C := RX9) (T := TX9) (N := 13) hF mX9_ends (by exact (qm_c qw966 (qm_c qw968 (qm_c qw13 (qm_c qw60 (qm_c qw969 qm_0)))))) rfl (by decide +kernel) (by decide) sg_ri_i_recv
    · cases h
      exact qc_V (C := RX9) (T := TX9) (N := 13) hF mX9_maySend (by exact (qm_c qw1000 (qm_c qw1002 (qm_c qw16 (qm_c qw60 (qm_c qw1003 qm_0)))))) rfl (by decide +kernel) (by decide) sg_ri_i_recv
    · cases h
      exact qc_V (C := RX9) (T := TX9) (N := 13) hF mX9_sends (by exact (qm_c qw1004 (qm_c qw1006 (qm_c qw17 (qm_c qw60 (qm_c qw1007 qm_0)))))) rfl (by decide +kernel) (by decide) sg_r_v_recv
    · cases h
  · rintro av μ ⟨o, rfl, ht, hp⟩
    exact Nat.le_of_ble_eq_true rfl
  · rintro av μ ⟨o, rfl, ht, hp⟩
    have h := xX9_send o μ ht hp
    rw [← sg_r_i_R (P := PX9_send)] at h
    exact h
theorem mX9_stream {l : Launch} : qMet l yX9_stream cX9_stream 3 (some .int) 5 122 spX9_stream := by
  refine qMet_of (cal := calX9_stream) (fld := fX9) (cst := kX9) (csl := jX9) (nwo := nX9) false (plainFor_of_name (by decide +kernel)) tabX9 va_AOA_words.1 va_AOA_words.2 (ini := false) (fun h => by cases h) ?_ ?_ ?_
  · intro idx kd q' h p e s m args below meth c D cA B Q hF
    unfold calX9_stream at h
    split at h
    · cases h
      exact qc_S hF mX9_in (by exact (qm_c qw951 (qm_c qw952 (qm_c qw60 (qm_c qw953 qm_0))))) rfl (by decide +kernel) (by decide)
    · cases h
      exact qc_V (C := RX9) (T := TX9) (N := 13) hF mX9_fails (by exact (qm_c qw954 (qm_c qw956 (qm_c qw11 (qm_c qw60 (qm_c qw957 qm_0)))))) rfl (by decide +kernel) (by decide) sg_ri_i_recv
    · cases h
      exact qc_V (C := RX9) (T := TX9) (N := 13) hF mX9_hold (by exact (qm_c qw962 (qm_c qw964 (qm_c qw12 (qm_c qw60 (qm_c qw965 qm_0)))))) rfl (by decide +kernel) (by decide) sg_r_v_recv
    · cases h
      exact qc_V (C := RX9) (T := TX9) (N := 13) hF mX9_ends (by exact (qm_c qw966 (qm_c qw968 (qm_c qw13 (qm_c qw60 (qm_c qw969 qm_0)))))) rfl (by decide +kernel) (by decide) sg_ri_i_recv
    · cases h
      exact qc_V (C := RX9) (T := TX9) (N := 13) hF mX9_goesOn (by exact (qm_c qw989 (qm_c qw991 (qm_c qw15 (qm_c qw60 (qm_c qw992 qm_0)))))) rfl (by decide +kernel) (by decide) sg_r_v_recv
    · cases h
      exact qc_V (C := RX9) (T := TX9) (N := 13) hF mX9_maySend (by exact (qm_c qw1000 (qm_c qw1002 (qm_c qw16 (qm_c qw60 (qm_c qw1003 qm_0)))))) rfl (by decide +kernel) (by decide) sg_ri_i_recv
    · cases h
      exact qc_V (C := RX9) (T := TX9) (N := 13) hF mX9_sends (by exact (qm_c qw1004 (qm_c qw1006 (qm_c qw17 (qm_c qw60 (qm_c qw1007 qm_0)))))) rfl (by decide +kernel) (by decide) sg_r_v_recv
    · cases h
  · rintro av μ ⟨o, x1, rfl, ht, hp⟩
    exact Nat.le_of_ble_eq_true rfl
  · rintro av μ ⟨o, x1, rfl, ht, hp⟩
    have h := xX9_stream o x1 μ ht hp
    rw [← sg_ri_i_R (P := PX9_stream)] at h
    exact h
theorem mX9_field {l : Launch} : qMet l yX9_field cX9_field 2 (some .int) 1 22 spX9_field := by
  refine qMet_of (cal := calX9_field) (fld := fX9) (cst := kX9) (csl := jX9) (nwo := nX9) false (plainFor_of_name (by decide +kernel)) tabX9 va_AOA_words.1 va_AOA_words.2 (ini := false) (fun h => by cases h) ?_ ?_ ?_
  · intro idx kd q' h p e s m args below meth c D cA B Q hF
    unfold calX9_field at h
    split at h
    · cases h
      exact qc_V (C := RX9) (T := TX9) (N := 13) hF mX9_tells (by exact (qm_c qw970 (qm_c qw972 (qm_c qw14 (qm_c qw60 (qm_c qw973 qm_0)))))) rfl (by decide +kernel) (by decide) sg_ri_i_recv
    · cases h
      exact qc_S hF mX9_in (by exact (qm_c qw951 (qm_c qw952 (qm_c qw60 (qm_c qw953 qm_0))))) rfl (by decide +kernel) (by decide)
    · cases h
      exact qc_V (C := RX9) (T := TX9) (N := 13) hF mX9_fails (by exact (qm_c qw954 (qm_c qw956 (qm_c qw11 (qm_c qw60 (qm_c qw957 qm_0)))))) rfl (by decide +kernel) (by decide) sg_ri_i_recv
    · cases h
  · rintro av μ ⟨o, x1, rfl, ht, hp⟩
    exact Nat.le_of_ble_eq_true rfl
  · rintro av μ ⟨o, x1, rfl, ht, hp⟩
    have h := xX9_field o x1 μ ht hp
    rw [← sg_ri_i_R (P := PX9_field)] at h
    exact h
theorem mX9_sizeWith {l : Launch} : qMet l yX9_sizeWith cX9_sizeWith 4 (some .int) 4 97 spX9_sizeWith := by
  refine qMet_of (cal := calX9_sizeWith) (fld := fX9) (cst := kX9) (csl := jX9) (nwo := nX9) false (plainFor_of_name (by decide +kernel)) tabX9 va_AOA_words.1 va_AOA_words.2 (ini := false) (fun h => by cases h) ?_ ?_ ?_
  · intro idx kd q' h p e s m args below meth c D cA B Q hF
    unfold calX9_sizeWith at h
    split at h
    · cases h
      exact qc_V (C := RX9) (T := TX9) (N := 13) hF mX9_tells (by exact (qm_c qw970 (qm_c qw972 (qm_c qw14 (qm_c qw60 (qm_c qw973 qm_0)))))) rfl (by decide +kernel) (by decide) sg_ri_i_recv
    · cases h
      exact qc_V (C := RX9) (T := TX9) (N := 13) hF mX9_fails (by exact (qm_c qw954 (qm_c qw956 (qm_c qw11 (qm_c qw60 (qm_c qw957 qm_0)))))) rfl (by decide +kernel) (by decide) sg_ri_i_recv
    · cases h
      exact qc_S hF mX9_isPolicy (by exact (qm_c qw982 (qm_c qw983 (qm_c qw60 (qm_c qw984 qm_0))))) rfl (by decide +kernel) (by decide)
    · cases h
      exact qc_V (C := RX9) (T := TX9) (N := 13) hF mX9_trusted (by exact (qm_c qw1008 (qm_c qw1010 (qm_c qw18 (qm_c qw60 (qm_c qw1011 qm_0)))))) rfl (by decide +kernel) (by decide) sg_ri_i_recv
    · cases h
      exact qc_V (C := RX9) (T := TX9) (N := 13) hF mX9_formFor (by exact (qm_c qw1016 (qm_c qw1018 (qm_c qw20 (qm_c qw60 (qm_c qw1019 qm_0)))))) rfl (by decide +kernel) (by decide) sg_rii_i_recv
    · cases h
      exact qc_V (C := RX9) (T := TX9) (N := 13) hF mX9_sizeOf (by exact (qm_c qw1020 (qm_c qw1022 (qm_c qw21 (qm_c qw60 (qm_c qw1023 qm_0)))))) rfl (by decide +kernel) (by decide) sg_rii_i_recv
    · cases h
  · rintro av μ ⟨o, x1, x2, rfl, ht, hp⟩
    exact Nat.le_of_ble_eq_true rfl
  · rintro av μ ⟨o, x1, x2, rfl, ht, hp⟩
    have h := xX9_sizeWith o x1 x2 μ ht hp
    rw [← sg_rii_i_R (P := PX9_sizeWith)] at h
    exact h
theorem mX9_reference {l : Launch} : qMet l yX9_reference cX9_reference 1 (some .int) 2 45 spX9_reference := by
  refine qMet_of (cal := calX9_reference) (fld := fX9) (cst := kX9) (csl := jX9) (nwo := nX9) false (plainFor_of_name (by decide +kernel)) tabX9 va_AOA_words.1 va_AOA_words.2 (ini := false) (fun h => by cases h) ?_ ?_ ?_
  · intro idx kd q' h p e s m args below meth c D cA B Q hF
    unfold calX9_reference at h
    split at h
    · cases h
      exact qc_V (C := RX9) (T := TX9) (N := 13) hF mX9_tells (by exact (qm_c qw970 (qm_c qw972 (qm_c qw14 (qm_c qw60 (qm_c qw973 qm_0)))))) rfl (by decide +kernel) (by decide) sg_ri_i_recv
    · cases h
      exact qc_V (C := RX9) (T := TX9) (N := 13) hF mX9_trusted (by exact (qm_c qw1008 (qm_c qw1010 (qm_c qw18 (qm_c qw60 (qm_c qw1011 qm_0)))))) rfl (by decide +kernel) (by decide) sg_ri_i_recv
    · cases h
  · rintro av μ ⟨o, rfl, ht, hp⟩
    exact Nat.le_of_ble_eq_true rfl
  · rintro av μ ⟨o, rfl, ht, hp⟩
    have h := xX9_reference o μ ht hp
    rw [← sg_r_i_R (P := PX9_reference)] at h
    exact h
theorem mX9_sent {l : Launch} : qMet l yX9_sent cX9_sent 3 (some .int) 2 44 spX9_sent := by
  refine qMet_of (cal := calX9_sent) (fld := fX9) (cst := kX9) (csl := jX9) (nwo := nX9) false (plainFor_of_name (by decide +kernel)) tabX9 va_AOA_words.1 va_AOA_words.2 (ini := false) (fun h => by cases h) ?_ ?_ ?_
  · intro idx kd q' h p e s m args below meth c D cA B Q hF
    unfold calX9_sent at h
    split at h
    · cases h
      exact qc_V (C := RX9) (T := TX9) (N := 13) hF mX9_tells (by exact (qm_c qw970 (qm_c qw972 (qm_c qw14 (qm_c qw60 (qm_c qw973 qm_0)))))) rfl (by decide +kernel) (by decide) sg_ri_i_recv
    · cases h
      exact qc_S hF mX9_in (by exact (qm_c qw951 (qm_c qw952 (qm_c qw60 (qm_c qw953 qm_0))))) rfl (by decide +kernel) (by decide)
    · cases h
      exact qc_V (C := RX9) (T := TX9) (N := 13) hF mX9_fails (by exact (qm_c qw954 (qm_c qw956 (qm_c qw11 (qm_c qw60 (qm_c qw957 qm_0)))))) rfl (by decide +kernel) (by decide) sg_ri_i_recv
    · cases h
      exact qc_V (C := RX9) (T := TX9) (N := 13) hF mX9_told (by exact (qm_c qw1066 (qm_c qw1068 (qm_c qw25 (qm_c qw60 (qm_c qw1069 qm_0)))))) rfl (by decide +kernel) (by decide) sg_rii_i_recv
    · cases h
  · rintro av μ ⟨o, x1, x2, rfl, ht, hp⟩
    exact Nat.le_of_ble_eq_true rfl
  · rintro av μ ⟨o, x1, x2, rfl, ht, hp⟩
    have h := xX9_sent o x1 x2 μ ht hp
    rw [← sg_rii_i_R (P := PX9_sent)] at h
    exact h
theorem mX9_deliver {l : Launch} : qMet l yX9_deliver cX9_deliver 2 (some .int) 6 146 spX9_deliver := by
  refine qMet_of (cal := calX9_deliver) (fld := fX9) (cst := kX9) (csl := jX9) (nwo := nX9) false (plainFor_of_name (by decide +kernel)) tabX9 va_AOA_words.1 va_AOA_words.2 (ini := false) (fun h => by cases h) ?_ ?_ ?_
  · intro idx kd q' h p e s m args below meth c D cA B Q hF
    unfold calX9_deliver at h
    split at h
    · cases h
      exact qc_V (C := RX9) (T := TX9) (N := 13) hF mX9_hold (by exact (qm_c qw962 (qm_c qw964 (qm_c qw12 (qm_c qw60 (qm_c qw965 qm_0)))))) rfl (by decide +kernel) (by decide) sg_r_v_recv
    · cases h
      exact qc_V (C := RX9) (T := TX9) (N := 13) hF mX9_delivers (by exact (qm_c qw1074 (qm_c qw1076 (qm_c qw26 (qm_c qw60 (qm_c qw1077 qm_0)))))) rfl (by decide +kernel) (by decide) sg_ri_i_recv
    · cases h
      exact qc_V (C := RX9) (T := TX9) (N := 13) hF mX9_done (by exact (qm_c qw1114 (qm_c qw1116 (qm_c qw36 (qm_c qw60 (qm_c qw1117 qm_0)))))) rfl (by decide +kernel) (by decide) sg_ri_i_recv
    · cases h
  · rintro av μ ⟨o, x1, rfl, ht, hp⟩
    exact Nat.le_of_ble_eq_true rfl
  · rintro av μ ⟨o, x1, rfl, ht, hp⟩
    have h := xX9_deliver o x1 μ ht hp
    rw [← sg_ri_i_R (P := PX9_deliver)] at h
    exact h
theorem mX9_deliverAll {l : Launch} : qMet l yX9_deliverAll cX9_deliverAll 2 (some .int) 5 125 spX9_deliverAll := by
  refine qMet_of (cal := calX9_deliverAll) (fld := fX9) (cst := kX9) (csl := jX9) (nwo := nX9) false (plainFor_of_name (by decide +kernel)) tabX9 va_AOA_words.1 va_AOA_words.2 (ini := false) (fun h => by cases h) ?_ ?_ ?_
  · intro idx kd q' h p e s m args below meth c D cA B Q hF
    unfold calX9_deliverAll at h
    split at h
    · cases h
      exact qc_V (C := RX9) (T := TX9) (N := 13) hF mX9_hold (by exact (qm_c qw962 (qm_c qw964 (qm_c qw12 (qm_c qw60 (qm_c qw965 qm_0)))))) rfl (by decide +kernel) (by decide) sg_r_v_recv
    · cases h
      exact qc_V (C := RX9) (T := TX9) (N := 13) hF mX9_ends (by exact (qm_c qw966 (qm_c qw968 (qm_c qw13 (qm_c qw60 (qm_c qw969 qm_0)))))) rfl (by decide +kernel) (by decide) sg_ri_i_recv
    · cases h
      exact qc_V (C := RX9) (T := TX9) (N := 13) hF mX9_takes (by exact (qm_c qw1082 (qm_c qw1084 (qm_c qw28 (qm_c qw60 (qm_c qw1085 qm_0)))))) rfl (by decide +kernel) (by decide) sg_rii_i_recv
    · cases h
      exact qc_V (C := RX9) (T := TX9) (N := 13) hF mX9_receives (by exact (qm_c qw1086 (qm_c qw1088 (qm_c qw29 (qm_c qw60 (qm_c qw1089 qm_0)))))) rfl (by decide +kernel) (by decide) sg_ri_i_recv
    · cases h
  · rintro av μ ⟨o, rfl, ht, hp⟩
    exact Nat.le_of_ble_eq_true rfl
  · rintro av μ ⟨o, rfl, ht, hp⟩
    have h := xX9_deliverAll o μ ht hp
    rw [← sg_r_i_R (P := PX9_deliverAll)] at h
    exact h
theorem mX9_lose {l : Launch} : qMet l yX9_lose cX9_lose 2 (some .int) 3 66 spX9_lose := by
  refine qMet_of (cal := calX9_lose) (fld := fX9) (cst := kX9) (csl := jX9) (nwo := nX9) false (plainFor_of_name (by decide +kernel)) tabX9 va_AOA_words.1 va_AOA_words.2 (ini := false) (fun h => by cases h) ?_ ?_ ?_
  · intro idx kd q' h p e s m args below meth c D cA B Q hF
    unfold calX9_lose at h
    split at h
    · cases h
      exact qc_V (C := RX9) (T := TX9) (N := 13) hF mX9_hold (by exact (qm_c qw962 (qm_c qw964 (qm_c qw12 (qm_c qw60 (qm_c qw965 qm_0)))))) rfl (by decide +kernel) (by decide) sg_r_v_recv
    · cases h
      exact qc_V (C := RX9) (T := TX9) (N := 13) hF mX9_done (by exact (qm_c qw1114 (qm_c qw1116 (qm_c qw36 (qm_c qw60 (qm_c qw1117 qm_0)))))) rfl (by decide +kernel) (by decide) sg_ri_i_recv
    · cases h
      exact qc_V (C := RX9) (T := TX9) (N := 13) hF mX9_loses (by exact (qm_c qw1126 (qm_c qw1128 (qm_c qw37 (qm_c qw60 (qm_c qw1129 qm_0)))))) rfl (by decide +kernel) (by decide) sg_rii_i_recv
    · cases h
  · rintro av μ ⟨o, x1, rfl, ht, hp⟩
    exact Nat.le_of_ble_eq_true rfl
  · rintro av μ ⟨o, x1, rfl, ht, hp⟩
    have h := xX9_lose o x1 μ ht hp
    rw [← sg_ri_i_R (P := PX9_lose)] at h
    exact h
theorem mX9_copy {l : Launch} : qMet l yX9_copy cX9_copy 2 (some .int) 3 65 spX9_copy := by
  refine qMet_of (cal := calX9_copy) (fld := fX9) (cst := kX9) (csl := jX9) (nwo := nX9) false (plainFor_of_name (by decide +kernel)) tabX9 va_AOA_words.1 va_AOA_words.2 (ini := false) (fun h => by cases h) ?_ ?_ ?_
  · intro idx kd q' h p e s m args below meth c D cA B Q hF
    unfold calX9_copy at h
    split at h
    · cases h
      exact qc_V (C := RX9) (T := TX9) (N := 13) hF mX9_hold (by exact (qm_c qw962 (qm_c qw964 (qm_c qw12 (qm_c qw60 (qm_c qw965 qm_0)))))) rfl (by decide +kernel) (by decide) sg_r_v_recv
    · cases h
      exact qc_V (C := RX9) (T := TX9) (N := 13) hF mX9_done (by exact (qm_c qw1114 (qm_c qw1116 (qm_c qw36 (qm_c qw60 (qm_c qw1117 qm_0)))))) rfl (by decide +kernel) (by decide) sg_ri_i_recv
    · cases h
      exact qc_V (C := RX9) (T := TX9) (N := 13) hF mX9_copies (by exact (qm_c qw1134 (qm_c qw1136 (qm_c qw38 (qm_c qw60 (qm_c qw1137 qm_0)))))) rfl (by decide +kernel) (by decide) sg_ri_i_recv
    · cases h
  · rintro av μ ⟨o, x1, rfl, ht, hp⟩
    exact Nat.le_of_ble_eq_true rfl
  · rintro av μ ⟨o, x1, rfl, ht, hp⟩
    have h := xX9_copy o x1 μ ht hp
    rw [← sg_ri_i_R (P := PX9_copy)] at h
    exact h
theorem mX9_deliverBack {l : Launch} : qMet l yX9_deliverBack cX9_deliverBack 2 (some .int) 3 65 spX9_deliverBack := by
  refine qMet_of (cal := calX9_deliverBack) (fld := fX9) (cst := kX9) (csl := jX9) (nwo := nX9) false (plainFor_of_name (by decide +kernel)) tabX9 va_AOA_words.1 va_AOA_words.2 (ini := false) (fun h => by cases h) ?_ ?_ ?_
  · intro idx kd q' h p e s m args below meth c D cA B Q hF
    unfold calX9_deliverBack at h
    split at h
    · cases h
      exact qc_V (C := RX9) (T := TX9) (N := 13) hF mX9_hold (by exact (qm_c qw962 (qm_c qw964 (qm_c qw12 (qm_c qw60 (qm_c qw965 qm_0)))))) rfl (by decide +kernel) (by decide) sg_r_v_recv
    · cases h
      exact qc_V (C := RX9) (T := TX9) (N := 13) hF mX9_done (by exact (qm_c qw1114 (qm_c qw1116 (qm_c qw36 (qm_c qw60 (qm_c qw1117 qm_0)))))) rfl (by decide +kernel) (by decide) sg_ri_i_recv
    · cases h
      exact qc_V (C := RX9) (T := TX9) (N := 13) hF mX9_returns (by exact (qm_c qw1142 (qm_c qw1144 (qm_c qw39 (qm_c qw60 (qm_c qw1145 qm_0)))))) rfl (by decide +kernel) (by decide) sg_ri_i_recv
    · cases h
  · rintro av μ ⟨o, x1, rfl, ht, hp⟩
    exact Nat.le_of_ble_eq_true rfl
  · rintro av μ ⟨o, x1, rfl, ht, hp⟩
    have h := xX9_deliverBack o x1 μ ht hp
    rw [← sg_ri_i_R (P := PX9_deliverBack)] at h
    exact h
theorem mX9_loseBack {l : Launch} : qMet l yX9_loseBack cX9_loseBack 2 (some .int) 3 66 spX9_loseBack := by
  refine qMet_of (cal := calX9_loseBack) (fld := fX9) (cst := kX9) (csl := jX9) (nwo := nX9) false (plainFor_of_name (by decide +kernel)) tabX9 va_AOA_words.1 va_AOA_words.2 (ini := false) (fun h => by cases h) ?_ ?_ ?_
  · intro idx kd q' h p e s m args below meth c D cA B Q hF
    unfold calX9_loseBack at h
    split at h
    · cases h
      exact qc_V (C := RX9) (T := TX9) (N := 13) hF mX9_hold (by exact (qm_c qw962 (qm_c qw964 (qm_c qw12 (qm_c qw60 (qm_c qw965 qm_0)))))) rfl (by decide +kernel) (by decide) sg_r_v_recv
    · cases h
      exact qc_V (C := RX9) (T := TX9) (N := 13) hF mX9_done (by exact (qm_c qw1114 (qm_c qw1116 (qm_c qw36 (qm_c qw60 (qm_c qw1117 qm_0)))))) rfl (by decide +kernel) (by decide) sg_ri_i_recv
    · cases h
      exact qc_V (C := RX9) (T := TX9) (N := 13) hF mX9_loses (by exact (qm_c qw1126 (qm_c qw1128 (qm_c qw37 (qm_c qw60 (qm_c qw1129 qm_0)))))) rfl (by decide +kernel) (by decide) sg_rii_i_recv
    · cases h
  · rintro av μ ⟨o, x1, rfl, ht, hp⟩
    exact Nat.le_of_ble_eq_true rfl
  · rintro av μ ⟨o, x1, rfl, ht, hp⟩
    have h := xX9_loseBack o x1 μ ht hp
    rw [← sg_ri_i_R (P := PX9_loseBack)] at h
    exact h
theorem mX9_waiting {l : Launch} : qMet l yX9_waiting cX9_waiting 2 (some .int) 1 21 spX9_waiting := by
  refine qMet_of (cal := calX9_waiting) (fld := fX9) (cst := kX9) (csl := jX9) (nwo := nX9) false (plainFor_of_name (by decide +kernel)) tabX9 va_AOA_words.1 va_AOA_words.2 (ini := false) (fun h => by cases h) ?_ ?_ ?_
  · intro idx kd q' h p e s m args below meth c D cA B Q hF
    unfold calX9_waiting at h
    split at h
    · cases h
      exact qc_V (C := RX9) (T := TX9) (N := 13) hF mX9_tells (by exact (qm_c qw970 (qm_c qw972 (qm_c qw14 (qm_c qw60 (qm_c qw973 qm_0)))))) rfl (by decide +kernel) (by decide) sg_ri_i_recv
    · cases h
  · rintro av μ ⟨o, x1, rfl, ht, hp⟩
    exact Nat.le_of_ble_eq_true rfl
  · rintro av μ ⟨o, x1, rfl, ht, hp⟩
    have h := xX9_waiting o x1 μ ht hp
    rw [← sg_ri_i_R (P := PX9_waiting)] at h
    exact h
theorem mX9_waitingAt {l : Launch} : qMet l yX9_waitingAt cX9_waitingAt 4 (some .int) 2 44 spX9_waitingAt := by
  refine qMet_of (cal := calX9_waitingAt) (fld := fX9) (cst := kX9) (csl := jX9) (nwo := nX9) false (plainFor_of_name (by decide +kernel)) tabX9 va_AOA_words.1 va_AOA_words.2 (ini := false) (fun h => by cases h) ?_ ?_ ?_
  · intro idx kd q' h p e s m args below meth c D cA B Q hF
    unfold calX9_waitingAt at h
    split at h
    · cases h
      exact qc_V (C := RX9) (T := TX9) (N := 13) hF mX9_tells (by exact (qm_c qw970 (qm_c qw972 (qm_c qw14 (qm_c qw60 (qm_c qw973 qm_0)))))) rfl (by decide +kernel) (by decide) sg_ri_i_recv
    · cases h
      exact qc_V (C := RX9) (T := TX9) (N := 13) hF mX9_fails (by exact (qm_c qw954 (qm_c qw956 (qm_c qw11 (qm_c qw60 (qm_c qw957 qm_0)))))) rfl (by decide +kernel) (by decide) sg_ri_i_recv
    · cases h
      exact qc_V (C := RX9) (T := TX9) (N := 13) hF mX9_isIn (by exact (qm_c qw1078 (qm_c qw1080 (qm_c qw27 (qm_c qw60 (qm_c qw1081 qm_0)))))) rfl (by decide +kernel) (by decide) sg_rii_i_recv
    · cases h
  · rintro av μ ⟨o, x1, x2, rfl, ht, hp⟩
    exact Nat.le_of_ble_eq_true rfl
  · rintro av μ ⟨o, x1, x2, rfl, ht, hp⟩
    have h := xX9_waitingAt o x1 x2 μ ht hp
    rw [← sg_rii_i_R (P := PX9_waitingAt)] at h
    exact h
theorem mX9_setReceiver {l : Launch} : qMet l yX9_setReceiver cX9_setReceiver 5 (some .int) 2 43 spX9_setReceiver := by
  refine qMet_of (cal := calX9_setReceiver) (fld := fX9) (cst := kX9) (csl := jX9) (nwo := nX9) false (plainFor_of_name (by decide +kernel)) tabX9 va_AOA_words.1 va_AOA_words.2 (ini := false) (fun h => by cases h) ?_ ?_ ?_
  · intro idx kd q' h p e s m args below meth c D cA B Q hF
    unfold calX9_setReceiver at h
    split at h
    · cases h
      exact qc_S hF mX9_in (by exact (qm_c qw951 (qm_c qw952 (qm_c qw60 (qm_c qw953 qm_0))))) rfl (by decide +kernel) (by decide)
    · cases h
      exact qc_V (C := RX9) (T := TX9) (N := 13) hF mX9_fails (by exact (qm_c qw954 (qm_c qw956 (qm_c qw11 (qm_c qw60 (qm_c qw957 qm_0)))))) rfl (by decide +kernel) (by decide) sg_ri_i_recv
    · cases h
      exact qc_V (C := RX9) (T := TX9) (N := 13) hF mX9_hold (by exact (qm_c qw962 (qm_c qw964 (qm_c qw12 (qm_c qw60 (qm_c qw965 qm_0)))))) rfl (by decide +kernel) (by decide) sg_r_v_recv
    · cases h
      exact qc_V (C := RX9) (T := TX9) (N := 13) hF mX9_ends (by exact (qm_c qw966 (qm_c qw968 (qm_c qw13 (qm_c qw60 (qm_c qw969 qm_0)))))) rfl (by decide +kernel) (by decide) sg_ri_i_recv
    · cases h
  · rintro av μ ⟨o, x1, x2, x3, rfl, ht, hp⟩
    exact Nat.le_of_ble_eq_true rfl
  · rintro av μ ⟨o, x1, x2, x3, rfl, ht, hp⟩
    have h := xX9_setReceiver o x1 x2 x3 μ ht hp
    rw [← sg_riii_i_R (P := PX9_setReceiver)] at h
    exact h
theorem mX9_highest {l : Launch} : qMet l yX9_highest cX9_highest 1 (some .int) 1 21 spX9_highest := by
  refine qMet_of (cal := calX9_highest) (fld := fX9) (cst := kX9) (csl := jX9) (nwo := nX9) false (plainFor_of_name (by decide +kernel)) tabX9 va_AOA_words.1 va_AOA_words.2 (ini := false) (fun h => by cases h) ?_ ?_ ?_
  · intro idx kd q' h p e s m args below meth c D cA B Q hF
    unfold calX9_highest at h
    split at h
    · cases h
      exact qc_V (C := RX9) (T := TX9) (N := 13) hF mX9_tells (by exact (qm_c qw970 (qm_c qw972 (qm_c qw14 (qm_c qw60 (qm_c qw973 qm_0)))))) rfl (by decide +kernel) (by decide) sg_ri_i_recv
    · cases h
  · rintro av μ ⟨o, rfl, ht, hp⟩
    exact Nat.le_of_ble_eq_true rfl
  · rintro av μ ⟨o, rfl, ht, hp⟩
    have h := xX9_highest o μ ht hp
    rw [← sg_r_i_R (P := PX9_highest)] at h
    exact h
theorem mX9_record {l : Launch} : qMet l yX9_record cX9_record 3 (some .int) 2 45 spX9_record := by
  refine qMet_of (cal := calX9_record) (fld := fX9) (cst := kX9) (csl := jX9) (nwo := nX9) false (plainFor_of_name (by decide +kernel)) tabX9 va_AOA_words.1 va_AOA_words.2 (ini := false) (fun h => by cases h) ?_ ?_ ?_
  · intro idx kd q' h p e s m args below meth c D cA B Q hF
    unfold calX9_record at h
    split at h
    · cases h
      exact qc_V (C := RX9) (T := TX9) (N := 13) hF mX9_tells (by exact (qm_c qw970 (qm_c qw972 (qm_c qw14 (qm_c qw60 (qm_c qw973 qm_0)))))) rfl (by decide +kernel) (by decide) sg_ri_i_recv
    · cases h
      exact qc_S hF mX9_in (by exact (qm_c qw951 (qm_c qw952 (qm_c qw60 (qm_c qw953 qm_0))))) rfl (by decide +kernel) (by decide)
    · cases h
      exact qc_V (C := RX9) (T := TX9) (N := 13) hF mX9_fails (by exact (qm_c qw954 (qm_c qw956 (qm_c qw11 (qm_c qw60 (qm_c qw957 qm_0)))))) rfl (by decide +kernel) (by decide) sg_ri_i_recv
    · cases h
      exact qc_V (C := RX9) (T := TX9) (N := 13) hF mX9_recordOf (by exact (qm_c qw1170 (qm_c qw1172 (qm_c qw40 (qm_c qw60 (qm_c qw1173 qm_0)))))) rfl (by decide +kernel) (by decide) sg_rii_i_recv
    · cases h
  · rintro av μ ⟨o, x1, x2, rfl, ht, hp⟩
    exact Nat.le_of_ble_eq_true rfl
  · rintro av μ ⟨o, x1, x2, rfl, ht, hp⟩
    have h := xX9_record o x1 x2 μ ht hp
    rw [← sg_rii_i_R (P := PX9_record)] at h
    exact h
theorem mX9_records {l : Launch} : qMet l yX9_records cX9_records 1 (some .int) 1 22 spX9_records := by
  refine qMet_of (cal := calX9_records) (fld := fX9) (cst := kX9) (csl := jX9) (nwo := nX9) false (plainFor_of_name (by decide +kernel)) tabX9 va_AOA_words.1 va_AOA_words.2 (ini := false) (fun h => by cases h) ?_ ?_ ?_
  · intro idx kd q' h p e s m args below meth c D cA B Q hF
    unfold calX9_records at h
    split at h
    · cases h
      exact qc_V (C := RX9) (T := TX9) (N := 13) hF mX9_tells (by exact (qm_c qw970 (qm_c qw972 (qm_c qw14 (qm_c qw60 (qm_c qw973 qm_0)))))) rfl (by decide +kernel) (by decide) sg_ri_i_recv
    · cases h
      exact qc_V (C := RX9) (T := TX9) (N := 13) hF mX9_keptMany (by exact (qm_c qw1178 (qm_c qw1180 (qm_c qw41 (qm_c qw60 (qm_c qw1181 qm_0)))))) rfl (by decide +kernel) (by decide) sg_r_i_recv
    · cases h
  · rintro av μ ⟨o, rfl, ht, hp⟩
    exact Nat.le_of_ble_eq_true rfl
  · rintro av μ ⟨o, rfl, ht, hp⟩
    have h := xX9_records o μ ht hp
    rw [← sg_r_i_R (P := PX9_records)] at h
    exact h
theorem mX9_numberFor {l : Launch} : qMet l yX9_numberFor cX9_numberFor 2 (some .int) 1 22 spX9_numberFor := by
  refine qMet_of (cal := calX9_numberFor) (fld := fX9) (cst := kX9) (csl := jX9) (nwo := nX9) false (plainFor_of_name (by decide +kernel)) tabX9 va_AOA_words.1 va_AOA_words.2 (ini := false) (fun h => by cases h) ?_ ?_ ?_
  · intro idx kd q' h p e s m args below meth c D cA B Q hF
    unfold calX9_numberFor at h
    split at h
    · cases h
      exact qc_V (C := RX9) (T := TX9) (N := 13) hF mX9_tells (by exact (qm_c qw970 (qm_c qw972 (qm_c qw14 (qm_c qw60 (qm_c qw973 qm_0)))))) rfl (by decide +kernel) (by decide) sg_ri_i_recv
    · cases h
      exact qc_S hF mX9_in (by exact (qm_c qw951 (qm_c qw952 (qm_c qw60 (qm_c qw953 qm_0))))) rfl (by decide +kernel) (by decide)
    · cases h
      exact qc_V (C := RX9) (T := TX9) (N := 13) hF mX9_fails (by exact (qm_c qw954 (qm_c qw956 (qm_c qw11 (qm_c qw60 (qm_c qw957 qm_0)))))) rfl (by decide +kernel) (by decide) sg_ri_i_recv
    · cases h
      exact qc_V (C := RX9) (T := TX9) (N := 13) hF mX9_numberOf (by exact (qm_c qw1090 (qm_c qw1092 (qm_c qw30 (qm_c qw60 (qm_c qw1093 qm_0)))))) rfl (by decide +kernel) (by decide) sg_ri_i_recv
    · cases h
  · rintro av μ ⟨o, x1, rfl, ht, hp⟩
    exact Nat.le_of_ble_eq_true rfl
  · rintro av μ ⟨o, x1, rfl, ht, hp⟩
    have h := xX9_numberFor o x1 μ ht hp
    rw [← sg_ri_i_R (P := PX9_numberFor)] at h
    exact h
theorem mX9_count {l : Launch} : qMet l yX9_count cX9_count 2 (some .int) 1 22 spX9_count := by
  refine qMet_of (cal := calX9_count) (fld := fX9) (cst := kX9) (csl := jX9) (nwo := nX9) false (plainFor_of_name (by decide +kernel)) tabX9 va_AOA_words.1 va_AOA_words.2 (ini := false) (fun h => by cases h) ?_ ?_ ?_
  · intro idx kd q' h p e s m args below meth c D cA B Q hF
    unfold calX9_count at h
    split at h
    · cases h
      exact qc_V (C := RX9) (T := TX9) (N := 13) hF mX9_tells (by exact (qm_c qw970 (qm_c qw972 (qm_c qw14 (qm_c qw60 (qm_c qw973 qm_0)))))) rfl (by decide +kernel) (by decide) sg_ri_i_recv
    · cases h
      exact qc_S hF mX9_in (by exact (qm_c qw951 (qm_c qw952 (qm_c qw60 (qm_c qw953 qm_0))))) rfl (by decide +kernel) (by decide)
    · cases h
      exact qc_V (C := RX9) (T := TX9) (N := 13) hF mX9_fails (by exact (qm_c qw954 (qm_c qw956 (qm_c qw11 (qm_c qw60 (qm_c qw957 qm_0)))))) rfl (by decide +kernel) (by decide) sg_ri_i_recv
    · cases h
      exact qc_V (C := RX9) (T := TX9) (N := 13) hF mX9_counted (by exact (qm_c qw1190 (qm_c qw1192 (qm_c qw42 (qm_c qw60 (qm_c qw1193 qm_0)))))) rfl (by decide +kernel) (by decide) sg_ri_i_recv
    · cases h
  · rintro av μ ⟨o, x1, rfl, ht, hp⟩
    exact Nat.le_of_ble_eq_true rfl
  · rintro av μ ⟨o, x1, rfl, ht, hp⟩
    have h := xX9_count o x1 μ ht hp
    rw [← sg_ri_i_R (P := PX9_count)] at h
    exact h
theorem mX9_saved {l : Launch} : qMet l yX9_saved cX9_saved 1 (some .int) 1 21 spX9_saved := by
  refine qMet_of (cal := calX9_saved) (fld := fX9) (cst := kX9) (csl := jX9) (nwo := nX9) false (plainFor_of_name (by decide +kernel)) tabX9 va_AOA_words.1 va_AOA_words.2 (ini := false) (fun h => by cases h) ?_ ?_ ?_
  · intro idx kd q' h p e s m args below meth c D cA B Q hF
    unfold calX9_saved at h
    split at h
    · cases h
      exact qc_V (C := RX9) (T := TX9) (N := 13) hF mX9_tells (by exact (qm_c qw970 (qm_c qw972 (qm_c qw14 (qm_c qw60 (qm_c qw973 qm_0)))))) rfl (by decide +kernel) (by decide) sg_ri_i_recv
    · cases h
      exact qc_V (C := RX9) (T := TX9) (N := 13) hF mX9_spared (by exact (qm_c qw1198 (qm_c qw1200 (qm_c qw43 (qm_c qw60 (qm_c qw1201 qm_0)))))) rfl (by decide +kernel) (by decide) sg_r_i_recv
    · cases h
  · rintro av μ ⟨o, rfl, ht, hp⟩
    exact Nat.le_of_ble_eq_true rfl
  · rintro av μ ⟨o, rfl, ht, hp⟩
    have h := xX9_saved o μ ht hp
    rw [← sg_r_i_R (P := PX9_saved)] at h
    exact h
theorem mX9_lateness {l : Launch} : qMet l yX9_lateness cX9_lateness 1 (some .int) 1 21 spX9_lateness := by
  refine qMet_of (cal := calX9_lateness) (fld := fX9) (cst := kX9) (csl := jX9) (nwo := nX9) false (plainFor_of_name (by decide +kernel)) tabX9 va_AOA_words.1 va_AOA_words.2 (ini := false) (fun h => by cases h) ?_ ?_ ?_
  · intro idx kd q' h p e s m args below meth c D cA B Q hF
    unfold calX9_lateness at h
    split at h
    · cases h
      exact qc_V (C := RX9) (T := TX9) (N := 13) hF mX9_tells (by exact (qm_c qw970 (qm_c qw972 (qm_c qw14 (qm_c qw60 (qm_c qw973 qm_0)))))) rfl (by decide +kernel) (by decide) sg_ri_i_recv
    · cases h
  · rintro av μ ⟨o, rfl, ht, hp⟩
    exact Nat.le_of_ble_eq_true rfl
  · rintro av μ ⟨o, rfl, ht, hp⟩
    have h := xX9_lateness o μ ht hp
    rw [← sg_r_i_R (P := PX9_lateness)] at h
    exact h
theorem mX9_append {l : Launch} : qMet l yX9_append cX9_append 2 (some .int) 1 22 spX9_append := by
  refine qMet_of (cal := calX9_append) (fld := fX9) (cst := kX9) (csl := jX9) (nwo := nX9) false (plainFor_of_name (by decide +kernel)) tabX9 va_AOA_words.1 va_AOA_words.2 (ini := false) (fun h => by cases h) ?_ ?_ ?_
  · intro idx kd q' h p e s m args below meth c D cA B Q hF
    unfold calX9_append at h
    split at h
    · cases h
      exact qc_V (C := RX9) (T := TX9) (N := 13) hF mX9_tells (by exact (qm_c qw970 (qm_c qw972 (qm_c qw14 (qm_c qw60 (qm_c qw973 qm_0)))))) rfl (by decide +kernel) (by decide) sg_ri_i_recv
    · cases h
      exact qc_S hF mX9_in (by exact (qm_c qw951 (qm_c qw952 (qm_c qw60 (qm_c qw953 qm_0))))) rfl (by decide +kernel) (by decide)
    · cases h
      exact qc_V (C := RX9) (T := TX9) (N := 13) hF mX9_fails (by exact (qm_c qw954 (qm_c qw956 (qm_c qw11 (qm_c qw60 (qm_c qw957 qm_0)))))) rfl (by decide +kernel) (by decide) sg_ri_i_recv
    · cases h
  · rintro av μ ⟨o, x1, rfl, ht, hp⟩
    exact Nat.le_of_ble_eq_true rfl
  · rintro av μ ⟨o, x1, rfl, ht, hp⟩
    have h := xX9_append o x1 μ ht hp
    rw [← sg_ri_i_R (P := PX9_append)] at h
    exact h
theorem mX9_clearText {l : Launch} : qMet l yX9_clearText cX9_clearText 2 (some .int) 1 21 spX9_clearText := by
  refine qMet_of (cal := calX9_clearText) (fld := fX9) (cst := kX9) (csl := jX9) (nwo := nX9) false (plainFor_of_name (by decide +kernel)) tabX9 va_AOA_words.1 va_AOA_words.2 (ini := false) (fun h => by cases h) ?_ ?_ ?_
  · intro idx kd q' h p e s m args below meth c D cA B Q hF
    unfold calX9_clearText at h
    split at h
    · cases h
      exact qc_V (C := RX9) (T := TX9) (N := 13) hF mX9_tells (by exact (qm_c qw970 (qm_c qw972 (qm_c qw14 (qm_c qw60 (qm_c qw973 qm_0)))))) rfl (by decide +kernel) (by decide) sg_ri_i_recv
    · cases h
  · rintro av μ ⟨o, rfl, ht, hp⟩
    exact Nat.le_of_ble_eq_true rfl
  · rintro av μ ⟨o, rfl, ht, hp⟩
    have h := xX9_clearText o μ ht hp
    rw [← sg_r_i_R (P := PX9_clearText)] at h
    exact h
theorem mX9_undo {l : Launch} : qMet l yX9_undo cX9_undo 2 (some .int) 1 21 spX9_undo := by
  refine qMet_of (cal := calX9_undo) (fld := fX9) (cst := kX9) (csl := jX9) (nwo := nX9) false (plainFor_of_name (by decide +kernel)) tabX9 va_AOA_words.1 va_AOA_words.2 (ini := false) (fun h => by cases h) ?_ ?_ ?_
  · intro idx kd q' h p e s m args below meth c D cA B Q hF
    unfold calX9_undo at h
    split at h
    · cases h
      exact qc_V (C := RX9) (T := TX9) (N := 13) hF mX9_tells (by exact (qm_c qw970 (qm_c qw972 (qm_c qw14 (qm_c qw60 (qm_c qw973 qm_0)))))) rfl (by decide +kernel) (by decide) sg_ri_i_recv
    · cases h
      exact qc_V (C := RX9) (T := TX9) (N := 13) hF mX9_fails (by exact (qm_c qw954 (qm_c qw956 (qm_c qw11 (qm_c qw60 (qm_c qw957 qm_0)))))) rfl (by decide +kernel) (by decide) sg_ri_i_recv
    · cases h
  · rintro av μ ⟨o, rfl, ht, hp⟩
    exact Nat.le_of_ble_eq_true rfl
  · rintro av μ ⟨o, rfl, ht, hp⟩
    have h := xX9_undo o μ ht hp
    rw [← sg_r_i_R (P := PX9_undo)] at h
    exact h
theorem mX9_digitHere {l : Launch} : qMet l yX9_digitHere cX9_digitHere 1 (some .int) 1 22 spX9_digitHere := by
  refine qMet_of (cal := calX9_digitHere) (fld := fX9) (cst := kX9) (csl := jX9) (nwo := nX9) false (plainFor_of_name (by decide +kernel)) tabX9 va_AOA_words.1 va_AOA_words.2 (ini := false) (fun h => by cases h) ?_ ?_ ?_
  · intro idx kd q' h p e s m args below meth c D cA B Q hF
    unfold calX9_digitHere at h
    split at h
    · cases h
      exact qc_S hF mX9_in (by exact (qm_c qw951 (qm_c qw952 (qm_c qw60 (qm_c qw953 qm_0))))) rfl (by decide +kernel) (by decide)
    · cases h
  · rintro av μ ⟨o, rfl, ht, hp⟩
    exact Nat.le_of_ble_eq_true rfl
  · rintro av μ ⟨o, rfl, ht, hp⟩
    have h := xX9_digitHere o μ ht hp
    rw [← sg_r_i_R (P := PX9_digitHere)] at h
    exact h
theorem mX9_isOrder {l : Launch} : qMet l yX9_isOrder cX9_isOrder 4 (some .boolean) 2 42 spX9_isOrder := by
  refine qMet_of (cal := calX9_isOrder) (fld := fX9) (cst := kX9) (csl := jX9) (nwo := nX9) false (plainFor_of_name (by decide +kernel)) tabX9 va_AOA_words.1 va_AOA_words.2 (ini := false) (fun h => by cases h) ?_ ?_ ?_
  · intro idx kd q' h p e s m args below meth c D cA B Q hF
    unfold calX9_isOrder at h
    split at h
    · cases h
      exact qc_V (C := RX9) (T := TX9) (N := 13) hF mX9_digitHere (by exact (qm_c qw1226 (qm_c qw1228 (qm_c qw45 (qm_c qw60 (qm_c qw1229 qm_0)))))) rfl (by decide +kernel) (by decide) sg_r_i_recv
    · cases h
  · rintro av μ ⟨o, rfl, ht, hp⟩
    exact Nat.le_of_ble_eq_true rfl
  · rintro av μ ⟨o, rfl, ht, hp⟩
    have h := xX9_isOrder o μ ht hp
    rw [← sg_r_i_R (P := PX9_isOrder)] at h
    exact h
theorem mX9_isDone {l : Launch} : qMet l yX9_isDone cX9_isDone 1 (some .boolean) 6 146 spX9_isDone := by
  refine qMet_of (cal := calX9_isDone) (fld := fX9) (cst := kX9) (csl := jX9) (nwo := nX9) false (plainFor_of_name (by decide +kernel)) tabX9 va_AOA_words.1 va_AOA_words.2 (ini := false) (fun h => by cases h) ?_ ?_ ?_
  · intro idx kd q' h p e s m args below meth c D cA B Q hF
    unfold calX9_isDone at h
    split at h
    · cases h
      exact qc_V (C := RX9) (T := TX9) (N := 13) hF mX9_goesOn (by exact (qm_c qw989 (qm_c qw991 (qm_c qw15 (qm_c qw60 (qm_c qw992 qm_0)))))) rfl (by decide +kernel) (by decide) sg_r_v_recv
    · cases h
      exact qc_V (C := RX9) (T := TX9) (N := 13) hF mX9_maySend (by exact (qm_c qw1000 (qm_c qw1002 (qm_c qw16 (qm_c qw60 (qm_c qw1003 qm_0)))))) rfl (by decide +kernel) (by decide) sg_ri_i_recv
    · cases h
      exact qc_V (C := RX9) (T := TX9) (N := 13) hF mX9_sends (by exact (qm_c qw1004 (qm_c qw1006 (qm_c qw17 (qm_c qw60 (qm_c qw1007 qm_0)))))) rfl (by decide +kernel) (by decide) sg_r_v_recv
    · cases h
      exact qc_V (C := RX9) (T := TX9) (N := 13) hF mX9_delivers (by exact (qm_c qw1074 (qm_c qw1076 (qm_c qw26 (qm_c qw60 (qm_c qw1077 qm_0)))))) rfl (by decide +kernel) (by decide) sg_ri_i_recv
    · cases h
      exact qc_V (C := RX9) (T := TX9) (N := 13) hF mX9_loses (by exact (qm_c qw1126 (qm_c qw1128 (qm_c qw37 (qm_c qw60 (qm_c qw1129 qm_0)))))) rfl (by decide +kernel) (by decide) sg_rii_i_recv
    · cases h
      exact qc_V (C := RX9) (T := TX9) (N := 13) hF mX9_copies (by exact (qm_c qw1134 (qm_c qw1136 (qm_c qw38 (qm_c qw60 (qm_c qw1137 qm_0)))))) rfl (by decide +kernel) (by decide) sg_ri_i_recv
    · cases h
      exact qc_V (C := RX9) (T := TX9) (N := 13) hF mX9_returns (by exact (qm_c qw1142 (qm_c qw1144 (qm_c qw39 (qm_c qw60 (qm_c qw1145 qm_0)))))) rfl (by decide +kernel) (by decide) sg_ri_i_recv
    · cases h
  · rintro av μ ⟨o, rfl, ht, hp⟩
    exact Nat.le_of_ble_eq_true rfl
  · rintro av μ ⟨o, rfl, ht, hp⟩
    have h := xX9_isDone o μ ht hp
    rw [← sg_r_i_R (P := PX9_isDone)] at h
    exact h
theorem mX9_carryOut {l : Launch} : qMet l yX9_carryOut cX9_carryOut 3 (some .int) 7 166 spX9_carryOut := by
  refine qMet_of (cal := calX9_carryOut) (fld := fX9) (cst := kX9) (csl := jX9) (nwo := nX9) false (plainFor_of_name (by decide +kernel)) tabX9 va_AOA_words.1 va_AOA_words.2 (ini := false) (fun h => by cases h) ?_ ?_ ?_
  · intro idx kd q' h p e s m args below meth c D cA B Q hF
    unfold calX9_carryOut at h
    split at h
    · cases h
      exact qc_V (C := RX9) (T := TX9) (N := 13) hF mX9_hold (by exact (qm_c qw962 (qm_c qw964 (qm_c qw12 (qm_c qw60 (qm_c qw965 qm_0)))))) rfl (by decide +kernel) (by decide) sg_r_v_recv
    · cases h
      exact qc_V (C := RX9) (T := TX9) (N := 13) hF mX9_ends (by exact (qm_c qw966 (qm_c qw968 (qm_c qw13 (qm_c qw60 (qm_c qw969 qm_0)))))) rfl (by decide +kernel) (by decide) sg_ri_i_recv
    · cases h
      exact qc_V (C := RX9) (T := TX9) (N := 13) hF mX9_isOrder (by exact (qm_c qw1222 (qm_c qw1224 (qm_c qw44 (qm_c qw60 (qm_c qw1225 qm_0)))))) rfl (by decide +kernel) (by decide) sg_r_i_recv
    · cases h
      exact qc_V (C := RX9) (T := TX9) (N := 13) hF mX9_isDone (by exact (qm_c qw1230 (qm_c qw1232 (qm_c qw46 (qm_c qw60 (qm_c qw1233 qm_0)))))) rfl (by decide +kernel) (by decide) sg_r_i_recv
    · cases h
      exact qc_V (C := RX9) (T := TX9) (N := 13) hF mX9_restore (by exact (qm_c qw1234 (qm_c qw1236 (qm_c qw47 (qm_c qw60 (qm_c qw1237 qm_0)))))) rfl (by decide +kernel) (by decide) sg_r_v_recv
    · cases h
  · rintro av μ ⟨o, rfl, ht, hp⟩
    exact Nat.le_of_ble_eq_true rfl
  · rintro av μ ⟨o, rfl, ht, hp⟩
    have h := xX9_carryOut o μ ht hp
    rw [← sg_r_i_R (P := PX9_carryOut)] at h
    exact h
theorem mX9_digest {l : Launch} : qMet l yX9_digest cX9_digest 3 (some .long) 2 45 spX9_digest := by
  refine qMet_of (cal := calX9_digest) (fld := fX9) (cst := kX9) (csl := jX9) (nwo := nX9) false (plainFor_of_name (by decide +kernel)) tabX9 va_AOA_words.1 va_AOA_words.2 (ini := false) (fun h => by cases h) ?_ ?_ ?_
  · intro idx kd q' h p e s m args below meth c D cA B Q hF
    unfold calX9_digest at h
    split at h
    · cases h
      exact qc_V (C := RX9) (T := TX9) (N := 13) hF mX9_told (by exact (qm_c qw1066 (qm_c qw1068 (qm_c qw25 (qm_c qw60 (qm_c qw1069 qm_0)))))) rfl (by decide +kernel) (by decide) sg_rii_i_recv
    · cases h
      exact qc_V (C := RX9) (T := TX9) (N := 13) hF mX9_recordOf (by exact (qm_c qw1170 (qm_c qw1172 (qm_c qw40 (qm_c qw60 (qm_c qw1173 qm_0)))))) rfl (by decide +kernel) (by decide) sg_rii_i_recv
    · cases h
      exact qc_V (C := RX9) (T := TX9) (N := 13) hF mX9_keptMany (by exact (qm_c qw1178 (qm_c qw1180 (qm_c qw41 (qm_c qw60 (qm_c qw1181 qm_0)))))) rfl (by decide +kernel) (by decide) sg_r_i_recv
    · cases h
      exact qc_V (C := RX9) (T := TX9) (N := 13) hF mX9_counted (by exact (qm_c qw1190 (qm_c qw1192 (qm_c qw42 (qm_c qw60 (qm_c qw1193 qm_0)))))) rfl (by decide +kernel) (by decide) sg_ri_i_recv
    · cases h
      exact qc_V (C := RX9) (T := TX9) (N := 13) hF mX9_spared (by exact (qm_c qw1198 (qm_c qw1200 (qm_c qw43 (qm_c qw60 (qm_c qw1201 qm_0)))))) rfl (by decide +kernel) (by decide) sg_r_i_recv
    · cases h
      exact qc_V (C := RX9) (T := TX9) (N := 13) hF mX9_mix (by exact (qm_c qw1247 (qm_c qw1249 (qm_c qw48 (qm_c qw60 (qm_c qw1250 qm_0)))))) rfl (by decide +kernel) (by decide) sg_ri_v_recv
    · cases h
      exact qc_V (C := RX9) (T := TX9) (N := 13) hF mX9_mixAll (by exact (qm_c qw1252 (qm_c qw1254 (qm_c qw49 (qm_c qw60 (qm_c qw1255 qm_0)))))) rfl (by decide +kernel) (by decide) sg_rii_v_recv
    · cases h
  · rintro av μ ⟨o, rfl, ht, hp⟩
    exact Nat.le_of_ble_eq_true rfl
  · rintro av μ ⟨o, rfl, ht, hp⟩
    have h := xX9_digest o μ ht hp
    rw [← sg_r_j_R (P := PX9_digest)] at h
    exact h
theorem mX5_copyFrom {l : Launch} : qMet l yX5_copyFrom cX5_copyFrom 2 none 2 47 spX5_copyFrom := by
  refine qMet_of (cal := calX5_copyFrom) (fld := fX5) (cst := kX5) (csl := jX5) (nwo := nX5) false (plainFor_of_name (by decide +kernel)) tabX5 va_AOA_words.1 va_AOA_words.2 (ini := false) (fun h => by cases h) ?_ ?_ ?_
  · intro idx kd q' h p e s m args below meth c D cA B Q hF
    unfold calX5_copyFrom at h
    split at h
    · cases h
      exact qc_S hF mX3_copyRow (by exact (qm_c qw328 (qm_c qw329 (qm_c qw66 (qm_c qw330 qm_0))))) rfl (by decide +kernel) (by decide)
    · cases h
      exact qc_acp hF (by exact (qm_c qw334 (qm_c qw333 (qm_c qw332 (qm_c qw67 qm_0))))) (by decide)
    · cases h
  · rintro av μ ⟨o, x1, rfl, ht, hp⟩
    exact Nat.le_of_ble_eq_true rfl
  · rintro av μ ⟨o, x1, rfl, ht, hp⟩
    have h := xX5_copyFrom o x1 μ ht hp
    rw [← sg_ra_v_R (P := PX5_copyFrom)] at h
    exact h
theorem mX5_step {l : Launch} : qMet l yX5_step cX5_step 1 none 1 20 spX5_step := by
  refine qMet_of (cal := calX5_step) (fld := fX5) (cst := kX5) (csl := jX5) (nwo := nX5) false (plainFor_of_name (by decide +kernel)) tabX5 va_AOA_words.1 va_AOA_words.2 (ini := false) (fun h => by cases h) ?_ ?_ ?_
  · intro idx kd q' h p e s m args below meth c D cA B Q hF
    unfold calX5_step at h
    split at h
    · cases h
      exact qc_S hF mX3_wrapped (by exact (qm_c qw362 (qm_c qw363 (qm_c qw66 (qm_c qw364 qm_0))))) rfl (by decide +kernel) (by decide)
    · cases h
  · rintro av μ ⟨o, rfl, ht, hp⟩
    exact Nat.le_of_ble_eq_true rfl
  · rintro av μ ⟨o, rfl, ht, hp⟩
    have h := xX5_step o μ ht hp
    rw [← sg_r_v_R (P := PX5_step)] at h
    exact h
theorem mX5_trustedReference {l : Launch} : qMet l yX5_trustedReference cX5_trustedReference 5 (some .int) 1 21 spX5_trustedReference := by
  refine qMet_of (cal := calX5_trustedReference) (fld := fX5) (cst := kX5) (csl := jX5) (nwo := nX5) false (plainFor_of_name (by decide +kernel)) tabX5 va_AOA_words.1 va_AOA_words.2 (ini := false) (fun h => by cases h) ?_ ?_ ?_
  · intro idx kd q' h p e s m args below meth c D cA B Q hF
    unfold calX5_trustedReference at h
    split at h
    · cases h
      exact qc_max hF (by exact (qm_c qw374 (qm_c qw375 (qm_c qw68 (qm_c qw376 qm_0))))) (by decide)
    · cases h
  · rintro av μ ⟨o, x1, rfl, ht, hp⟩
    exact Nat.le_of_ble_eq_true rfl
  · rintro av μ ⟨o, x1, rfl, ht, hp⟩
    have h := xX5_trustedReference o x1 μ ht hp
    rw [← sg_ri_i_R (P := PX5_trustedReference)] at h
    exact h
theorem mX5_usedReference {l : Launch} : qMet l yX5_usedReference cX5_usedReference 3 (some .int) 2 45 spX5_usedReference := by
  refine qMet_of (cal := calX5_usedReference) (fld := fX5) (cst := kX5) (csl := jX5) (nwo := nX5) false (plainFor_of_name (by decide +kernel)) tabX5 va_AOA_words.1 va_AOA_words.2 (ini := false) (fun h => by cases h) ?_ ?_ ?_
  · intro idx kd q' h p e s m args below meth c D cA B Q hF
    unfold calX5_usedReference at h
    split at h
    · cases h
      exact qc_V (C := RX5) (T := TX5) (N := 11) hF mX5_trustedReference (by exact (qm_c qw552 (qm_c qw371 (qm_c qw372 (qm_c qw55 (qm_c qw373 qm_0)))))) rfl (by decide +kernel) (by decide) sg_ri_i_recv
    · cases h
  · rintro av μ ⟨o, x1, x2, rfl, ht, hp⟩
    exact Nat.le_of_ble_eq_true rfl
  · rintro av μ ⟨o, x1, x2, rfl, ht, hp⟩
    have h := xX5_usedReference o x1 x2 μ ht hp
    rw [← sg_rii_i_R (P := PX5_usedReference)] at h
    exact h
theorem mX5_sizeFrom {l : Launch} : qMet l yX5_sizeFrom cX5_sizeFrom 3 (some .int) 3 63 spX5_sizeFrom := by
  refine qMet_of (cal := calX5_sizeFrom) (fld := fX5) (cst := kX5) (csl := jX5) (nwo := nX5) false (plainFor_of_name (by decide +kernel)) tabX5 va_AOA_words.1 va_AOA_words.2 (ini := false) (fun h => by cases h) ?_ ?_ ?_
  · intro idx kd q' h p e s m args below meth c D cA B Q hF
    unfold calX5_sizeFrom at h
    split at h
    · cases h
      exact qc_S hF mX3_putBase (by exact (qm_c qw557 (qm_c qw416 (qm_c qw66 (qm_c qw417 qm_0))))) rfl (by decide +kernel) (by decide)
    · cases h
      exact qc_S hF mX3_putCarried (by exact (qm_c qw558 (qm_c qw559 (qm_c qw66 (qm_c qw560 qm_0))))) rfl (by decide +kernel) (by decide)
    · cases h
      exact qc_S hF mX3_sizeOf (by exact (qm_c qw564 (qm_c qw565 (qm_c qw66 (qm_c qw566 qm_0))))) rfl (by decide +kernel) (by decide)
    · cases h
  · rintro av μ ⟨o, x1, x2, rfl, ht, hp⟩
    exact Nat.le_of_ble_eq_true rfl
  · rintro av μ ⟨o, x1, x2, rfl, ht, hp⟩
    have h := xX5_sizeFrom o x1 x2 μ ht hp
    rw [← sg_rii_i_R (P := PX5_sizeFrom)] at h
    exact h
theorem mX5_hear {l : Launch} : qMet l yX5_hear cX5_hear 2 none 1 22 spX5_hear := by
  refine qMet_of (cal := calX5_hear) (fld := fX5) (cst := kX5) (csl := jX5) (nwo := nX5) false (plainFor_of_name (by decide +kernel)) tabX5 va_AOA_words.1 va_AOA_words.2 (ini := false) (fun h => by cases h) ?_ ?_ ?_
  · intro idx kd q' h p e s m args below meth c D cA B Q hF
    unfold calX5_hear at h
    split at h
    · cases h
      exact qc_SN hF mX8_inRange (by exact (qm_c qw515 (qm_c qw51 (qm_c qw516 qm_0)))) (by decide +kernel) rfl (by decide +kernel) (by decide)
    · cases h
  · rintro av μ ⟨o, x1, rfl, ht, hp⟩
    exact Nat.le_of_ble_eq_true rfl
  · rintro av μ ⟨o, x1, rfl, ht, hp⟩
    have h := xX5_hear o x1 μ ht hp
    rw [← sg_ri_v_R (P := PX5_hear)] at h
    exact h
theorem mX5_savedBytes {l : Launch} : qMet l yX5_savedBytes cX5_savedBytes 1 (some .int) 0 0 spX5_savedBytes := by
  refine qMet_of (cal := calX5_savedBytes) (fld := fX5) (cst := kX5) (csl := jX5) (nwo := nX5) false (plainFor_of_name (by decide +kernel)) tabX5 va_AOA_words.1 va_AOA_words.2 (ini := false) (fun h => by cases h) ?_ ?_ ?_
  · intro idx kd q' h p e s m args below meth c D cA B Q hF
    cases h
  · rintro av μ ⟨o, rfl, ht, hp⟩
    exact Nat.le_of_ble_eq_true rfl
  · rintro av μ ⟨o, rfl, ht, hp⟩
    have h := xX5_savedBytes o μ ht hp
    rw [← sg_r_i_R (P := PX5_savedBytes)] at h
    exact h
theorem mX5_sentValue {l : Launch} : qMet l yX5_sentValue cX5_sentValue 3 (some .int) 0 0 spX5_sentValue := by
  refine qMet_of (cal := calX5_sentValue) (fld := fX5) (cst := kX5) (csl := jX5) (nwo := nX5) false (plainFor_of_name (by decide +kernel)) tabX5 va_AOA_words.1 va_AOA_words.2 (ini := false) (fun h => by cases h) ?_ ?_ ?_
  · intro idx kd q' h p e s m args below meth c D cA B Q hF
    cases h
  · rintro av μ ⟨o, x1, x2, rfl, ht, hp⟩
    exact Nat.le_of_ble_eq_true rfl
  · rintro av μ ⟨o, x1, x2, rfl, ht, hp⟩
    have h := xX5_sentValue o x1 x2 μ ht hp
    rw [← sg_rii_i_R (P := PX5_sentValue)] at h
    exact h
theorem mX5_sendPresent {l : Launch} : qMet l yX5_sendPresent cX5_sendPresent 4 (some .int) 4 85 spX5_sendPresent := by
  refine qMet_of (cal := calX5_sendPresent) (fld := fX5) (cst := kX5) (csl := jX5) (nwo := nX5) false (plainFor_of_name (by decide +kernel)) tabX5 va_AOA_words.1 va_AOA_words.2 (ini := false) (fun h => by cases h) ?_ ?_ ?_
  · intro idx kd q' h p e s m args below meth c D cA B Q hF
    unfold calX5_sendPresent at h
    split at h
    · cases h
      exact qc_S hF mX3_copyRow (by exact (qm_c qw328 (qm_c qw329 (qm_c qw66 (qm_c qw330 qm_0))))) rfl (by decide +kernel) (by decide)
    · cases h
      exact qc_acp hF (by exact (qm_c qw334 (qm_c qw333 (qm_c qw332 (qm_c qw67 qm_0))))) (by decide)
    · cases h
      exact qc_V (C := RX5) (T := TX5) (N := 11) hF mX5_usedReference (by exact (qm_c qw548 (qm_c qw549 (qm_c qw550 (qm_c qw55 (qm_c qw551 qm_0)))))) rfl (by decide +kernel) (by decide) sg_rii_i_recv
    · cases h
      exact qc_V (C := RX5) (T := TX5) (N := 11) hF mX5_sizeFrom (by exact (qm_c qw553 (qm_c qw554 (qm_c qw555 (qm_c qw55 (qm_c qw556 qm_0)))))) rfl (by decide +kernel) (by decide) sg_rii_i_recv
    · cases h
  · rintro av μ ⟨o, rfl, ht, hp⟩
    exact Nat.le_of_ble_eq_true rfl
  · rintro av μ ⟨o, rfl, ht, hp⟩
    have h := xX5_sendPresent o μ ht hp
    rw [← sg_r_i_R (P := PX5_sendPresent)] at h
    exact h
theorem mX5_digestOn {l : Launch} : qMet l yX5_digestOn cX5_digestOn 7 (some .long) 1 23 spX5_digestOn := by
  refine qMet_of (cal := calX5_digestOn) (fld := fX5) (cst := kX5) (csl := jX5) (nwo := nX5) true (plainFor_of_name (by decide +kernel)) tabX5 va_AOA_words.1 va_AOA_words.2 (ini := false) (fun h => by cases h) ?_ ?_ ?_
  · intro idx kd q' h p e s m args below meth c D cA B Q hF
    unfold calX5_digestOn at h
    split at h
    · cases h
      exact qc_SN hF mX8_mixed (by exact (qm_c qw588 (qm_c qw51 (qm_c qw589 qm_0)))) (by decide +kernel) rfl (by decide +kernel) (by decide)
    · cases h
      exact qc_V (C := RX5) (T := TX5) (N := 11) hF mX5_sentValue (by exact (qm_c qw596 (qm_c qw597 (qm_c qw598 (qm_c qw55 (qm_c qw599 qm_0)))))) rfl (by decide +kernel) (by decide) sg_rii_i_recv
    · cases h
  · rintro av μ ⟨o, x1, rfl, ht, hp⟩
    exact Nat.le_of_ble_eq_true rfl
  · rintro av μ ⟨o, x1, rfl, ht, hp⟩
    have h := xX5_digestOn o x1 μ ht hp
    rw [← sg_rj_j_R (P := PX5_digestOn)] at h
    exact h
theorem mX2_copyFrom {l : Launch} : qMet l yX2_copyFrom cX2_copyFrom 2 none 3 69 spX2_copyFrom := by
  refine qMet_of (cal := calX2_copyFrom) (fld := fX2) (cst := kX2) (csl := jX2) (nwo := nX2) false (plainFor_of_name (by decide +kernel)) tabX2 va_AOA_words.1 va_AOA_words.2 (ini := false) (fun h => by cases h) ?_ ?_ ?_
  · intro idx kd q' h p e s m args below meth c D cA B Q hF
    unfold calX2_copyFrom at h
    split at h
    · cases h
      exact qc_acp hF (by exact (qm_c qw339 (qm_c qw333 (qm_c qw332 (qm_c qw67 qm_0))))) (by decide)
    · cases h
      exact qc_V (C := RX7) (T := TX7) (N := 2) hF mX7_copyFrom (by exact (qm_c qw340 (qm_c qw341 (qm_c qw342 (qm_c qw57 (qm_c qw343 qm_0)))))) rfl (by decide +kernel) (by decide) sg_ra_v_recv
    · cases h
  · rintro av μ ⟨o, x1, rfl, ht, hp⟩
    exact Nat.le_of_ble_eq_true rfl
  · rintro av μ ⟨o, x1, rfl, ht, hp⟩
    have h := xX2_copyFrom o x1 μ ht hp
    rw [← sg_ra_v_R (P := PX2_copyFrom)] at h
    exact h
theorem mX2_numberOf {l : Launch} : qMet l yX2_numberOf cX2_numberOf 3 (some .int) 1 22 spX2_numberOf := by
  refine qMet_of (cal := calX2_numberOf) (fld := fX2) (cst := kX2) (csl := jX2) (nwo := nX2) false (plainFor_of_name (by decide +kernel)) tabX2 va_AOA_words.1 va_AOA_words.2 (ini := false) (fun h => by cases h) ?_ ?_ ?_
  · intro idx kd q' h p e s m args below meth c D cA B Q hF
    unfold calX2_numberOf at h
    split at h
    · cases h
      exact qc_S hF mJ9_floorMod_7cf53 (by exact (qm_c qw398 (qm_c qw399 (qm_c qw68 (qm_c qw400 qm_0))))) rfl (by decide +kernel) (by decide)
    · cases h
  · rintro av μ ⟨o, x1, rfl, ht, hp⟩
    exact Nat.le_of_ble_eq_true rfl
  · rintro av μ ⟨o, x1, rfl, ht, hp⟩
    have h := xX2_numberOf o x1 μ ht hp
    rw [← sg_ri_i_R (P := PX2_numberOf)] at h
    exact h
theorem mX2_decodedPackets {l : Launch} : qMet l yX2_decodedPackets cX2_decodedPackets 1 (some .int) 0 0 spX2_decodedPackets := by
  refine qMet_of (cal := calX2_decodedPackets) (fld := fX2) (cst := kX2) (csl := jX2) (nwo := nX2) false (plainFor_of_name (by decide +kernel)) tabX2 va_AOA_words.1 va_AOA_words.2 (ini := false) (fun h => by cases h) ?_ ?_ ?_
  · intro idx kd q' h p e s m args below meth c D cA B Q hF
    cases h
  · rintro av μ ⟨o, rfl, ht, hp⟩
    exact Nat.le_of_ble_eq_true rfl
  · rintro av μ ⟨o, rfl, ht, hp⟩
    have h := xX2_decodedPackets o μ ht hp
    rw [← sg_r_i_R (P := PX2_decodedPackets)] at h
    exact h
theorem mX2_isRight {l : Launch} : qMet l yX2_isRight cX2_isRight 3 (some .boolean) 1 22 spX2_isRight := by
  refine qMet_of (cal := calX2_isRight) (fld := fX2) (cst := kX2) (csl := jX2) (nwo := nX2) false (plainFor_of_name (by decide +kernel)) tabX2 va_AOA_words.1 va_AOA_words.2 (ini := false) (fun h => by cases h) ?_ ?_ ?_
  · intro idx kd q' h p e s m args below meth c D cA B Q hF
    unfold calX2_isRight at h
    split at h
    · cases h
      exact qc_S hF mX3_sameHeader (by exact (qm_c qw426 (qm_c qw427 (qm_c qw66 (qm_c qw428 qm_0))))) rfl (by decide +kernel) (by decide)
    · cases h
  · rintro av μ ⟨o, x1, x2, rfl, ht, hp⟩
    exact Nat.le_of_ble_eq_true rfl
  · rintro av μ ⟨o, x1, x2, rfl, ht, hp⟩
    have h := xX2_isRight o x1 x2 μ ht hp
    rw [← sg_rii_i_R (P := PX2_isRight)] at h
    exact h
theorem mX2_decode {l : Launch} : qMet l yX2_decode cX2_decode 5 (some .boolean) 2 49 spX2_decode := by
  refine qMet_of (cal := calX2_decode) (fld := fX2) (cst := kX2) (csl := jX2) (nwo := nX2) false (plainFor_of_name (by decide +kernel)) tabX2 va_AOA_words.1 va_AOA_words.2 (ini := false) (fun h => by cases h) ?_ ?_ ?_
  · intro idx kd q' h p e s m args below meth c D cA B Q hF
    unfold calX2_decode at h
    split at h
    · cases h
      exact qc_V (C := RX7) (T := TX7) (N := 2) hF mX7_has (by exact (qm_c qw401 (qm_c qw402 (qm_c qw403 (qm_c qw57 (qm_c qw404 qm_0)))))) rfl (by decide +kernel) (by decide) sg_ri_i_recv
    · cases h
      exact qc_S hF mX3_copyRow (by exact (qm_c qw409 (qm_c qw329 (qm_c qw66 (qm_c qw330 qm_0))))) rfl (by decide +kernel) (by decide)
    · cases h
      exact qc_V (C := RX7) (T := TX7) (N := 2) hF mX7_rowOf (by exact (qm_c qw410 (qm_c qw411 (qm_c qw412 (qm_c qw57 (qm_c qw413 qm_0)))))) rfl (by decide +kernel) (by decide) sg_ri_a_recv
    · cases h
      exact qc_S hF mX3_putBase (by exact (qm_c qw415 (qm_c qw416 (qm_c qw66 (qm_c qw417 qm_0))))) rfl (by decide +kernel) (by decide)
    · cases h
      exact qc_S hF mX3_addCarried (by exact (qm_c qw419 (qm_c qw420 (qm_c qw66 (qm_c qw421 qm_0))))) rfl (by decide +kernel) (by decide)
    · cases h
  · rintro av μ ⟨o, x1, x2, rfl, ht, hp⟩
    exact Nat.le_of_ble_eq_true rfl
  · rintro av μ ⟨o, x1, x2, rfl, ht, hp⟩
    have h := xX2_decode o x1 x2 μ ht hp
    rw [← sg_rii_i_R (P := PX2_decode)] at h
    exact h
theorem mX2_missReference {l : Launch} : qMet l yX2_missReference cX2_missReference 2 none 2 41 spX2_missReference := by
  refine qMet_of (cal := calX2_missReference) (fld := fX2) (cst := kX2) (csl := jX2) (nwo := nX2) false (plainFor_of_name (by decide +kernel)) tabX2 va_AOA_words.1 va_AOA_words.2 (ini := false) (fun h => by cases h) ?_ ?_ ?_
  · intro idx kd q' h p e s m args below meth c D cA B Q hF
    unfold calX2_missReference at h
    split at h
    · cases h
      exact qc_V (C := RX0) (T := TX0) (N := 2) hF mX0_put (by exact (qm_c qw433 (qm_c qw434 (qm_c qw435 (qm_c qw54 (qm_c qw436 qm_0)))))) rfl (by decide +kernel) (by decide) sg_ri_v_recv
    · cases h
  · rintro av μ ⟨o, x1, rfl, ht, hp⟩
    exact Nat.le_of_ble_eq_true rfl
  · rintro av μ ⟨o, x1, rfl, ht, hp⟩
    have h := xX2_missReference o x1 μ ht hp
    rw [← sg_ra_v_R (P := PX2_missReference)] at h
    exact h
theorem mX2_keepDecoded {l : Launch} : qMet l yX2_keepDecoded cX2_keepDecoded 3 none 3 70 spX2_keepDecoded := by
  refine qMet_of (cal := calX2_keepDecoded) (fld := fX2) (cst := kX2) (csl := jX2) (nwo := nX2) false (plainFor_of_name (by decide +kernel)) tabX2 va_AOA_words.1 va_AOA_words.2 (ini := false) (fun h => by cases h) ?_ ?_ ?_
  · intro idx kd q' h p e s m args below meth c D cA B Q hF
    unfold calX2_keepDecoded at h
    split at h
    · cases h
      exact qc_V (C := RX7) (T := TX7) (N := 2) hF mX7_dropUpTo (by exact (qm_c qw445 (qm_c qw446 (qm_c qw447 (qm_c qw57 (qm_c qw448 qm_0)))))) rfl (by decide +kernel) (by decide) sg_ri_v_recv
    · cases h
      exact qc_V (C := RX7) (T := TX7) (N := 2) hF mX7_keep (by exact (qm_c qw449 (qm_c qw450 (qm_c qw451 (qm_c qw57 (qm_c qw452 qm_0)))))) rfl (by decide +kernel) (by decide) sg_ria_v_recv
    · cases h
      exact qc_V (C := RX2) (T := TX2) (N := 11) hF mX2_decodedPackets (by exact (qm_c qw453 (qm_c qw454 (qm_c qw455 (qm_c qw56 (qm_c qw456 qm_0)))))) rfl (by decide +kernel) (by decide) sg_r_i_recv
    · cases h
      exact qc_V (C := RX0) (T := TX0) (N := 2) hF mX0_put (by exact (qm_c qw433 (qm_c qw434 (qm_c qw435 (qm_c qw54 (qm_c qw436 qm_0)))))) rfl (by decide +kernel) (by decide) sg_ri_v_recv
    · cases h
  · rintro av μ ⟨o, x1, x2, rfl, ht, hp⟩
    exact Nat.le_of_ble_eq_true rfl
  · rintro av μ ⟨o, x1, x2, rfl, ht, hp⟩
    have h := xX2_keepDecoded o x1 x2 μ ht hp
    rw [← sg_ria_v_R (P := PX2_keepDecoded)] at h
    exact h
theorem mX2_receive {l : Launch} : qMet l yX2_receive cX2_receive 5 (some .int) 4 92 spX2_receive := by
  refine qMet_of (cal := calX2_receive) (fld := fX2) (cst := kX2) (csl := jX2) (nwo := nX2) false (plainFor_of_name (by decide +kernel)) tabX2 va_AOA_words.1 va_AOA_words.2 (ini := false) (fun h => by cases h) ?_ ?_ ?_
  · intro idx kd q' h p e s m args below meth c D cA B Q hF
    unfold calX2_receive at h
    split at h
    · cases h
      exact qc_max hF (by exact (qm_c qw393 (qm_c qw375 (qm_c qw68 (qm_c qw376 qm_0))))) (by decide)
    · cases h
      exact qc_V (C := RX2) (T := TX2) (N := 11) hF mX2_numberOf (by exact (qm_c qw394 (qm_c qw395 (qm_c qw396 (qm_c qw56 (qm_c qw397 qm_0)))))) rfl (by decide +kernel) (by decide) sg_ri_i_recv
    · cases h
      exact qc_V (C := RX7) (T := TX7) (N := 2) hF mX7_has (by exact (qm_c qw401 (qm_c qw402 (qm_c qw403 (qm_c qw57 (qm_c qw404 qm_0)))))) rfl (by decide +kernel) (by decide) sg_ri_i_recv
    · cases h
      exact qc_V (C := RX2) (T := TX2) (N := 11) hF mX2_decode (by exact (qm_c qw405 (qm_c qw407 (qm_c qw3 (qm_c qw56 (qm_c qw408 qm_0)))))) rfl (by decide +kernel) (by decide) sg_rii_i_recv
    · cases h
      exact qc_V (C := RX2) (T := TX2) (N := 11) hF mX2_isRight (by exact (qm_c qw422 (qm_c qw424 (qm_c qw4 (qm_c qw56 (qm_c qw425 qm_0)))))) rfl (by decide +kernel) (by decide) sg_rii_i_recv
    · cases h
      exact qc_V (C := RX2) (T := TX2) (N := 11) hF mX2_missReference (by exact (qm_c qw429 (qm_c qw431 (qm_c qw5 (qm_c qw56 (qm_c qw432 qm_0)))))) rfl (by decide +kernel) (by decide) sg_ra_v_recv
    · cases h
      exact qc_V (C := RX2) (T := TX2) (N := 11) hF mX2_keepDecoded (by exact (qm_c qw441 (qm_c qw443 (qm_c qw6 (qm_c qw56 (qm_c qw444 qm_0)))))) rfl (by decide +kernel) (by decide) sg_ria_v_recv
    · cases h
  · rintro av μ ⟨o, x1, x2, rfl, ht, hp⟩
    exact Nat.le_of_ble_eq_true rfl
  · rintro av μ ⟨o, x1, x2, rfl, ht, hp⟩
    have h := xX2_receive o x1 x2 μ ht hp
    rw [← sg_ria_i_R (P := PX2_receive)] at h
    exact h
theorem mX2_digestOn {l : Launch} : qMet l yX2_digestOn cX2_digestOn 7 (some .long) 3 65 spX2_digestOn := by
  refine qMet_of (cal := calX2_digestOn) (fld := fX2) (cst := kX2) (csl := jX2) (nwo := nX2) true (plainFor_of_name (by decide +kernel)) tabX2 va_AOA_words.1 va_AOA_words.2 (ini := false) (fun h => by cases h) ?_ ?_ ?_
  · intro idx kd q' h p e s m args below meth c D cA B Q hF
    unfold calX2_digestOn at h
    split at h
    · cases h
      exact qc_max hF (by exact (qm_c qw393 (qm_c qw375 (qm_c qw68 (qm_c qw376 qm_0))))) (by decide)
    · cases h
      exact qc_SN hF mX8_mixed (by exact (qm_c qw588 (qm_c qw51 (qm_c qw589 qm_0)))) (by decide +kernel) rfl (by decide +kernel) (by decide)
    · cases h
      exact qc_V (C := RX7) (T := TX7) (N := 2) hF mX7_size (by exact (qm_c qw610 (qm_c qw474 (qm_c qw475 (qm_c qw57 (qm_c qw476 qm_0)))))) rfl (by decide +kernel) (by decide) sg_r_i_recv
    · cases h
      exact qc_V (C := RX7) (T := TX7) (N := 2) hF mX7_valueOf (by exact (qm_c qw611 (qm_c qw612 (qm_c qw613 (qm_c qw57 (qm_c qw614 qm_0)))))) rfl (by decide +kernel) (by decide) sg_rii_i_recv
    · cases h
  · rintro av μ ⟨o, x1, rfl, ht, hp⟩
    exact Nat.le_of_ble_eq_true rfl
  · rintro av μ ⟨o, x1, rfl, ht, hp⟩
    have h := xX2_digestOn o x1 μ ht hp
    rw [← sg_rj_j_R (P := PX2_digestOn)] at h
    exact h
theorem mX6_copyFrom {l : Launch} : qMet l yX6_copyFrom cX6_copyFrom 2 none 4 90 spX6_copyFrom := by
  refine qMet_of (cal := calX6_copyFrom) (fld := fX6) (cst := kX6) (csl := jX6) (nwo := nX6) false (plainFor_of_name (by decide +kernel)) tabX6 va_AOA_words.1 va_AOA_words.2 (ini := false) (fun h => by cases h) ?_ ?_ ?_
  · intro idx kd q' h p e s m args below meth c D cA B Q hF
    unfold calX6_copyFrom at h
    split at h
    · cases h
      exact qc_V (C := RX5) (T := TX5) (N := 11) hF mX5_copyFrom (by exact (qm_c qw324 (qm_c qw325 (qm_c qw326 (qm_c qw55 (qm_c qw327 qm_0)))))) rfl (by decide +kernel) (by decide) sg_ra_v_recv
    · cases h
      exact qc_V (C := RX2) (T := TX2) (N := 11) hF mX2_copyFrom (by exact (qm_c qw335 (qm_c qw336 (qm_c qw337 (qm_c qw56 (qm_c qw338 qm_0)))))) rfl (by decide +kernel) (by decide) sg_ra_v_recv
    · cases h
      exact qc_V (C := RX0) (T := TX0) (N := 2) hF mX0_copyFrom (by exact (qm_c qw346 (qm_c qw347 (qm_c qw348 (qm_c qw54 (qm_c qw349 qm_0)))))) rfl (by decide +kernel) (by decide) sg_ra_v_recv
    · cases h
  · rintro av μ ⟨o, x1, rfl, ht, hp⟩
    exact Nat.le_of_ble_eq_true rfl
  · rintro av μ ⟨o, x1, rfl, ht, hp⟩
    have h := xX6_copyFrom o x1 μ ht hp
    rw [← sg_ra_v_R (P := PX6_copyFrom)] at h
    exact h
theorem mX6_hasRoomFor {l : Launch} : qMet l yX6_hasRoomFor cX6_hasRoomFor 2 (some .boolean) 0 0 spX6_hasRoomFor := by
  refine qMet_of (cal := calX6_hasRoomFor) (fld := fX6) (cst := kX6) (csl := jX6) (nwo := nX6) false (plainFor_of_name (by decide +kernel)) tabX6 va_AOA_words.1 va_AOA_words.2 (ini := false) (fun h => by cases h) ?_ ?_ ?_
  · intro idx kd q' h p e s m args below meth c D cA B Q hF
    cases h
  · rintro av μ ⟨o, x1, rfl, ht, hp⟩
    exact Nat.le_of_ble_eq_true rfl
  · rintro av μ ⟨o, x1, rfl, ht, hp⟩
    have h := xX6_hasRoomFor o x1 μ ht hp
    rw [← sg_ri_i_R (P := PX6_hasRoomFor)] at h
    exact h
theorem mX6_sendNext {l : Launch} : qMet l yX6_sendNext cX6_sendNext 2 (some .int) 5 108 spX6_sendNext := by
  refine qMet_of (cal := calX6_sendNext) (fld := fX6) (cst := kX6) (csl := jX6) (nwo := nX6) false (plainFor_of_name (by decide +kernel)) tabX6 va_AOA_words.1 va_AOA_words.2 (ini := false) (fun h => by cases h) ?_ ?_ ?_
  · intro idx kd q' h p e s m args below meth c D cA B Q hF
    unfold calX6_sendNext at h
    split at h
    · cases h
      exact qc_V (C := RX5) (T := TX5) (N := 11) hF mX5_sendPresent (by exact (qm_c qw544 (qm_c qw545 (qm_c qw546 (qm_c qw55 (qm_c qw547 qm_0)))))) rfl (by decide +kernel) (by decide) sg_r_i_recv
    · cases h
      exact qc_V (C := RX0) (T := TX0) (N := 2) hF mX0_put (by exact (qm_c qw571 (qm_c qw434 (qm_c qw435 (qm_c qw54 (qm_c qw436 qm_0)))))) rfl (by decide +kernel) (by decide) sg_ri_v_recv
    · cases h
  · rintro av μ ⟨o, rfl, ht, hp⟩
    exact Nat.le_of_ble_eq_true rfl
  · rintro av μ ⟨o, rfl, ht, hp⟩
    have h := xX6_sendNext o μ ht hp
    rw [← sg_r_i_R (P := PX6_sendNext)] at h
    exact h
theorem mX6_deliverPacket {l : Launch} : qMet l yX6_deliverPacket cX6_deliverPacket 2 (some .int) 5 116 spX6_deliverPacket := by
  refine qMet_of (cal := calX6_deliverPacket) (fld := fX6) (cst := kX6) (csl := jX6) (nwo := nX6) false (plainFor_of_name (by decide +kernel)) tabX6 va_AOA_words.1 va_AOA_words.2 (ini := false) (fun h => by cases h) ?_ ?_ ?_
  · intro idx kd q' h p e s m args below meth c D cA B Q hF
    unfold calX6_deliverPacket at h
    split at h
    · cases h
      exact qc_V (C := RX0) (T := TX0) (N := 2) hF mX0_takeOut (by exact (qm_c qw385 (qm_c qw386 (qm_c qw387 (qm_c qw54 (qm_c qw388 qm_0)))))) rfl (by decide +kernel) (by decide) sg_ri_i_recv
    · cases h
      exact qc_V (C := RX2) (T := TX2) (N := 11) hF mX2_receive (by exact (qm_c qw389 (qm_c qw390 (qm_c qw391 (qm_c qw56 (qm_c qw392 qm_0)))))) rfl (by decide +kernel) (by decide) sg_ria_i_recv
    · cases h
  · rintro av μ ⟨o, x1, rfl, ht, hp⟩
    exact Nat.le_of_ble_eq_true rfl
  · rintro av μ ⟨o, x1, rfl, ht, hp⟩
    have h := xX6_deliverPacket o x1 μ ht hp
    rw [← sg_ri_i_R (P := PX6_deliverPacket)] at h
    exact h
theorem mX6_deliverMessage {l : Launch} : qMet l yX6_deliverMessage cX6_deliverMessage 3 (some .int) 2 48 spX6_deliverMessage := by
  refine qMet_of (cal := calX6_deliverMessage) (fld := fX6) (cst := kX6) (csl := jX6) (nwo := nX6) false (plainFor_of_name (by decide +kernel)) tabX6 va_AOA_words.1 va_AOA_words.2 (ini := false) (fun h => by cases h) ?_ ?_ ?_
  · intro idx kd q' h p e s m args below meth c D cA B Q hF
    unfold calX6_deliverMessage at h
    split at h
    · cases h
      exact qc_V (C := RX0) (T := TX0) (N := 2) hF mX0_takeOut (by exact (qm_c qw385 (qm_c qw386 (qm_c qw387 (qm_c qw54 (qm_c qw388 qm_0)))))) rfl (by decide +kernel) (by decide) sg_ri_i_recv
    · cases h
      exact qc_V (C := RX5) (T := TX5) (N := 11) hF mX5_hear (by exact (qm_c qw577 (qm_c qw578 (qm_c qw579 (qm_c qw55 (qm_c qw580 qm_0)))))) rfl (by decide +kernel) (by decide) sg_ri_v_recv
    · cases h
  · rintro av μ ⟨o, x1, rfl, ht, hp⟩
    exact Nat.le_of_ble_eq_true rfl
  · rintro av μ ⟨o, x1, rfl, ht, hp⟩
    have h := xX6_deliverMessage o x1 μ ht hp
    rw [← sg_ri_i_R (P := PX6_deliverMessage)] at h
    exact h
theorem mX6_countOf {l : Launch} : qMet l yX6_countOf cX6_countOf 2 (some .int) 1 20 spX6_countOf := by
  refine qMet_of (cal := calX6_countOf) (fld := fX6) (cst := kX6) (csl := jX6) (nwo := nX6) false (plainFor_of_name (by decide +kernel)) tabX6 va_AOA_words.1 va_AOA_words.2 (ini := false) (fun h => by cases h) ?_ ?_ ?_
  · intro idx kd q' h p e s m args below meth c D cA B Q hF
    unfold calX6_countOf at h
    split at h
    · cases h
      exact qc_V (C := RX2) (T := TX2) (N := 11) hF mX2_decodedPackets (by exact (qm_c qw621 (qm_c qw454 (qm_c qw455 (qm_c qw56 (qm_c qw456 qm_0)))))) rfl (by decide +kernel) (by decide) sg_r_i_recv
    · cases h
  · rintro av μ ⟨o, x1, rfl, ht, hp⟩
    exact Nat.le_of_ble_eq_true rfl
  · rintro av μ ⟨o, x1, rfl, ht, hp⟩
    have h := xX6_countOf o x1 μ ht hp
    rw [← sg_ri_i_R (P := PX6_countOf)] at h
    exact h
theorem mX6_isPossible {l : Launch} : qMet l yX6_isPossible cX6_isPossible 3 (some .boolean) 2 43 spX6_isPossible := by
  refine qMet_of (cal := calX6_isPossible) (fld := fX6) (cst := kX6) (csl := jX6) (nwo := nX6) false (plainFor_of_name (by decide +kernel)) tabX6 va_AOA_words.1 va_AOA_words.2 (ini := false) (fun h => by cases h) ?_ ?_ ?_
  · intro idx kd q' h p e s m args below meth c D cA B Q hF
    unfold calX6_isPossible at h
    split at h
    · cases h
      exact qc_V (C := RX6) (T := TX6) (N := 4) hF mX6_hasRoomFor (by exact (qm_c qw529 (qm_c qw530 (qm_c qw531 (qm_c qw53 (qm_c qw532 qm_0)))))) rfl (by decide +kernel) (by decide) sg_ri_i_recv
    · cases h
      exact qc_V (C := RX0) (T := TX0) (N := 2) hF mX0_has (by exact (qm_c qw533 (qm_c qw534 (qm_c qw535 (qm_c qw54 (qm_c qw536 qm_0)))))) rfl (by decide +kernel) (by decide) sg_ri_i_recv
    · cases h
      exact qc_V (C := RX0) (T := TX0) (N := 2) hF mX0_isFull (by exact (qm_c qw538 (qm_c qw438 (qm_c qw439 (qm_c qw54 (qm_c qw440 qm_0)))))) rfl (by decide +kernel) (by decide) sg_r_i_recv
    · cases h
  · rintro av μ ⟨o, x1, x2, rfl, ht, hp⟩
    exact Nat.le_of_ble_eq_true rfl
  · rintro av μ ⟨o, x1, x2, rfl, ht, hp⟩
    have h := xX6_isPossible o x1 x2 μ ht hp
    rw [← sg_rii_i_R (P := PX6_isPossible)] at h
    exact h
theorem mX6_obey {l : Launch} : qMet l yX6_obey cX6_obey 3 (some .boolean) 6 137 spX6_obey := by
  refine qMet_of (cal := calX6_obey) (fld := fX6) (cst := kX6) (csl := jX6) (nwo := nX6) false (plainFor_of_name (by decide +kernel)) tabX6 va_AOA_words.1 va_AOA_words.2 (ini := false) (fun h => by cases h) ?_ ?_ ?_
  · intro idx kd q' h p e s m args below meth c D cA B Q hF
    unfold calX6_obey at h
    split at h
    · cases h
      exact qc_V (C := RX0) (T := TX0) (N := 2) hF mX0_put (by exact (qm_c qw571 (qm_c qw434 (qm_c qw435 (qm_c qw54 (qm_c qw436 qm_0)))))) rfl (by decide +kernel) (by decide) sg_ri_v_recv
    · cases h
      exact qc_V (C := RX0) (T := TX0) (N := 2) hF mX0_takeOut (by exact (qm_c qw385 (qm_c qw386 (qm_c qw387 (qm_c qw54 (qm_c qw388 qm_0)))))) rfl (by decide +kernel) (by decide) sg_ri_i_recv
    · cases h
      exact qc_V (C := RX6) (T := TX6) (N := 4) hF mX6_isPossible (by exact (qm_c qw525 (qm_c qw527 (qm_c qw9 (qm_c qw53 (qm_c qw528 qm_0)))))) rfl (by decide +kernel) (by decide) sg_rii_i_recv
    · cases h
      exact qc_V (C := RX5) (T := TX5) (N := 11) hF mX5_step (by exact (qm_c qw539 (qm_c qw359 (qm_c qw360 (qm_c qw55 (qm_c qw361 qm_0)))))) rfl (by decide +kernel) (by decide) sg_r_v_recv
    · cases h
      exact qc_V (C := RX6) (T := TX6) (N := 4) hF mX6_sendNext (by exact (qm_c qw540 (qm_c qw541 (qm_c qw542 (qm_c qw53 (qm_c qw543 qm_0)))))) rfl (by decide +kernel) (by decide) sg_r_i_recv
    · cases h
      exact qc_V (C := RX6) (T := TX6) (N := 4) hF mX6_deliverPacket (by exact (qm_c qw572 (qm_c qw382 (qm_c qw383 (qm_c qw53 (qm_c qw384 qm_0)))))) rfl (by decide +kernel) (by decide) sg_ri_i_recv
    · cases h
      exact qc_V (C := RX6) (T := TX6) (N := 4) hF mX6_deliverMessage (by exact (qm_c qw573 (qm_c qw574 (qm_c qw575 (qm_c qw53 (qm_c qw576 qm_0)))))) rfl (by decide +kernel) (by decide) sg_ri_i_recv
    · cases h
  · rintro av μ ⟨o, x1, x2, rfl, ht, hp⟩
    exact Nat.le_of_ble_eq_true rfl
  · rintro av μ ⟨o, x1, x2, rfl, ht, hp⟩
    have h := xX6_obey o x1 x2 μ ht hp
    rw [← sg_rii_i_R (P := PX6_obey)] at h
    exact h
theorem mX4_isPlainLetter {l : Launch} : qMet l yX4_isPlainLetter cX4_isPlainLetter 1 (some .boolean) 0 0 spX4_isPlainLetter := by
  refine qMet_of (cal := calX4_isPlainLetter) (fld := fX4) (cst := kX4) (csl := jX4) (nwo := nX4) false (plainFor_of_name (by decide +kernel)) tabX4 va_AOA_words.1 va_AOA_words.2 (ini := false) (fun h => by cases h) ?_ ?_ ?_
  · intro idx kd q' h p e s m args below meth c D cA B Q hF
    cases h
  · rintro av μ ⟨x1, rfl, hp⟩
    exact Nat.le_of_ble_eq_true rfl
  · rintro av μ ⟨x1, rfl, hp⟩
    have h := xX4_isPlainLetter x1 μ hp
    rw [← sg_si_i_R (P := PX4_isPlainLetter)] at h
    exact h
theorem mX4_isNumberedLetter {l : Launch} : qMet l yX4_isNumberedLetter cX4_isNumberedLetter 1 (some .boolean) 0 0 spX4_isNumberedLetter := by
  refine qMet_of (cal := calX4_isNumberedLetter) (fld := fX4) (cst := kX4) (csl := jX4) (nwo := nX4) false (plainFor_of_name (by decide +kernel)) tabX4 va_AOA_words.1 va_AOA_words.2 (ini := false) (fun h => by cases h) ?_ ?_ ?_
  · intro idx kd q' h p e s m args below meth c D cA B Q hF
    cases h
  · rintro av μ ⟨x1, rfl, hp⟩
    exact Nat.le_of_ble_eq_true rfl
  · rintro av μ ⟨x1, rfl, hp⟩
    have h := xX4_isNumberedLetter x1 μ hp
    rw [← sg_si_i_R (P := PX4_isNumberedLetter)] at h
    exact h
theorem mX4_isDigit {l : Launch} : qMet l yX4_isDigit cX4_isDigit 1 (some .boolean) 1 22 spX4_isDigit := by
  refine qMet_of (cal := calX4_isDigit) (fld := fX4) (cst := kX4) (csl := jX4) (nwo := nX4) false (plainFor_of_name (by decide +kernel)) tabX4 va_AOA_words.1 va_AOA_words.2 (ini := false) (fun h => by cases h) ?_ ?_ ?_
  · intro idx kd q' h p e s m args below meth c D cA B Q hF
    unfold calX4_isDigit at h
    split at h
    · cases h
      exact qc_SN hF mX8_inRange (by exact (qm_c qw515 (qm_c qw51 (qm_c qw516 qm_0)))) (by decide +kernel) rfl (by decide +kernel) (by decide)
    · cases h
  · rintro av μ ⟨x1, rfl, hp⟩
    exact Nat.le_of_ble_eq_true rfl
  · rintro av μ ⟨x1, rfl, hp⟩
    have h := xX4_isDigit x1 μ hp
    rw [← sg_si_i_R (P := PX4_isDigit)] at h
    exact h
theorem mX4_addOrder {l : Launch} : qMet l yX4_addOrder cX4_addOrder 3 none 0 0 spX4_addOrder := by
  refine qMet_of (cal := calX4_addOrder) (fld := fX4) (cst := kX4) (csl := jX4) (nwo := nX4) false (plainFor_of_name (by decide +kernel)) tabX4 va_AOA_words.1 va_AOA_words.2 (ini := false) (fun h => by cases h) ?_ ?_ ?_
  · intro idx kd q' h p e s m args below meth c D cA B Q hF
    cases h
  · rintro av μ ⟨o, x1, x2, rfl, ht, hp⟩
    exact Nat.le_of_ble_eq_true rfl
  · rintro av μ ⟨o, x1, x2, rfl, ht, hp⟩
    have h := xX4_addOrder o x1 x2 μ ht hp
    rw [← sg_rii_v_R (P := PX4_addOrder)] at h
    exact h
theorem mX4_readOrders {l : Launch} : qMet l yX4_readOrders cX4_readOrders 6 (some .int) 2 42 spX4_readOrders := by
  refine qMet_of (cal := calX4_readOrders) (fld := fX4) (cst := kX4) (csl := jX4) (nwo := nX4) false (plainFor_of_name (by decide +kernel)) tabX4 va_AOA_words.1 va_AOA_words.2 (ini := false) (fun h => by cases h) ?_ ?_ ?_
  · intro idx kd q' h p e s m args below meth c D cA B Q hF
    unfold calX4_readOrders at h
    split at h
    · cases h
      exact qc_S hF mX4_isPlainLetter (by exact (qm_c qw505 (qm_c qw506 (qm_c qw59 (qm_c qw507 qm_0))))) rfl (by decide +kernel) (by decide)
    · cases h
      exact qc_S hF mX4_isNumberedLetter (by exact (qm_c qw508 (qm_c qw509 (qm_c qw59 (qm_c qw510 qm_0))))) rfl (by decide +kernel) (by decide)
    · cases h
      exact qc_S hF mX4_isDigit (by exact (qm_c qw511 (qm_c qw512 (qm_c qw59 (qm_c qw513 qm_0))))) rfl (by decide +kernel) (by decide)
    · cases h
      exact qc_V (C := RX4) (T := TX4) (N := 5) hF mX4_addOrder (by exact (qm_c qw517 (qm_c qw519 (qm_c qw8 (qm_c qw59 (qm_c qw520 qm_0)))))) rfl (by decide +kernel) (by decide) sg_rii_v_recv
    · cases h
  · rintro av μ ⟨o, rfl, ht, hp⟩
    exact Nat.le_of_ble_eq_true rfl
  · rintro av μ ⟨o, rfl, ht, hp⟩
    have h := xX4_readOrders o μ ht hp
    rw [← sg_r_i_R (P := PX4_readOrders)] at h
    exact h
theorem mX8_nextPlace {l : Launch} : qMet l yX8_nextPlace cX8_nextPlace 1 (some .int) 0 0 spX8_nextPlace := by
  refine qMet_of (cal := calX8_nextPlace) (fld := fX8) (cst := kX8) (csl := jX8) (nwo := nX8) false (plainFor_of_name (by decide +kernel)) tabX8 va_AOA_words.1 va_AOA_words.2 (ini := false) (fun h => by cases h) ?_ ?_ ?_
  · intro idx kd q' h p e s m args below meth c D cA B Q hF
    cases h
  · rintro av μ ⟨o, rfl, ht, hp⟩
    exact Nat.le_of_ble_eq_true rfl
  · rintro av μ ⟨o, rfl, ht, hp⟩
    have h := xX8_nextPlace o μ ht hp
    rw [← sg_r_i_R (P := PX8_nextPlace)] at h
    exact h
theorem mX8_keepNextPlace {l : Launch} : qMet l yX8_keepNextPlace cX8_keepNextPlace 1 none 1 21 spX8_keepNextPlace := by
  refine qMet_of (cal := calX8_keepNextPlace) (fld := fX8) (cst := kX8) (csl := jX8) (nwo := nX8) false (plainFor_of_name (by decide +kernel)) tabX8 va_AOA_words.1 va_AOA_words.2 (ini := false) (fun h => by cases h) ?_ ?_ ?_
  · intro idx kd q' h p e s m args below meth c D cA B Q hF
    unfold calX8_keepNextPlace at h
    split at h
    · cases h
      exact qc_V (C := RX8) (T := TX8) (N := 5) hF mX8_nextPlace (by exact (qm_c qw316 (qm_c qw318 (qm_c qw1 (qm_c qw51 (qm_c qw319 qm_0)))))) rfl (by decide +kernel) (by decide) sg_r_i_recv
    · cases h
      exact qc_min hF (by exact (qm_c qw355 (qm_c qw356 (qm_c qw68 (qm_c qw357 qm_0))))) (by decide)
    · cases h
  · rintro av μ ⟨o, rfl, ht, hp⟩
    exact Nat.le_of_ble_eq_true rfl
  · rintro av μ ⟨o, rfl, ht, hp⟩
    have h := xX8_keepNextPlace o μ ht hp
    rw [← sg_r_v_R (P := PX8_keepNextPlace)] at h
    exact h
theorem mX8_saveState {l : Launch} : qMet l yX8_saveState cX8_saveState 1 none 5 111 spX8_saveState := by
  refine qMet_of (cal := calX8_saveState) (fld := fX8) (cst := kX8) (csl := jX8) (nwo := nX8) false (plainFor_of_name (by decide +kernel)) tabX8 va_AOA_words.1 va_AOA_words.2 (ini := false) (fun h => by cases h) ?_ ?_ ?_
  · intro idx kd q' h p e s m args below meth c D cA B Q hF
    unfold calX8_saveState at h
    split at h
    · cases h
      exact qc_V (C := RX8) (T := TX8) (N := 5) hF mX8_nextPlace (by exact (qm_c qw316 (qm_c qw318 (qm_c qw1 (qm_c qw51 (qm_c qw319 qm_0)))))) rfl (by decide +kernel) (by decide) sg_r_i_recv
    · cases h
      exact qc_V (C := RX6) (T := TX6) (N := 4) hF mX6_copyFrom (by exact (qm_c qw320 (qm_c qw321 (qm_c qw322 (qm_c qw53 (qm_c qw323 qm_0)))))) rfl (by decide +kernel) (by decide) sg_ra_v_recv
    · cases h
      exact qc_V (C := RX8) (T := TX8) (N := 5) hF mX8_keepNextPlace (by exact (qm_c qw351 (qm_c qw353 (qm_c qw2 (qm_c qw51 (qm_c qw354 qm_0)))))) rfl (by decide +kernel) (by decide) sg_r_v_recv
    · cases h
  · rintro av μ ⟨o, rfl, ht, hp⟩
    exact Nat.le_of_ble_eq_true rfl
  · rintro av μ ⟨o, rfl, ht, hp⟩
    have h := xX8_saveState o μ ht hp
    rw [← sg_r_v_R (P := PX8_saveState)] at h
    exact h
theorem mX8_fieldMost {l : Launch} : qMet l yX8_fieldMost cX8_fieldMost 1 (some .int) 0 0 spX8_fieldMost := by
  refine qMet_of (cal := calX8_fieldMost) (fld := fX8) (cst := kX8) (csl := jX8) (nwo := nX8) false (plainFor_of_name (by decide +kernel)) tabX8 va_AOA_words.1 va_AOA_words.2 (ini := false) (fun h => by cases h) ?_ ?_ ?_
  · intro idx kd q' h p e s m args below meth c D cA B Q hF
    cases h
  · rintro av μ ⟨x1, rfl, hp⟩
    exact Nat.le_of_ble_eq_true rfl
  · rintro av μ ⟨x1, rfl, hp⟩
    have h := xX8_fieldMost x1 μ hp
    rw [← sg_si_i_R (P := PX8_fieldMost)] at h
    exact h
theorem mX8_linkOf {l : Launch} : qMet l yX8_linkOf cX8_linkOf 2 (some (.object "HeaderSqueezer$Link")) 0 0 spX8_linkOf := by
  refine qMet_of (cal := calX8_linkOf) (fld := fX8) (cst := kX8) (csl := jX8) (nwo := nX8) false (plainFor_of_name (by decide +kernel)) tabX8 va_AOA_words.1 va_AOA_words.2 (ini := false) (fun h => by cases h) ?_ ?_ ?_
  · intro idx kd q' h p e s m args below meth c D cA B Q hF
    cases h
  · rintro av μ ⟨o, x1, rfl, ht, hp⟩
    exact Nat.le_of_ble_eq_true rfl
  · rintro av μ ⟨o, x1, rfl, ht, hp⟩
    have h := xX8_linkOf o x1 μ ht hp
    rw [← sg_ri_a_R (P := PX8_linkOf)] at h
    exact h
theorem mX8_advance {l : Launch} : qMet l yX8_advance cX8_advance 1 (some .int) 6 131 spX8_advance := by
  refine qMet_of (cal := calX8_advance) (fld := fX8) (cst := kX8) (csl := jX8) (nwo := nX8) false (plainFor_of_name (by decide +kernel)) tabX8 va_AOA_words.1 va_AOA_words.2 (ini := false) (fun h => by cases h) ?_ ?_ ?_
  · intro idx kd q' h p e s m args below meth c D cA B Q hF
    unfold calX8_advance at h
    split at h
    · cases h
      exact qc_V (C := RX8) (T := TX8) (N := 5) hF mX8_saveState (by exact (qm_c qw312 (qm_c qw314 (qm_c qw0 (qm_c qw51 (qm_c qw315 qm_0)))))) rfl (by decide +kernel) (by decide) sg_r_v_recv
    · cases h
      exact qc_V (C := RX5) (T := TX5) (N := 11) hF mX5_step (by exact (qm_c qw358 (qm_c qw359 (qm_c qw360 (qm_c qw55 (qm_c qw361 qm_0)))))) rfl (by decide +kernel) (by decide) sg_r_v_recv
    · cases h
  · rintro av μ ⟨o, rfl, ht, hp⟩
    exact Nat.le_of_ble_eq_true rfl
  · rintro av μ ⟨o, rfl, ht, hp⟩
    have h := xX8_advance o μ ht hp
    rw [← sg_r_i_R (P := PX8_advance)] at h
    exact h
theorem mX8_reference {l : Launch} : qMet l yX8_reference cX8_reference 1 (some .int) 2 45 spX8_reference := by
  refine qMet_of (cal := calX8_reference) (fld := fX8) (cst := kX8) (csl := jX8) (nwo := nX8) false (plainFor_of_name (by decide +kernel)) tabX8 va_AOA_words.1 va_AOA_words.2 (ini := false) (fun h => by cases h) ?_ ?_ ?_
  · intro idx kd q' h p e s m args below meth c D cA B Q hF
    unfold calX8_reference at h
    split at h
    · cases h
      exact qc_V (C := RX5) (T := TX5) (N := 11) hF mX5_trustedReference (by exact (qm_c qw370 (qm_c qw371 (qm_c qw372 (qm_c qw55 (qm_c qw373 qm_0)))))) rfl (by decide +kernel) (by decide) sg_ri_i_recv
    · cases h
  · rintro av μ ⟨o, rfl, ht, hp⟩
    exact Nat.le_of_ble_eq_true rfl
  · rintro av μ ⟨o, rfl, ht, hp⟩
    have h := xX8_reference o μ ht hp
    rw [← sg_r_i_R (P := PX8_reference)] at h
    exact h
theorem mX8_deliverAll {l : Launch} : qMet l yX8_deliverAll cX8_deliverAll 5 (some .int) 6 137 spX8_deliverAll := by
  refine qMet_of (cal := calX8_deliverAll) (fld := fX8) (cst := kX8) (csl := jX8) (nwo := nX8) false (plainFor_of_name (by decide +kernel)) tabX8 va_AOA_words.1 va_AOA_words.2 (ini := false) (fun h => by cases h) ?_ ?_ ?_
  · intro idx kd q' h p e s m args below meth c D cA B Q hF
    unfold calX8_deliverAll at h
    split at h
    · cases h
      exact qc_V (C := RX8) (T := TX8) (N := 5) hF mX8_saveState (by exact (qm_c qw312 (qm_c qw314 (qm_c qw0 (qm_c qw51 (qm_c qw315 qm_0)))))) rfl (by decide +kernel) (by decide) sg_r_v_recv
    · cases h
      exact qc_V (C := RX6) (T := TX6) (N := 4) hF mX6_deliverPacket (by exact (qm_c qw381 (qm_c qw382 (qm_c qw383 (qm_c qw53 (qm_c qw384 qm_0)))))) rfl (by decide +kernel) (by decide) sg_ri_i_recv
    · cases h
  · rintro av μ ⟨o, rfl, ht, hp⟩
    exact Nat.le_of_ble_eq_true rfl
  · rintro av μ ⟨o, rfl, ht, hp⟩
    have h := xX8_deliverAll o μ ht hp
    rw [← sg_r_i_R (P := PX8_deliverAll)] at h
    exact h
theorem mX8_waiting {l : Launch} : qMet l yX8_waiting cX8_waiting 2 (some .int) 1 21 spX8_waiting := by
  refine qMet_of (cal := calX8_waiting) (fld := fX8) (cst := kX8) (csl := jX8) (nwo := nX8) false (plainFor_of_name (by decide +kernel)) tabX8 va_AOA_words.1 va_AOA_words.2 (ini := false) (fun h => by cases h) ?_ ?_ ?_
  · intro idx kd q' h p e s m args below meth c D cA B Q hF
    unfold calX8_waiting at h
    split at h
    · cases h
      exact qc_V (C := RX8) (T := TX8) (N := 5) hF mX8_linkOf (by exact (qm_c qw461 (qm_c qw463 (qm_c qw7 (qm_c qw51 (qm_c qw464 qm_0)))))) rfl (by decide +kernel) (by decide) sg_ri_a_recv
    · cases h
  · rintro av μ ⟨o, x1, rfl, ht, hp⟩
    exact Nat.le_of_ble_eq_true rfl
  · rintro av μ ⟨o, x1, rfl, ht, hp⟩
    have h := xX8_waiting o x1 μ ht hp
    rw [← sg_ri_i_R (P := PX8_waiting)] at h
    exact h
theorem mX8_highest {l : Launch} : qMet l yX8_highest cX8_highest 1 (some .int) 0 0 spX8_highest := by
  refine qMet_of (cal := calX8_highest) (fld := fX8) (cst := kX8) (csl := jX8) (nwo := nX8) false (plainFor_of_name (by decide +kernel)) tabX8 va_AOA_words.1 va_AOA_words.2 (ini := false) (fun h => by cases h) ?_ ?_ ?_
  · intro idx kd q' h p e s m args below meth c D cA B Q hF
    cases h
  · rintro av μ ⟨o, rfl, ht, hp⟩
    exact Nat.le_of_ble_eq_true rfl
  · rintro av μ ⟨o, rfl, ht, hp⟩
    have h := xX8_highest o μ ht hp
    rw [← sg_r_i_R (P := PX8_highest)] at h
    exact h
theorem mX8_records {l : Launch} : qMet l yX8_records cX8_records 1 (some .int) 1 22 spX8_records := by
  refine qMet_of (cal := calX8_records) (fld := fX8) (cst := kX8) (csl := jX8) (nwo := nX8) false (plainFor_of_name (by decide +kernel)) tabX8 va_AOA_words.1 va_AOA_words.2 (ini := false) (fun h => by cases h) ?_ ?_ ?_
  · intro idx kd q' h p e s m args below meth c D cA B Q hF
    unfold calX8_records at h
    split at h
    · cases h
      exact qc_V (C := RX7) (T := TX7) (N := 2) hF mX7_size (by exact (qm_c qw473 (qm_c qw474 (qm_c qw475 (qm_c qw57 (qm_c qw476 qm_0)))))) rfl (by decide +kernel) (by decide) sg_r_i_recv
    · cases h
  · rintro av μ ⟨o, rfl, ht, hp⟩
    exact Nat.le_of_ble_eq_true rfl
  · rintro av μ ⟨o, rfl, ht, hp⟩
    have h := xX8_records o μ ht hp
    rw [← sg_r_i_R (P := PX8_records)] at h
    exact h
theorem mX8_saved {l : Launch} : qMet l yX8_saved cX8_saved 1 (some .int) 1 20 spX8_saved := by
  refine qMet_of (cal := calX8_saved) (fld := fX8) (cst := kX8) (csl := jX8) (nwo := nX8) false (plainFor_of_name (by decide +kernel)) tabX8 va_AOA_words.1 va_AOA_words.2 (ini := false) (fun h => by cases h) ?_ ?_ ?_
  · intro idx kd q' h p e s m args below meth c D cA B Q hF
    unfold calX8_saved at h
    split at h
    · cases h
      exact qc_V (C := RX5) (T := TX5) (N := 11) hF mX5_savedBytes (by exact (qm_c qw481 (qm_c qw482 (qm_c qw483 (qm_c qw55 (qm_c qw484 qm_0)))))) rfl (by decide +kernel) (by decide) sg_r_i_recv
    · cases h
  · rintro av μ ⟨o, rfl, ht, hp⟩
    exact Nat.le_of_ble_eq_true rfl
  · rintro av μ ⟨o, rfl, ht, hp⟩
    have h := xX8_saved o μ ht hp
    rw [← sg_r_i_R (P := PX8_saved)] at h
    exact h
theorem mX8_lateness {l : Launch} : qMet l yX8_lateness cX8_lateness 1 (some .int) 0 0 spX8_lateness := by
  refine qMet_of (cal := calX8_lateness) (fld := fX8) (cst := kX8) (csl := jX8) (nwo := nX8) false (plainFor_of_name (by decide +kernel)) tabX8 va_AOA_words.1 va_AOA_words.2 (ini := false) (fun h => by cases h) ?_ ?_ ?_
  · intro idx kd q' h p e s m args below meth c D cA B Q hF
    cases h
  · rintro av μ ⟨o, rfl, ht, hp⟩
    exact Nat.le_of_ble_eq_true rfl
  · rintro av μ ⟨o, rfl, ht, hp⟩
    have h := xX8_lateness o μ ht hp
    rw [← sg_r_i_R (P := PX8_lateness)] at h
    exact h
theorem mX8_clearText {l : Launch} : qMet l yX8_clearText cX8_clearText 2 (some .int) 0 0 spX8_clearText := by
  refine qMet_of (cal := calX8_clearText) (fld := fX8) (cst := kX8) (csl := jX8) (nwo := nX8) false (plainFor_of_name (by decide +kernel)) tabX8 va_AOA_words.1 va_AOA_words.2 (ini := false) (fun h => by cases h) ?_ ?_ ?_
  · intro idx kd q' h p e s m args below meth c D cA B Q hF
    cases h
  · rintro av μ ⟨o, rfl, ht, hp⟩
    exact Nat.le_of_ble_eq_true rfl
  · rintro av μ ⟨o, rfl, ht, hp⟩
    have h := xX8_clearText o μ ht hp
    rw [← sg_r_i_R (P := PX8_clearText)] at h
    exact h
theorem mX8_carryOut {l : Launch} : qMet l yX8_carryOut cX8_carryOut 4 (some .int) 7 159 spX8_carryOut := by
  refine qMet_of (cal := calX8_carryOut) (fld := fX8) (cst := kX8) (csl := jX8) (nwo := nX8) false (plainFor_of_name (by decide +kernel)) tabX8 va_AOA_words.1 va_AOA_words.2 (ini := false) (fun h => by cases h) ?_ ?_ ?_
  · intro idx kd q' h p e s m args below meth c D cA B Q hF
    unfold calX8_carryOut at h
    split at h
    · cases h
      exact qc_V (C := RX4) (T := TX4) (N := 5) hF mX4_readOrders (by exact (qm_c qw501 (qm_c qw502 (qm_c qw503 (qm_c qw59 (qm_c qw504 qm_0)))))) rfl (by decide +kernel) (by decide) sg_r_i_recv
    · cases h
      exact qc_V (C := RX8) (T := TX8) (N := 5) hF mX8_nextPlace (by exact (qm_c qw316 (qm_c qw318 (qm_c qw1 (qm_c qw51 (qm_c qw319 qm_0)))))) rfl (by decide +kernel) (by decide) sg_r_i_recv
    · cases h
      exact qc_V (C := RX6) (T := TX6) (N := 4) hF mX6_copyFrom (by exact (qm_c qw320 (qm_c qw321 (qm_c qw322 (qm_c qw53 (qm_c qw323 qm_0)))))) rfl (by decide +kernel) (by decide) sg_ra_v_recv
    · cases h
      exact qc_V (C := RX6) (T := TX6) (N := 4) hF mX6_obey (by exact (qm_c qw521 (qm_c qw522 (qm_c qw523 (qm_c qw53 (qm_c qw524 qm_0)))))) rfl (by decide +kernel) (by decide) sg_rii_i_recv
    · cases h
      exact qc_V (C := RX8) (T := TX8) (N := 5) hF mX8_keepNextPlace (by exact (qm_c qw351 (qm_c qw353 (qm_c qw2 (qm_c qw51 (qm_c qw354 qm_0)))))) rfl (by decide +kernel) (by decide) sg_r_v_recv
    · cases h
  · rintro av μ ⟨o, rfl, ht, hp⟩
    exact Nat.le_of_ble_eq_true rfl
  · rintro av μ ⟨o, rfl, ht, hp⟩
    have h := xX8_carryOut o μ ht hp
    rw [← sg_r_i_R (P := PX8_carryOut)] at h
    exact h
theorem mX8_digest {l : Launch} : qMet l yX8_digest cX8_digest 4 (some .long) 4 91 spX8_digest := by
  refine qMet_of (cal := calX8_digest) (fld := fX8) (cst := kX8) (csl := jX8) (nwo := nX8) true (plainFor_of_name (by decide +kernel)) tabX8 va_AOA_words.1 va_AOA_words.2 (ini := false) (fun h => by cases h) ?_ ?_ ?_
  · intro idx kd q' h p e s m args below meth c D cA B Q hF
    unfold calX8_digest at h
    split at h
    · cases h
      exact qc_V (C := RX6) (T := TX6) (N := 4) hF mX6_countOf (by exact (qm_c qw617 (qm_c qw618 (qm_c qw619 (qm_c qw53 (qm_c qw620 qm_0)))))) rfl (by decide +kernel) (by decide) sg_ri_i_recv
    · cases h
      exact qc_V (C := RX5) (T := TX5) (N := 11) hF mX5_savedBytes (by exact (qm_c qw481 (qm_c qw482 (qm_c qw483 (qm_c qw55 (qm_c qw484 qm_0)))))) rfl (by decide +kernel) (by decide) sg_r_i_recv
    · cases h
      exact qc_S hF mX8_mixed (by exact (qm_c qw587 (qm_c qw588 (qm_c qw51 (qm_c qw589 qm_0))))) rfl (by decide +kernel) (by decide)
    · cases h
      exact qc_V (C := RX5) (T := TX5) (N := 11) hF mX5_digestOn (by exact (qm_c qw591 (qm_c qw592 (qm_c qw593 (qm_c qw55 (qm_c qw594 qm_0)))))) rfl (by decide +kernel) (by decide) sg_rj_j_recv
    · cases h
      exact qc_V (C := RX0) (T := TX0) (N := 2) hF mX0_digestOn (by exact (qm_c qw600 (qm_c qw601 (qm_c qw602 (qm_c qw54 (qm_c qw603 qm_0)))))) rfl (by decide +kernel) (by decide) sg_rj_j_recv
    · cases h
      exact qc_V (C := RX2) (T := TX2) (N := 11) hF mX2_digestOn (by exact (qm_c qw605 (qm_c qw606 (qm_c qw607 (qm_c qw56 (qm_c qw608 qm_0)))))) rfl (by decide +kernel) (by decide) sg_rj_j_recv
    · cases h
  · rintro av μ ⟨o, rfl, ht, hp⟩
    exact Nat.le_of_ble_eq_true rfl
  · rintro av μ ⟨o, rfl, ht, hp⟩
    have h := xX8_digest o μ ht hp
    rw [← sg_r_j_R (P := PX8_digest)] at h
    exact h
theorem mX0_init {l : Launch} : qMet l yX0_init cX0_init 1 none 1 20 spX0_init := by
  refine qMet_of (cal := calX0_init) (fld := fX0) (cst := kX0) (csl := jX0) (nwo := nX0) false (plainFor_of_name (by decide +kernel)) tabX0 va_AOA_words.1 va_AOA_words.2 (ini := true) (fun _ => rfl) ?_ ?_ ?_
  · intro idx kd q' h p e s m args below meth c D cA B Q hF
    unfold calX0_init at h
    split at h
    · cases h
      exact qc_obj hF (by exact (qm_c qw123 (qm_c qw76 (qm_c qw77 qm_0)))) (by decide)
    · cases h
  · rintro av μ ⟨o, rfl, ht, hp⟩
    exact Nat.le_of_ble_eq_true rfl
  · rintro av μ ⟨o, rfl, ht, hp⟩
    have h := xX0_init o μ ht hp
    rw [← sg_r_v_R (P := PX0_init)] at h
    exact h
theorem mX4_init {l : Launch} : qMet l yX4_init cX4_init 1 none 1 20 spX4_init := by
  refine qMet_of (cal := calX4_init) (fld := fX4) (cst := kX4) (csl := jX4) (nwo := nX4) false (plainFor_of_name (by decide +kernel)) tabX4 va_AOA_words.1 va_AOA_words.2 (ini := true) (fun _ => rfl) ?_ ?_ ?_
  · intro idx kd q' h p e s m args below meth c D cA B Q hF
    unfold calX4_init at h
    split at h
    · cases h
      exact qc_obj hF (by exact (qm_c qw270 (qm_c qw76 (qm_c qw77 qm_0)))) (by decide)
    · cases h
  · rintro av μ ⟨o, rfl, ht, hp⟩
    exact Nat.le_of_ble_eq_true rfl
  · rintro av μ ⟨o, rfl, ht, hp⟩
    have h := xX4_init o μ ht hp
    rw [← sg_r_v_R (P := PX4_init)] at h
    exact h
theorem mJ7_fill_53178 {l : Launch} : qMet l yJ7_fill_53178 cJ7_fill_53178 4 none 0 0 spJ7_fill_53178 := by
  refine qMet_of (cal := calJ7_fill_53178) (fld := fun _ => none) (cst := fun _ => none) (csl := fun _ => none) (nwo := fun _ => none) false (by decide +kernel) qTab0 va_AOA_words.1 va_AOA_words.2 (ini := false) (fun h => by cases h) ?_ ?_ ?_
  · intro idx kd q' h p e s m args below meth c D cA B Q hF
    cases h
  · rintro av μ ⟨x1, x2, rfl, hp⟩
    exact Nat.le_of_ble_eq_true rfl
  · rintro av μ ⟨x1, x2, rfl, hp⟩
    have h := xJ7_fill_53178 x1 x2 μ hp
    rw [← sg_sai_v_R (P := PJ7_fill_53178)] at h
    exact h
theorem mX7_init {l : Launch} : qMet l yX7_init cX7_init 1 none 1 23 spX7_init := by
  refine qMet_of (cal := calX7_init) (fld := fX7) (cst := kX7) (csl := jX7) (nwo := nX7) false (plainFor_of_name (by decide +kernel)) tabX7 va_AOA_words.1 va_AOA_words.2 (ini := true) (fun _ => rfl) ?_ ?_ ?_
  · intro idx kd q' h p e s m args below meth c D cA B Q hF
    unfold calX7_init at h
    split at h
    · cases h
      exact qc_obj hF (by exact (qm_c qw193 (qm_c qw76 (qm_c qw77 qm_0)))) (by decide)
    · cases h
      exact qc_S hF mJ7_fill_53178 (by exact (qm_c qw195 (qm_c qw196 (qm_c qw58 (qm_c qw197 qm_0))))) rfl (by decide +kernel) (by decide)
    · cases h
  · rintro av μ ⟨o, rfl, ht, hp⟩
    exact Nat.le_of_ble_eq_true rfl
  · rintro av μ ⟨o, rfl, ht, hp⟩
    have h := xX7_init o μ ht hp
    rw [← sg_r_v_R (P := PX7_init)] at h
    exact h
theorem mX1_init {l : Launch} : qMet l yX1_init cX1_init 1 none 1 20 spX1_init := by
  refine qMet_of (cal := calX1_init) (fld := fX1) (cst := kX1) (csl := jX1) (nwo := nX1) false (plainFor_of_name (by decide +kernel)) tabX1 va_AOA_words.1 va_AOA_words.2 (ini := true) (fun _ => rfl) ?_ ?_ ?_
  · intro idx kd q' h p e s m args below meth c D cA B Q hF
    unfold calX1_init at h
    split at h
    · cases h
      exact qc_obj hF (by exact (qm_c qw83 (qm_c qw76 (qm_c qw77 qm_0)))) (by decide)
    · cases h
  · rintro av μ ⟨o, rfl, ht, hp⟩
    exact Nat.le_of_ble_eq_true rfl
  · rintro av μ ⟨o, rfl, ht, hp⟩
    have h := xX1_init o μ ht hp
    rw [← sg_r_v_R (P := PX1_init)] at h
    exact h
theorem mX5_init {l : Launch} : qMet l yX5_init cX5_init 2 none 1 20 spX5_init := by
  refine qMet_of (cal := calX5_init) (fld := fX5) (cst := kX5) (csl := jX5) (nwo := nX5) false (plainFor_of_name (by decide +kernel)) tabX5 va_AOA_words.1 va_AOA_words.2 (ini := true) (fun _ => rfl) ?_ ?_ ?_
  · intro idx kd q' h p e s m args below meth c D cA B Q hF
    unfold calX5_init at h
    split at h
    · cases h
      exact qc_obj hF (by exact (qm_c qw140 (qm_c qw76 (qm_c qw77 qm_0)))) (by decide)
    · cases h
  · rintro av μ ⟨o, x1, rfl, ht, hp⟩
    exact Nat.le_of_ble_eq_true rfl
  · rintro av μ ⟨o, x1, rfl, ht, hp⟩
    have h := xX5_init o x1 μ ht hp
    rw [← sg_ra_v_R (P := PX5_init)] at h
    exact h
theorem mX2_init {l : Launch} : qMet l yX2_init cX2_init 2 none 2 43 spX2_init := by
  refine qMet_of (cal := calX2_init) (fld := fX2) (cst := kX2) (csl := jX2) (nwo := nX2) false (plainFor_of_name (by decide +kernel)) tabX2 va_AOA_words.1 va_AOA_words.2 (ini := true) (fun _ => rfl) ?_ ?_ ?_
  · intro idx kd q' h p e s m args below meth c D cA B Q hF
    unfold calX2_init at h
    split at h
    · cases h
      exact qc_obj hF (by exact (qm_c qw187 (qm_c qw76 (qm_c qw77 qm_0)))) (by decide)
    · cases h
      exact qc_I hF mX7_init (by exact (qm_c qw190 (qm_c qw191 (qm_c qw57 (qm_c qw192 qm_0))))) rfl (by decide +kernel) (by decide) sg_r_v_recv
    · cases h
  · rintro av μ ⟨o, x1, rfl, ht, hp⟩
    exact Nat.le_of_ble_eq_true rfl
  · rintro av μ ⟨o, x1, rfl, ht, hp⟩
    have h := xX2_init o x1 μ ht hp
    rw [← sg_ra_v_R (P := PX2_init)] at h
    exact h
theorem mX6_init {l : Launch} : qMet l yX6_init cX6_init 2 none 3 64 spX6_init := by
  refine qMet_of (cal := calX6_init) (fld := fX6) (cst := kX6) (csl := jX6) (nwo := nX6) false (plainFor_of_name (by decide +kernel)) tabX6 va_AOA_words.1 va_AOA_words.2 (ini := true) (fun _ => rfl) ?_ ?_ ?_
  · intro idx kd q' h p e s m args below meth c D cA B Q hF
    unfold calX6_init at h
    split at h
    · cases h
      exact qc_obj hF (by exact (qm_c qw117 (qm_c qw76 (qm_c qw77 qm_0)))) (by decide)
    · cases h
      exact qc_IN hF mX0_init (by exact (qm_c qw121 (qm_c qw54 (qm_c qw122 qm_0)))) (by decide +kernel) rfl (by decide +kernel) (by decide) sg_r_v_recv
    · cases h
      exact qc_I hF mX5_init (by exact (qm_c qw137 (qm_c qw138 (qm_c qw55 (qm_c qw139 qm_0))))) rfl (by decide +kernel) (by decide) sg_ra_v_recv
    · cases h
      exact qc_I hF mX2_init (by exact (qm_c qw184 (qm_c qw185 (qm_c qw56 (qm_c qw186 qm_0))))) rfl (by decide +kernel) (by decide) sg_ra_v_recv
    · cases h
  · rintro av μ ⟨o, x1, rfl, ht, hp⟩
    exact Nat.le_of_ble_eq_true rfl
  · rintro av μ ⟨o, x1, rfl, ht, hp⟩
    have h := xX6_init o x1 μ ht hp
    rw [← sg_ra_v_R (P := PX6_init)] at h
    exact h
theorem mX9_init {l : Launch} : qMet l yX9_init cX9_init 2 none 1 20 spX9_init := by
  refine qMet_of (cal := calX9_init) (fld := fX9) (cst := kX9) (csl := jX9) (nwo := nX9) false (plainFor_of_name (by decide +kernel)) tabX9 va_AOA_words.1 va_AOA_words.2 (ini := true) (fun _ => rfl) ?_ ?_ ?_
  · intro idx kd q' h p e s m args below meth c D cA B Q hF
    unfold calX9_init at h
    split at h
    · cases h
      exact qc_obj hF (by exact (qm_c qw902 (qm_c qw76 (qm_c qw77 qm_0)))) (by decide)
    · cases h
  · rintro av μ ⟨o, rfl, ht, hp⟩
    exact Nat.le_of_ble_eq_true rfl
  · rintro av μ ⟨o, rfl, ht, hp⟩
    have h := xX9_init o μ ht hp
    rw [← sg_r_v_R (P := PX9_init)] at h
    exact h
theorem mX8_init {l : Launch} : qMet l yX8_init cX8_init 3 none 4 85 spX8_init := by
  refine qMet_of (cal := calX8_init) (fld := fX8) (cst := kX8) (csl := jX8) (nwo := nX8) false (plainFor_of_name (by decide +kernel)) tabX8 va_AOA_words.1 va_AOA_words.2 (ini := true) (fun _ => rfl) ?_ ?_ ?_
  · intro idx kd q' h p e s m args below meth c D cA B Q hF
    unfold calX8_init at h
    split at h
    · cases h
      exact qc_obj hF (by exact (qm_c qw75 (qm_c qw76 (qm_c qw77 qm_0)))) (by decide)
    · cases h
      exact qc_IN hF mX1_init (by exact (qm_c qw81 (qm_c qw52 (qm_c qw82 qm_0)))) (by decide +kernel) rfl (by decide +kernel) (by decide) sg_r_v_recv
    · cases h
      exact qc_I hF mX6_init (by exact (qm_c qw114 (qm_c qw115 (qm_c qw53 (qm_c qw116 qm_0))))) rfl (by decide +kernel) (by decide) sg_ra_v_recv
    · cases h
      exact qc_IN hF mX4_init (by exact (qm_c qw268 (qm_c qw59 (qm_c qw269 qm_0)))) (by decide +kernel) rfl (by decide +kernel) (by decide) sg_r_v_recv
    · cases h
  · rintro av μ ⟨o, rfl, ht, hp⟩
    exact Nat.le_of_ble_eq_true rfl
  · rintro av μ ⟨o, rfl, ht, hp⟩
    have h := xX8_init o μ ht hp
    rw [← sg_r_v_R (P := PX8_init)] at h
    exact h
theorem mX9_meanSize {l : Launch} : qMet l yX9_meanSize cX9_meanSize 1 (some .double) 0 0 spX9_meanSize := by
  refine qMet_of (cal := calX9_meanSize) (fld := fX9) (cst := kX9) (csl := jX9) (nwo := nX9) false (plainFor_of_name (by decide +kernel)) tabX9 va_AOA_words.1 va_AOA_words.2 (ini := false) (fun h => by cases h) ?_ ?_ ?_
  · intro idx kd q' h p e s m args below meth c D cA B Q hF
    cases h
  · rintro av μ ⟨o, rfl, ht, hp⟩
    exact Nat.le_of_ble_eq_true rfl
  · rintro av μ ⟨o, rfl, ht, hp⟩
    have h := xX9_meanSize o μ ht hp
    rw [← sg_r_d_R (P := PX9_meanSize)] at h
    exact h
theorem mX8_meanSize {l : Launch} : qMet l yX8_meanSize cX8_meanSize 2 (some .double) 0 0 spX8_meanSize := by
  refine qMet_of (cal := calX8_meanSize) (fld := fX8) (cst := kX8) (csl := jX8) (nwo := nX8) false (plainFor_of_name (by decide +kernel)) tabX8 va_AOA_words.1 va_AOA_words.2 (ini := false) (fun h => by cases h) ?_ ?_ ?_
  · intro idx kd q' h p e s m args below meth c D cA B Q hF
    cases h
  · rintro av μ ⟨o, rfl, ht, hp⟩
    exact Nat.le_of_ble_eq_true rfl
  · rintro av μ ⟨o, rfl, ht, hp⟩
    have h := xX8_meanSize o μ ht hp
    rw [← sg_r_d_R (P := PX8_meanSize)] at h
    exact h
