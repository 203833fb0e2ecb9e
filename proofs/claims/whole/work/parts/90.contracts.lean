/-! ===== contracts, out of the bodies (by program) ===== -/
theorem mX8_inRange {l : Launch} : qMet l yX8_inRange cX8_inRange 3 (some .boolean) 0 0 spX8_inRange := by
  refine qMet_of (cal := calX8_inRange) (fld := fX8) (cst := kX8) (csl := jX8) (nwo := nX8) false (plainFor_of_name (by decide +kernel)) tabX8 va_AOA_words.1 va_AOA_words.2 (ini := false) (fun h => by cases h) ?_ ?_ ?_
  · intro idx kd q' h p e s m args below meth c D cA B Q hF
    cases h
  · rintro av μ ⟨x1, x2, x3, rfl, hp⟩
    exact Nat.le_of_ble_eq_true rfl
  · rintro av μ ⟨x1, x2, x3, rfl, hp⟩
    have h := xX8_inRange x1 x2 x3 μ hp
    rw [← sg_siii_i_R (P := PX8_inRange)] at h
    exact h
theorem mX8_mixed {l : Launch} : qMet l yX8_mixed cX8_mixed 4 (some .long) 0 0 spX8_mixed := by
  refine qMet_of (cal := calX8_mixed) (fld := fX8) (cst := kX8) (csl := jX8) (nwo := nX8) true (plainFor_of_name (by decide +kernel)) tabX8 va_AOA_words.1 va_AOA_words.2 (ini := false) (fun h => by cases h) ?_ ?_ ?_
  · intro idx kd q' h p e s m args below meth c D cA B Q hF
    cases h
  · rintro av μ ⟨x1, x2, rfl, hp⟩
    exact Nat.le_of_ble_eq_true rfl
  · rintro av μ ⟨x1, x2, rfl, hp⟩
    have h := xX8_mixed x1 x2 μ hp
    rw [← sg_sjj_j_R (P := PX8_mixed)] at h
    exact h
theorem mX3_wrapped {l : Launch} : qMet l yX3_wrapped cX3_wrapped 1 (some .int) 0 0 spX3_wrapped := by
  refine qMet_of (cal := calX3_wrapped) (fld := fX3) (cst := kX3) (csl := jX3) (nwo := nX3) false (plainFor_of_name (by decide +kernel)) tabX3 va_AOA_words.1 va_AOA_words.2 (ini := false) (fun h => by cases h) ?_ ?_ ?_
  · intro idx kd q' h p e s m args below meth c D cA B Q hF
    cases h
  · rintro av μ ⟨x1, rfl, hp⟩
    exact Nat.le_of_ble_eq_true rfl
  · rintro av μ ⟨x1, rfl, hp⟩
    have h := xX3_wrapped x1 μ hp
    rw [← sg_si_i_R (P := PX3_wrapped)] at h
    exact h
theorem mX3_difference {l : Launch} : qMet l yX3_difference cX3_difference 2 (some .int) 0 0 spX3_difference := by
  refine qMet_of (cal := calX3_difference) (fld := fX3) (cst := kX3) (csl := jX3) (nwo := nX3) false (plainFor_of_name (by decide +kernel)) tabX3 va_AOA_words.1 va_AOA_words.2 (ini := false) (fun h => by cases h) ?_ ?_ ?_
  · intro idx kd q' h p e s m args below meth c D cA B Q hF
    cases h
  · rintro av μ ⟨x1, x2, rfl, hp⟩
    exact Nat.le_of_ble_eq_true rfl
  · rintro av μ ⟨x1, x2, rfl, hp⟩
    have h := xX3_difference x1 x2 μ hp
    rw [← sg_sii_i_R (P := PX3_difference)] at h
    exact h
theorem mX3_bytesOf {l : Launch} : qMet l yX3_bytesOf cX3_bytesOf 1 (some .int) 1 22 spX3_bytesOf := by
  refine qMet_of (cal := calX3_bytesOf) (fld := fX3) (cst := kX3) (csl := jX3) (nwo := nX3) false (plainFor_of_name (by decide +kernel)) tabX3 va_AOA_words.1 va_AOA_words.2 (ini := false) (fun h => by cases h) ?_ ?_ ?_
  · intro idx kd q' h p e s m args below meth c D cA B Q hF
    unfold calX3_bytesOf at h
    split at h
    · cases h
      exact qc_SN hF mX8_inRange (by exact (qm_c qw515 (qm_c qw51 (qm_c qw516 qm_0)))) (by decide +kernel) rfl (by decide +kernel) (by decide)
    · cases h
  · rintro av μ ⟨x1, rfl, hp⟩
    exact Nat.le_of_ble_eq_true rfl
  · rintro av μ ⟨x1, rfl, hp⟩
    have h := xX3_bytesOf x1 μ hp
    rw [← sg_si_i_R (P := PX3_bytesOf)] at h
    exact h
theorem mJ9_floorMod_7cf53 {l : Launch} : qMet l yJ9_floorMod_7cf53 cJ9_floorMod_7cf53 3 (some .int) 0 0 spJ9_floorMod_7cf53 := by
  refine qMet_of (cal := calJ9_floorMod_7cf53) (fld := fun _ => none) (cst := fun _ => none) (csl := fun _ => none) (nwo := fun _ => none) false (by decide +kernel) qTab0 va_AOA_words.1 va_AOA_words.2 (ini := false) (fun h => by cases h) ?_ ?_ ?_
  · intro idx kd q' h p e s m args below meth c D cA B Q hF
    cases h
  · rintro av μ ⟨x1, x2, rfl, hp⟩
    exact Nat.le_of_ble_eq_true rfl
  · rintro av μ ⟨x1, x2, rfl, hp⟩
    have h := xJ9_floorMod_7cf53 x1 x2 μ hp
    rw [← sg_sii_i_R (P := PJ9_floorMod_7cf53)] at h
    exact h
theorem mX3_copyRow {l : Launch} : qMet l yX3_copyRow cX3_copyRow 2 none 1 26 spX3_copyRow := by
  refine qMet_of (cal := calX3_copyRow) (fld := fX3) (cst := kX3) (csl := jX3) (nwo := nX3) false (plainFor_of_name (by decide +kernel)) tabX3 va_AOA_words.1 va_AOA_words.2 (ini := false) (fun h => by cases h) ?_ ?_ ?_
  · intro idx kd q' h p e s m args below meth c D cA B Q hF
    unfold calX3_copyRow at h
    split at h
    · cases h
      exact qc_acp hF (by exact (qm_c qw331 (qm_c qw333 (qm_c qw332 (qm_c qw67 qm_0))))) (by decide)
    · cases h
  · rintro av μ ⟨x1, x2, rfl, hp⟩
    exact Nat.le_of_ble_eq_true rfl
  · rintro av μ ⟨x1, x2, rfl, hp⟩
    have h := xX3_copyRow x1 x2 μ hp
    rw [← sg_saa_v_R (P := PX3_copyRow)] at h
    exact h
theorem mX3_putBase {l : Launch} : qMet l yX3_putBase cX3_putBase 4 none 1 26 spX3_putBase := by
  refine qMet_of (cal := calX3_putBase) (fld := fX3) (cst := kX3) (csl := jX3) (nwo := nX3) false (plainFor_of_name (by decide +kernel)) tabX3 va_AOA_words.1 va_AOA_words.2 (ini := false) (fun h => by cases h) ?_ ?_ ?_
  · intro idx kd q' h p e s m args below meth c D cA B Q hF
    unfold calX3_putBase at h
    split at h
    · cases h
      exact qc_acp hF (by exact (qm_c qw331 (qm_c qw333 (qm_c qw332 (qm_c qw67 qm_0))))) (by decide)
    · cases h
      exact qc_S hF mX3_wrapped (by exact (qm_c qw418 (qm_c qw363 (qm_c qw66 (qm_c qw364 qm_0))))) rfl (by decide +kernel) (by decide)
    · cases h
  · rintro av μ ⟨x1, x2, x3, x4, rfl, hp⟩
    exact Nat.le_of_ble_eq_true rfl
  · rintro av μ ⟨x1, x2, x3, x4, rfl, hp⟩
    have h := xX3_putBase x1 x2 x3 x4 μ hp
    rw [← sg_saaii_v_R (P := PX3_putBase)] at h
    exact h
theorem mX3_putCarried {l : Launch} : qMet l yX3_putCarried cX3_putCarried 3 none 1 21 spX3_putCarried := by
  refine qMet_of (cal := calX3_putCarried) (fld := fX3) (cst := kX3) (csl := jX3) (nwo := nX3) false (plainFor_of_name (by decide +kernel)) tabX3 va_AOA_words.1 va_AOA_words.2 (ini := false) (fun h => by cases h) ?_ ?_ ?_
  · intro idx kd q' h p e s m args below meth c D cA B Q hF
    unfold calX3_putCarried at h
    split at h
    · cases h
      exact qc_S hF mX3_difference (by exact (qm_c qw561 (qm_c qw562 (qm_c qw66 (qm_c qw563 qm_0))))) rfl (by decide +kernel) (by decide)
    · cases h
  · rintro av μ ⟨x1, x2, x3, rfl, hp⟩
    exact Nat.le_of_ble_eq_true rfl
  · rintro av μ ⟨x1, x2, x3, rfl, hp⟩
    have h := xX3_putCarried x1 x2 x3 μ hp
    rw [← sg_saaa_v_R (P := PX3_putCarried)] at h
    exact h
theorem mX3_addCarried {l : Launch} : qMet l yX3_addCarried cX3_addCarried 2 none 1 20 spX3_addCarried := by
  refine qMet_of (cal := calX3_addCarried) (fld := fX3) (cst := kX3) (csl := jX3) (nwo := nX3) false (plainFor_of_name (by decide +kernel)) tabX3 va_AOA_words.1 va_AOA_words.2 (ini := false) (fun h => by cases h) ?_ ?_ ?_
  · intro idx kd q' h p e s m args below meth c D cA B Q hF
    unfold calX3_addCarried at h
    split at h
    · cases h
      exact qc_S hF mX3_wrapped (by exact (qm_c qw418 (qm_c qw363 (qm_c qw66 (qm_c qw364 qm_0))))) rfl (by decide +kernel) (by decide)
    · cases h
  · rintro av μ ⟨x1, x2, rfl, hp⟩
    exact Nat.le_of_ble_eq_true rfl
  · rintro av μ ⟨x1, x2, rfl, hp⟩
    have h := xX3_addCarried x1 x2 μ hp
    rw [← sg_saa_v_R (P := PX3_addCarried)] at h
    exact h
theorem mX3_sameHeader {l : Launch} : qMet l yX3_sameHeader cX3_sameHeader 3 (some .boolean) 0 0 spX3_sameHeader := by
  refine qMet_of (cal := calX3_sameHeader) (fld := fX3) (cst := kX3) (csl := jX3) (nwo := nX3) false (plainFor_of_name (by decide +kernel)) tabX3 va_AOA_words.1 va_AOA_words.2 (ini := false) (fun h => by cases h) ?_ ?_ ?_
  · intro idx kd q' h p e s m args below meth c D cA B Q hF
    cases h
  · rintro av μ ⟨x1, x2, rfl, hp⟩
    exact Nat.le_of_ble_eq_true rfl
  · rintro av μ ⟨x1, x2, rfl, hp⟩
    have h := xX3_sameHeader x1 x2 μ hp
    rw [← sg_saa_i_R (P := PX3_sameHeader)] at h
    exact h
theorem mX3_sizeOf {l : Launch} : qMet l yX3_sizeOf cX3_sizeOf 2 (some .int) 2 42 spX3_sizeOf := by
  refine qMet_of (cal := calX3_sizeOf) (fld := fX3) (cst := kX3) (csl := jX3) (nwo := nX3) false (plainFor_of_name (by decide +kernel)) tabX3 va_AOA_words.1 va_AOA_words.2 (ini := false) (fun h => by cases h) ?_ ?_ ?_
  · intro idx kd q' h p e s m args below meth c D cA B Q hF
    unfold calX3_sizeOf at h
    split at h
    · cases h
      exact qc_S hF mX3_bytesOf (by exact (qm_c qw567 (qm_c qw568 (qm_c qw66 (qm_c qw569 qm_0))))) rfl (by decide +kernel) (by decide)
    · cases h
  · rintro av μ ⟨x1, rfl, hp⟩
    exact Nat.le_of_ble_eq_true rfl
  · rintro av μ ⟨x1, rfl, hp⟩
    have h := xX3_sizeOf x1 μ hp
    rw [← sg_sa_i_R (P := PX3_sizeOf)] at h
    exact h
theorem mX0_copyFrom {l : Launch} : qMet l yX0_copyFrom cX0_copyFrom 2 none 1 26 spX0_copyFrom := by
  refine qMet_of (cal := calX0_copyFrom) (fld := fX0) (cst := kX0) (csl := jX0) (nwo := nX0) false (plainFor_of_name (by decide +kernel)) tabX0 va_AOA_words.1 va_AOA_words.2 (ini := false) (fun h => by cases h) ?_ ?_ ?_
  · intro idx kd q' h p e s m args below meth c D cA B Q hF
    unfold calX0_copyFrom at h
    split at h
    · cases h
      exact qc_acp hF (by exact (qm_c qw350 (qm_c qw333 (qm_c qw332 (qm_c qw67 qm_0))))) (by decide)
    · cases h
  · rintro av μ ⟨o, x1, rfl, ht, hp⟩
    exact Nat.le_of_ble_eq_true rfl
  · rintro av μ ⟨o, x1, rfl, ht, hp⟩
    have h := xX0_copyFrom o x1 μ ht hp
    rw [← sg_ra_v_R (P := PX0_copyFrom)] at h
    exact h
theorem mX0_has {l : Launch} : qMet l yX0_has cX0_has 2 (some .boolean) 1 22 spX0_has := by
  refine qMet_of (cal := calX0_has) (fld := fX0) (cst := kX0) (csl := jX0) (nwo := nX0) false (plainFor_of_name (by decide +kernel)) tabX0 va_AOA_words.1 va_AOA_words.2 (ini := false) (fun h => by cases h) ?_ ?_ ?_
  · intro idx kd q' h p e s m args below meth c D cA B Q hF
    unfold calX0_has at h
    split at h
    · cases h
      exact qc_SN hF mX8_inRange (by exact (qm_c qw515 (qm_c qw51 (qm_c qw516 qm_0)))) (by decide +kernel) rfl (by decide +kernel) (by decide)
    · cases h
  · rintro av μ ⟨o, x1, rfl, ht, hp⟩
    exact Nat.le_of_ble_eq_true rfl
  · rintro av μ ⟨o, x1, rfl, ht, hp⟩
    have h := xX0_has o x1 μ ht hp
    rw [← sg_ri_i_R (P := PX0_has)] at h
    exact h
theorem mX0_isFull {l : Launch} : qMet l yX0_isFull cX0_isFull 1 (some .boolean) 0 0 spX0_isFull := by
  refine qMet_of (cal := calX0_isFull) (fld := fX0) (cst := kX0) (csl := jX0) (nwo := nX0) false (plainFor_of_name (by decide +kernel)) tabX0 va_AOA_words.1 va_AOA_words.2 (ini := false) (fun h => by cases h) ?_ ?_ ?_
  · intro idx kd q' h p e s m args below meth c D cA B Q hF
    cases h
  · rintro av μ ⟨o, rfl, ht, hp⟩
    exact Nat.le_of_ble_eq_true rfl
  · rintro av μ ⟨o, rfl, ht, hp⟩
    have h := xX0_isFull o μ ht hp
    rw [← sg_r_i_R (P := PX0_isFull)] at h
    exact h
theorem mX0_put {l : Launch} : qMet l yX0_put cX0_put 2 none 1 20 spX0_put := by
  refine qMet_of (cal := calX0_put) (fld := fX0) (cst := kX0) (csl := jX0) (nwo := nX0) false (plainFor_of_name (by decide +kernel)) tabX0 va_AOA_words.1 va_AOA_words.2 (ini := false) (fun h => by cases h) ?_ ?_ ?_
  · intro idx kd q' h p e s m args below meth c D cA B Q hF
    unfold calX0_put at h
    split at h
    · cases h
      exact qc_V (C := RX0) (T := TX0) (N := 2) hF mX0_isFull (by exact (qm_c qw437 (qm_c qw438 (qm_c qw439 (qm_c qw54 (qm_c qw440 qm_0)))))) rfl (by decide +kernel) (by decide) sg_r_i_recv
    · cases h
  · rintro av μ ⟨o, x1, rfl, ht, hp⟩
    exact Nat.le_of_ble_eq_true rfl
  · rintro av μ ⟨o, x1, rfl, ht, hp⟩
    have h := xX0_put o x1 μ ht hp
    rw [← sg_ri_v_R (P := PX0_put)] at h
    exact h
theorem mX0_takeOut {l : Launch} : qMet l yX0_takeOut cX0_takeOut 3 (some .int) 1 26 spX0_takeOut := by
  refine qMet_of (cal := calX0_takeOut) (fld := fX0) (cst := kX0) (csl := jX0) (nwo := nX0) false (plainFor_of_name (by decide +kernel)) tabX0 va_AOA_words.1 va_AOA_words.2 (ini := false) (fun h => by cases h) ?_ ?_ ?_
  · intro idx kd q' h p e s m args below meth c D cA B Q hF
    unfold calX0_takeOut at h
    split at h
    · cases h
      exact qc_acp hF (by exact (qm_c qw350 (qm_c qw333 (qm_c qw332 (qm_c qw67 qm_0))))) (by decide)
    · cases h
  · rintro av μ ⟨o, x1, rfl, ht, hp⟩
    exact Nat.le_of_ble_eq_true rfl
  · rintro av μ ⟨o, x1, rfl, ht, hp⟩
    have h := xX0_takeOut o x1 μ ht hp
    rw [← sg_ri_i_R (P := PX0_takeOut)] at h
    exact h
theorem mX0_digestOn {l : Launch} : qMet l yX0_digestOn cX0_digestOn 6 (some .long) 1 23 spX0_digestOn := by
  refine qMet_of (cal := calX0_digestOn) (fld := fX0) (cst := kX0) (csl := jX0) (nwo := nX0) true (plainFor_of_name (by decide +kernel)) tabX0 va_AOA_words.1 va_AOA_words.2 (ini := false) (fun h => by cases h) ?_ ?_ ?_
  · intro idx kd q' h p e s m args below meth c D cA B Q hF
    unfold calX0_digestOn at h
    split at h
    · cases h
      exact qc_SN hF mX8_mixed (by exact (qm_c qw588 (qm_c qw51 (qm_c qw589 qm_0)))) (by decide +kernel) rfl (by decide +kernel) (by decide)
    · cases h
  · rintro av μ ⟨o, x1, rfl, ht, hp⟩
    exact Nat.le_of_ble_eq_true rfl
  · rintro av μ ⟨o, x1, rfl, ht, hp⟩
    have h := xX0_digestOn o x1 μ ht hp
    rw [← sg_rj_j_R (P := PX0_digestOn)] at h
    exact h
theorem mX7_copyFrom {l : Launch} : qMet l yX7_copyFrom cX7_copyFrom 3 none 2 47 spX7_copyFrom := by
  refine qMet_of (cal := calX7_copyFrom) (fld := fX7) (cst := kX7) (csl := jX7) (nwo := nX7) false (plainFor_of_name (by decide +kernel)) tabX7 va_AOA_words.1 va_AOA_words.2 (ini := false) (fun h => by cases h) ?_ ?_ ?_
  · intro idx kd q' h p e s m args below meth c D cA B Q hF
    unfold calX7_copyFrom at h
    split at h
    · cases h
      exact qc_acp hF (by exact (qm_c qw344 (qm_c qw333 (qm_c qw332 (qm_c qw67 qm_0))))) (by decide)
    · cases h
      exact qc_S hF mX3_copyRow (by exact (qm_c qw345 (qm_c qw329 (qm_c qw66 (qm_c qw330 qm_0))))) rfl (by decide +kernel) (by decide)
    · cases h
  · rintro av μ ⟨o, x1, rfl, ht, hp⟩
    exact Nat.le_of_ble_eq_true rfl
  · rintro av μ ⟨o, x1, rfl, ht, hp⟩
    have h := xX7_copyFrom o x1 μ ht hp
    rw [← sg_ra_v_R (P := PX7_copyFrom)] at h
    exact h
theorem mX7_has {l : Launch} : qMet l yX7_has cX7_has 2 (some .boolean) 0 0 spX7_has := by
  refine qMet_of (cal := calX7_has) (fld := fX7) (cst := kX7) (csl := jX7) (nwo := nX7) false (plainFor_of_name (by decide +kernel)) tabX7 va_AOA_words.1 va_AOA_words.2 (ini := false) (fun h => by cases h) ?_ ?_ ?_
  · intro idx kd q' h p e s m args below meth c D cA B Q hF
    cases h
  · rintro av μ ⟨o, x1, rfl, ht, hp⟩
    exact Nat.le_of_ble_eq_true rfl
  · rintro av μ ⟨o, x1, rfl, ht, hp⟩
    have h := xX7_has o x1 μ ht hp
    rw [← sg_ri_i_R (P := PX7_has)] at h
    exact h
theorem mX7_rowOf {l : Launch} : qMet l yX7_rowOf cX7_rowOf 2 (some (.array .int)) 1 22 spX7_rowOf := by
  refine qMet_of (cal := calX7_rowOf) (fld := fX7) (cst := kX7) (csl := jX7) (nwo := nX7) false (plainFor_of_name (by decide +kernel)) tabX7 va_AOA_words.1 va_AOA_words.2 (ini := false) (fun h => by cases h) ?_ ?_ ?_
  · intro idx kd q' h p e s m args below meth c D cA B Q hF
    unfold calX7_rowOf at h
    split at h
    · cases h
      exact qc_S hF mJ9_floorMod_7cf53 (by exact (qm_c qw414 (qm_c qw399 (qm_c qw68 (qm_c qw400 qm_0))))) rfl (by decide +kernel) (by decide)
    · cases h
  · rintro av μ ⟨o, x1, rfl, ht, hp⟩
    exact Nat.le_of_ble_eq_true rfl
  · rintro av μ ⟨o, x1, rfl, ht, hp⟩
    have h := xX7_rowOf o x1 μ ht hp
    rw [← sg_ri_a_R (P := PX7_rowOf)] at h
    exact h
theorem mX7_keep {l : Launch} : qMet l yX7_keep cX7_keep 4 none 2 47 spX7_keep := by
  refine qMet_of (cal := calX7_keep) (fld := fX7) (cst := kX7) (csl := jX7) (nwo := nX7) false (plainFor_of_name (by decide +kernel)) tabX7 va_AOA_words.1 va_AOA_words.2 (ini := false) (fun h => by cases h) ?_ ?_ ?_
  · intro idx kd q' h p e s m args below meth c D cA B Q hF
    unfold calX7_keep at h
    split at h
    · cases h
      exact qc_S hF mX3_copyRow (by exact (qm_c qw345 (qm_c qw329 (qm_c qw66 (qm_c qw330 qm_0))))) rfl (by decide +kernel) (by decide)
    · cases h
      exact qc_S hF mJ9_floorMod_7cf53 (by exact (qm_c qw414 (qm_c qw399 (qm_c qw68 (qm_c qw400 qm_0))))) rfl (by decide +kernel) (by decide)
    · cases h
  · rintro av μ ⟨o, x1, x2, rfl, ht, hp⟩
    exact Nat.le_of_ble_eq_true rfl
  · rintro av μ ⟨o, x1, x2, rfl, ht, hp⟩
    have h := xX7_keep o x1 x2 μ ht hp
    rw [← sg_ria_v_R (P := PX7_keep)] at h
    exact h
theorem mX7_dropUpTo {l : Launch} : qMet l yX7_dropUpTo cX7_dropUpTo 3 none 0 0 spX7_dropUpTo := by
  refine qMet_of (cal := calX7_dropUpTo) (fld := fX7) (cst := kX7) (csl := jX7) (nwo := nX7) false (plainFor_of_name (by decide +kernel)) tabX7 va_AOA_words.1 va_AOA_words.2 (ini := false) (fun h => by cases h) ?_ ?_ ?_
  · intro idx kd q' h p e s m args below meth c D cA B Q hF
    cases h
  · rintro av μ ⟨o, x1, rfl, ht, hp⟩
    exact Nat.le_of_ble_eq_true rfl
  · rintro av μ ⟨o, x1, rfl, ht, hp⟩
    have h := xX7_dropUpTo o x1 μ ht hp
    rw [← sg_ri_v_R (P := PX7_dropUpTo)] at h
    exact h
theorem mX7_size {l : Launch} : qMet l yX7_size cX7_size 3 (some .int) 0 0 spX7_size := by
  refine qMet_of (cal := calX7_size) (fld := fX7) (cst := kX7) (csl := jX7) (nwo := nX7) false (plainFor_of_name (by decide +kernel)) tabX7 va_AOA_words.1 va_AOA_words.2 (ini := false) (fun h => by cases h) ?_ ?_ ?_
  · intro idx kd q' h p e s m args below meth c D cA B Q hF
    cases h
  · rintro av μ ⟨o, rfl, ht, hp⟩
    exact Nat.le_of_ble_eq_true rfl
  · rintro av μ ⟨o, rfl, ht, hp⟩
    have h := xX7_size o μ ht hp
    rw [← sg_r_i_R (P := PX7_size)] at h
    exact h
theorem mX7_valueOf {l : Launch} : qMet l yX7_valueOf cX7_valueOf 3 (some .int) 2 43 spX7_valueOf := by
  refine qMet_of (cal := calX7_valueOf) (fld := fX7) (cst := kX7) (csl := jX7) (nwo := nX7) false (plainFor_of_name (by decide +kernel)) tabX7 va_AOA_words.1 va_AOA_words.2 (ini := false) (fun h => by cases h) ?_ ?_ ?_
  · intro idx kd q' h p e s m args below meth c D cA B Q hF
    unfold calX7_valueOf at h
    split at h
    · cases h
      exact qc_V (C := RX7) (T := TX7) (N := 2) hF mX7_has (by exact (qm_c qw615 (qm_c qw402 (qm_c qw403 (qm_c qw57 (qm_c qw404 qm_0)))))) rfl (by decide +kernel) (by decide) sg_ri_i_recv
    · cases h
      exact qc_V (C := RX7) (T := TX7) (N := 2) hF mX7_rowOf (by exact (qm_c qw616 (qm_c qw411 (qm_c qw412 (qm_c qw57 (qm_c qw413 qm_0)))))) rfl (by decide +kernel) (by decide) sg_ri_a_recv
    · cases h
  · rintro av μ ⟨o, x1, x2, rfl, ht, hp⟩
    exact Nat.le_of_ble_eq_true rfl
  · rintro av μ ⟨o, x1, x2, rfl, ht, hp⟩
    have h := xX7_valueOf o x1 x2 μ ht hp
    rw [← sg_rii_i_R (P := PX7_valueOf)] at h
    exact h
theorem mX9_thrown {l : Launch} : qMet l yX9_thrown cX9_thrown 1 (some .int) 0 0 spX9_thrown := by
  refine qMet_of (cal := calX9_thrown) (fld := fX9) (cst := kX9) (csl := jX9) (nwo := nX9) false (plainFor_of_name (by decide +kernel)) tabX9 va_AOA_words.1 va_AOA_words.2 (ini := false) (fun h => by cases h) ?_ ?_ ?_
  · intro idx kd q' h p e s m args below meth c D cA B Q hF
    cases h
  · rintro av μ ⟨o, rfl, ht, hp⟩
    exact Nat.le_of_ble_eq_true rfl
  · rintro av μ ⟨o, rfl, ht, hp⟩
    have h := xX9_thrown o μ ht hp
    rw [← sg_r_i_R (P := PX9_thrown)] at h
    exact h
theorem mX9_in {l : Launch} : qMet l yX9_in cX9_in 3 (some .boolean) 0 0 spX9_in := by
  refine qMet_of (cal := calX9_in) (fld := fX9) (cst := kX9) (csl := jX9) (nwo := nX9) false (plainFor_of_name (by decide +kernel)) tabX9 va_AOA_words.1 va_AOA_words.2 (ini := false) (fun h => by cases h) ?_ ?_ ?_
  · intro idx kd q' h p e s m args below meth c D cA B Q hF
    cases h
  · rintro av μ ⟨x1, x2, x3, rfl, hp⟩
    exact Nat.le_of_ble_eq_true rfl
  · rintro av μ ⟨x1, x2, x3, rfl, hp⟩
    have h := xX9_in x1 x2 x3 μ hp
    rw [← sg_siii_i_R (P := PX9_in)] at h
    exact h
theorem mX9_fails {l : Launch} : qMet l yX9_fails cX9_fails 2 (some .int) 0 0 spX9_fails := by
  refine qMet_of (cal := calX9_fails) (fld := fX9) (cst := kX9) (csl := jX9) (nwo := nX9) false (plainFor_of_name (by decide +kernel)) tabX9 va_AOA_words.1 va_AOA_words.2 (ini := false) (fun h => by cases h) ?_ ?_ ?_
  · intro idx kd q' h p e s m args below meth c D cA B Q hF
    cases h
  · rintro av μ ⟨o, x1, rfl, ht, hp⟩
    exact Nat.le_of_ble_eq_true rfl
  · rintro av μ ⟨o, x1, rfl, ht, hp⟩
    have h := xX9_fails o x1 μ ht hp
    rw [← sg_ri_i_R (P := PX9_fails)] at h
    exact h
theorem mX9_tells {l : Launch} : qMet l yX9_tells cX9_tells 2 (some .int) 0 0 spX9_tells := by
  refine qMet_of (cal := calX9_tells) (fld := fX9) (cst := kX9) (csl := jX9) (nwo := nX9) false (plainFor_of_name (by decide +kernel)) tabX9 va_AOA_words.1 va_AOA_words.2 (ini := false) (fun h => by cases h) ?_ ?_ ?_
  · intro idx kd q' h p e s m args below meth c D cA B Q hF
    cases h
  · rintro av μ ⟨o, x1, rfl, ht, hp⟩
    exact Nat.le_of_ble_eq_true rfl
  · rintro av μ ⟨o, x1, rfl, ht, hp⟩
    have h := xX9_tells o x1 μ ht hp
    rw [← sg_ri_i_R (P := PX9_tells)] at h
    exact h
theorem mX9_hold {l : Launch} : qMet l yX9_hold cX9_hold 2 none 0 0 spX9_hold := by
  refine qMet_of (cal := calX9_hold) (fld := fX9) (cst := kX9) (csl := jX9) (nwo := nX9) false (plainFor_of_name (by decide +kernel)) tabX9 va_AOA_words.1 va_AOA_words.2 (ini := false) (fun h => by cases h) ?_ ?_ ?_
  · intro idx kd q' h p e s m args below meth c D cA B Q hF
    cases h
  · rintro av μ ⟨o, rfl, ht, hp⟩
    exact Nat.le_of_ble_eq_true rfl
  · rintro av μ ⟨o, rfl, ht, hp⟩
    have h := xX9_hold o μ ht hp
    rw [← sg_r_v_R (P := PX9_hold)] at h
    exact h
theorem mX9_restore {l : Launch} : qMet l yX9_restore cX9_restore 2 none 0 0 spX9_restore := by
  refine qMet_of (cal := calX9_restore) (fld := fX9) (cst := kX9) (csl := jX9) (nwo := nX9) false (plainFor_of_name (by decide +kernel)) tabX9 va_AOA_words.1 va_AOA_words.2 (ini := false) (fun h => by cases h) ?_ ?_ ?_
  · intro idx kd q' h p e s m args below meth c D cA B Q hF
    cases h
  · rintro av μ ⟨o, rfl, ht, hp⟩
    exact Nat.le_of_ble_eq_true rfl
  · rintro av μ ⟨o, rfl, ht, hp⟩
    have h := xX9_restore o μ ht hp
    rw [← sg_r_v_R (P := PX9_restore)] at h
    exact h
theorem mX9_ends {l : Launch} : qMet l yX9_ends cX9_ends 3 (some .int) 1 21 spX9_ends := by
  refine qMet_of (cal := calX9_ends) (fld := fX9) (cst := kX9) (csl := jX9) (nwo := nX9) false (plainFor_of_name (by decide +kernel)) tabX9 va_AOA_words.1 va_AOA_words.2 (ini := false) (fun h => by cases h) ?_ ?_ ?_
  · intro idx kd q' h p e s m args below meth c D cA B Q hF
    unfold calX9_ends at h
    split at h
    · cases h
      exact qc_V (C := RX9) (T := TX9) (N := 13) hF mX9_tells (by exact (qm_c qw970 (qm_c qw972 (qm_c qw14 (qm_c qw60 (qm_c qw973 qm_0)))))) rfl (by decide +kernel) (by decide) sg_ri_i_recv
    · cases h
  · rintro av μ ⟨o, x1, rfl, ht, hp⟩
    exact Nat.le_of_ble_eq_true rfl
  · rintro av μ ⟨o, x1, rfl, ht, hp⟩
    have h := xX9_ends o x1 μ ht hp
    rw [← sg_ri_i_R (P := PX9_ends)] at h
    exact h
theorem mX9_modulo {l : Launch} : qMet l yX9_modulo cX9_modulo 1 (some .int) 0 0 spX9_modulo := by
  refine qMet_of (cal := calX9_modulo) (fld := fX9) (cst := kX9) (csl := jX9) (nwo := nX9) false (plainFor_of_name (by decide +kernel)) tabX9 va_AOA_words.1 va_AOA_words.2 (ini := false) (fun h => by cases h) ?_ ?_ ?_
  · intro idx kd q' h p e s m args below meth c D cA B Q hF
    cases h
  · rintro av μ ⟨x1, rfl, hp⟩
    exact Nat.le_of_ble_eq_true rfl
  · rintro av μ ⟨x1, rfl, hp⟩
    have h := xX9_modulo x1 μ hp
    rw [← sg_si_i_R (P := PX9_modulo)] at h
    exact h
theorem mX9_difference {l : Launch} : qMet l yX9_difference cX9_difference 3 (some .int) 1 20 spX9_difference := by
  refine qMet_of (cal := calX9_difference) (fld := fX9) (cst := kX9) (csl := jX9) (nwo := nX9) false (plainFor_of_name (by decide +kernel)) tabX9 va_AOA_words.1 va_AOA_words.2 (ini := false) (fun h => by cases h) ?_ ?_ ?_
  · intro idx kd q' h p e s m args below meth c D cA B Q hF
    unfold calX9_difference at h
    split at h
    · cases h
      exact qc_S hF mX9_modulo (by exact (qm_c qw993 (qm_c qw994 (qm_c qw60 (qm_c qw995 qm_0))))) rfl (by decide +kernel) (by decide)
    · cases h
  · rintro av μ ⟨x1, x2, rfl, hp⟩
    exact Nat.le_of_ble_eq_true rfl
  · rintro av μ ⟨x1, x2, rfl, hp⟩
    have h := xX9_difference x1 x2 μ hp
    rw [← sg_sii_i_R (P := PX9_difference)] at h
    exact h
theorem mX9_greatest {l : Launch} : qMet l yX9_greatest cX9_greatest 1 (some .int) 0 0 spX9_greatest := by
  refine qMet_of (cal := calX9_greatest) (fld := fX9) (cst := kX9) (csl := jX9) (nwo := nX9) false (plainFor_of_name (by decide +kernel)) tabX9 va_AOA_words.1 va_AOA_words.2 (ini := false) (fun h => by cases h) ?_ ?_ ?_
  · intro idx kd q' h p e s m args below meth c D cA B Q hF
    cases h
  · rintro av μ ⟨x1, rfl, hp⟩
    exact Nat.le_of_ble_eq_true rfl
  · rintro av μ ⟨x1, rfl, hp⟩
    have h := xX9_greatest x1 μ hp
    rw [← sg_si_i_R (P := PX9_greatest)] at h
    exact h
theorem mX9_isPolicy {l : Launch} : qMet l yX9_isPolicy cX9_isPolicy 2 (some .boolean) 1 22 spX9_isPolicy := by
  refine qMet_of (cal := calX9_isPolicy) (fld := fX9) (cst := kX9) (csl := jX9) (nwo := nX9) false (plainFor_of_name (by decide +kernel)) tabX9 va_AOA_words.1 va_AOA_words.2 (ini := false) (fun h => by cases h) ?_ ?_ ?_
  · intro idx kd q' h p e s m args below meth c D cA B Q hF
    unfold calX9_isPolicy at h
    split at h
    · cases h
      exact qc_S hF mX9_in (by exact (qm_c qw951 (qm_c qw952 (qm_c qw60 (qm_c qw953 qm_0))))) rfl (by decide +kernel) (by decide)
    · cases h
  · rintro av μ ⟨x1, x2, rfl, hp⟩
    exact Nat.le_of_ble_eq_true rfl
  · rintro av μ ⟨x1, x2, rfl, hp⟩
    have h := xX9_isPolicy x1 x2 μ hp
    rw [← sg_sii_i_R (P := PX9_isPolicy)] at h
    exact h
theorem mX9_goesOn {l : Launch} : qMet l yX9_goesOn cX9_goesOn 1 none 1 20 spX9_goesOn := by
  refine qMet_of (cal := calX9_goesOn) (fld := fX9) (cst := kX9) (csl := jX9) (nwo := nX9) false (plainFor_of_name (by decide +kernel)) tabX9 va_AOA_words.1 va_AOA_words.2 (ini := false) (fun h => by cases h) ?_ ?_ ?_
  · intro idx kd q' h p e s m args below meth c D cA B Q hF
    unfold calX9_goesOn at h
    split at h
    · cases h
      exact qc_S hF mX9_modulo (by exact (qm_c qw993 (qm_c qw994 (qm_c qw60 (qm_c qw995 qm_0))))) rfl (by decide +kernel) (by decide)
    · cases h
  · rintro av μ ⟨o, rfl, ht, hp⟩
    exact Nat.le_of_ble_eq_true rfl
  · rintro av μ ⟨o, rfl, ht, hp⟩
    have h := xX9_goesOn o μ ht hp
    rw [← sg_r_v_R (P := PX9_goesOn)] at h
    exact h
theorem mX9_of {l : Launch} : qMet l yX9_of cX9_of 3 (some .int) 0 0 spX9_of := by
  refine qMet_of (cal := calX9_of) (fld := fX9) (cst := kX9) (csl := jX9) (nwo := nX9) false (plainFor_of_name (by decide +kernel)) tabX9 va_AOA_words.1 va_AOA_words.2 (ini := false) (fun h => by cases h) ?_ ?_ ?_
  · intro idx kd q' h p e s m args below meth c D cA B Q hF
    cases h
  · rintro av μ ⟨o, x1, x2, rfl, ht, hp⟩
    exact Nat.le_of_ble_eq_true rfl
  · rintro av μ ⟨o, x1, x2, rfl, ht, hp⟩
    have h := xX9_of o x1 x2 μ ht hp
    rw [← sg_rii_i_R (P := PX9_of)] at h
    exact h
theorem mX9_puts {l : Launch} : qMet l yX9_puts cX9_puts 4 none 0 0 spX9_puts := by
  refine qMet_of (cal := calX9_puts) (fld := fX9) (cst := kX9) (csl := jX9) (nwo := nX9) false (plainFor_of_name (by decide +kernel)) tabX9 va_AOA_words.1 va_AOA_words.2 (ini := false) (fun h => by cases h) ?_ ?_ ?_
  · intro idx kd q' h p e s m args below meth c D cA B Q hF
    cases h
  · rintro av μ ⟨o, x1, x2, x3, rfl, ht, hp⟩
    exact Nat.le_of_ble_eq_true rfl
  · rintro av μ ⟨o, x1, x2, x3, rfl, ht, hp⟩
    have h := xX9_puts o x1 x2 x3 μ ht hp
    rw [← sg_riii_v_R (P := PX9_puts)] at h
    exact h
theorem mX9_baseOf {l : Launch} : qMet l yX9_baseOf cX9_baseOf 5 (some .int) 1 22 spX9_baseOf := by
  refine qMet_of (cal := calX9_baseOf) (fld := fX9) (cst := kX9) (csl := jX9) (nwo := nX9) false (plainFor_of_name (by decide +kernel)) tabX9 va_AOA_words.1 va_AOA_words.2 (ini := false) (fun h => by cases h) ?_ ?_ ?_
  · intro idx kd q' h p e s m args below meth c D cA B Q hF
    unfold calX9_baseOf at h
    split at h
    · cases h
      exact qc_S hF mX9_modulo (by exact (qm_c qw993 (qm_c qw994 (qm_c qw60 (qm_c qw995 qm_0))))) rfl (by decide +kernel) (by decide)
    · cases h
      exact qc_S hF mX9_in (by exact (qm_c qw951 (qm_c qw952 (qm_c qw60 (qm_c qw953 qm_0))))) rfl (by decide +kernel) (by decide)
    · cases h
  · rintro av μ ⟨x1, x2, x3, x4, x5, rfl, hp⟩
    exact Nat.le_of_ble_eq_true rfl
  · rintro av μ ⟨x1, x2, x3, x4, x5, rfl, hp⟩
    have h := xX9_baseOf x1 x2 x3 x4 x5 μ hp
    rw [← sg_siiiii_i_R (P := PX9_baseOf)] at h
    exact h
theorem mX9_bytesFor {l : Launch} : qMet l yX9_bytesFor cX9_bytesFor 1 (some .int) 1 22 spX9_bytesFor := by
  refine qMet_of (cal := calX9_bytesFor) (fld := fX9) (cst := kX9) (csl := jX9) (nwo := nX9) false (plainFor_of_name (by decide +kernel)) tabX9 va_AOA_words.1 va_AOA_words.2 (ini := false) (fun h => by cases h) ?_ ?_ ?_
  · intro idx kd q' h p e s m args below meth c D cA B Q hF
    unfold calX9_bytesFor at h
    split at h
    · cases h
      exact qc_S hF mX9_in (by exact (qm_c qw951 (qm_c qw952 (qm_c qw60 (qm_c qw953 qm_0))))) rfl (by decide +kernel) (by decide)
    · cases h
  · rintro av μ ⟨x1, rfl, hp⟩
    exact Nat.le_of_ble_eq_true rfl
  · rintro av μ ⟨x1, rfl, hp⟩
    have h := xX9_bytesFor x1 μ hp
    rw [← sg_si_i_R (P := PX9_bytesFor)] at h
    exact h
theorem mX9_formFor {l : Launch} : qMet l yX9_formFor cX9_formFor 3 (some .int) 0 0 spX9_formFor := by
  refine qMet_of (cal := calX9_formFor) (fld := fX9) (cst := kX9) (csl := jX9) (nwo := nX9) false (plainFor_of_name (by decide +kernel)) tabX9 va_AOA_words.1 va_AOA_words.2 (ini := false) (fun h => by cases h) ?_ ?_ ?_
  · intro idx kd q' h p e s m args below meth c D cA B Q hF
    cases h
  · rintro av μ ⟨o, x1, x2, rfl, ht, hp⟩
    exact Nat.le_of_ble_eq_true rfl
  · rintro av μ ⟨o, x1, x2, rfl, ht, hp⟩
    have h := xX9_formFor o x1 x2 μ ht hp
    rw [← sg_rii_i_R (P := PX9_formFor)] at h
    exact h
theorem mX9_joins {l : Launch} : qMet l yX9_joins cX9_joins 3 none 0 0 spX9_joins := by
  refine qMet_of (cal := calX9_joins) (fld := fX9) (cst := kX9) (csl := jX9) (nwo := nX9) false (plainFor_of_name (by decide +kernel)) tabX9 va_AOA_words.1 va_AOA_words.2 (ini := false) (fun h => by cases h) ?_ ?_ ?_
  · intro idx kd q' h p e s m args below meth c D cA B Q hF
    cases h
  · rintro av μ ⟨o, x1, x2, rfl, ht, hp⟩
    exact Nat.le_of_ble_eq_true rfl
  · rintro av μ ⟨o, x1, x2, rfl, ht, hp⟩
    have h := xX9_joins o x1 x2 μ ht hp
    rw [← sg_rii_v_R (P := PX9_joins)] at h
    exact h
theorem mX9_maySend {l : Launch} : qMet l yX9_maySend cX9_maySend 2 (some .boolean) 0 0 spX9_maySend := by
  refine qMet_of (cal := calX9_maySend) (fld := fX9) (cst := kX9) (csl := jX9) (nwo := nX9) false (plainFor_of_name (by decide +kernel)) tabX9 va_AOA_words.1 va_AOA_words.2 (ini := false) (fun h => by cases h) ?_ ?_ ?_
  · intro idx kd q' h p e s m args below meth c D cA B Q hF
    cases h
  · rintro av μ ⟨o, x1, rfl, ht, hp⟩
    exact Nat.le_of_ble_eq_true rfl
  · rintro av μ ⟨o, x1, rfl, ht, hp⟩
    have h := xX9_maySend o x1 μ ht hp
    rw [← sg_ri_i_R (P := PX9_maySend)] at h
    exact h
theorem mX9_placeOf {l : Launch} : qMet l yX9_placeOf cX9_placeOf 3 (some .int) 0 0 spX9_placeOf := by
  refine qMet_of (cal := calX9_placeOf) (fld := fX9) (cst := kX9) (csl := jX9) (nwo := nX9) false (plainFor_of_name (by decide +kernel)) tabX9 va_AOA_words.1 va_AOA_words.2 (ini := false) (fun h => by cases h) ?_ ?_ ?_
  · intro idx kd q' h p e s m args below meth c D cA B Q hF
    cases h
  · rintro av μ ⟨o, x1, rfl, ht, hp⟩
    exact Nat.le_of_ble_eq_true rfl
  · rintro av μ ⟨o, x1, rfl, ht, hp⟩
    have h := xX9_placeOf o x1 μ ht hp
    rw [← sg_ri_i_R (P := PX9_placeOf)] at h
    exact h
theorem mX9_numberOf {l : Launch} : qMet l yX9_numberOf cX9_numberOf 3 (some .int) 0 0 spX9_numberOf := by
  refine qMet_of (cal := calX9_numberOf) (fld := fX9) (cst := kX9) (csl := jX9) (nwo := nX9) false (plainFor_of_name (by decide +kernel)) tabX9 va_AOA_words.1 va_AOA_words.2 (ini := false) (fun h => by cases h) ?_ ?_ ?_
  · intro idx kd q' h p e s m args below meth c D cA B Q hF
    cases h
  · rintro av μ ⟨o, x1, rfl, ht, hp⟩
    exact Nat.le_of_ble_eq_true rfl
  · rintro av μ ⟨o, x1, rfl, ht, hp⟩
    have h := xX9_numberOf o x1 μ ht hp
    rw [← sg_ri_i_R (P := PX9_numberOf)] at h
    exact h
theorem mX9_isIn {l : Launch} : qMet l yX9_isIn cX9_isIn 3 (some .boolean) 1 22 spX9_isIn := by
  refine qMet_of (cal := calX9_isIn) (fld := fX9) (cst := kX9) (csl := jX9) (nwo := nX9) false (plainFor_of_name (by decide +kernel)) tabX9 va_AOA_words.1 va_AOA_words.2 (ini := false) (fun h => by cases h) ?_ ?_ ?_
  · intro idx kd q' h p e s m args below meth c D cA B Q hF
    unfold calX9_isIn at h
    split at h
    · cases h
      exact qc_S hF mX9_in (by exact (qm_c qw951 (qm_c qw952 (qm_c qw60 (qm_c qw953 qm_0))))) rfl (by decide +kernel) (by decide)
    · cases h
  · rintro av μ ⟨o, x1, x2, rfl, ht, hp⟩
    exact Nat.le_of_ble_eq_true rfl
  · rintro av μ ⟨o, x1, x2, rfl, ht, hp⟩
    have h := xX9_isIn o x1 x2 μ ht hp
    rw [← sg_rii_i_R (P := PX9_isIn)] at h
    exact h
theorem mX9_counted {l : Launch} : qMet l yX9_counted cX9_counted 2 (some .int) 0 0 spX9_counted := by
  refine qMet_of (cal := calX9_counted) (fld := fX9) (cst := kX9) (csl := jX9) (nwo := nX9) false (plainFor_of_name (by decide +kernel)) tabX9 va_AOA_words.1 va_AOA_words.2 (ini := false) (fun h => by cases h) ?_ ?_ ?_
  · intro idx kd q' h p e s m args below meth c D cA B Q hF
    cases h
  · rintro av μ ⟨o, x1, rfl, ht, hp⟩
    exact Nat.le_of_ble_eq_true rfl
  · rintro av μ ⟨o, x1, rfl, ht, hp⟩
    have h := xX9_counted o x1 μ ht hp
    rw [← sg_ri_i_R (P := PX9_counted)] at h
    exact h
theorem mX9_spared {l : Launch} : qMet l yX9_spared cX9_spared 1 (some .int) 0 0 spX9_spared := by
  refine qMet_of (cal := calX9_spared) (fld := fX9) (cst := kX9) (csl := jX9) (nwo := nX9) false (plainFor_of_name (by decide +kernel)) tabX9 va_AOA_words.1 va_AOA_words.2 (ini := false) (fun h => by cases h) ?_ ?_ ?_
  · intro idx kd q' h p e s m args below meth c D cA B Q hF
    cases h
  · rintro av μ ⟨o, rfl, ht, hp⟩
    exact Nat.le_of_ble_eq_true rfl
  · rintro av μ ⟨o, rfl, ht, hp⟩
    have h := xX9_spared o μ ht hp
    rw [← sg_r_i_R (P := PX9_spared)] at h
    exact h
theorem mX9_recordOf {l : Launch} : qMet l yX9_recordOf cX9_recordOf 4 (some .int) 1 22 spX9_recordOf := by
  refine qMet_of (cal := calX9_recordOf) (fld := fX9) (cst := kX9) (csl := jX9) (nwo := nX9) false (plainFor_of_name (by decide +kernel)) tabX9 va_AOA_words.1 va_AOA_words.2 (ini := false) (fun h => by cases h) ?_ ?_ ?_
  · intro idx kd q' h p e s m args below meth c D cA B Q hF
    unfold calX9_recordOf at h
    split at h
    · cases h
      exact qc_V (C := RX9) (T := TX9) (N := 13) hF mX9_placeOf (by exact (qm_c qw1094 (qm_c qw1096 (qm_c qw31 (qm_c qw60 (qm_c qw1097 qm_0)))))) rfl (by decide +kernel) (by decide) sg_ri_i_recv
    · cases h
  · rintro av μ ⟨o, x1, x2, rfl, ht, hp⟩
    exact Nat.le_of_ble_eq_true rfl
  · rintro av μ ⟨o, x1, x2, rfl, ht, hp⟩
    have h := xX9_recordOf o x1 x2 μ ht hp
    rw [← sg_rii_i_R (P := PX9_recordOf)] at h
    exact h
theorem mX9_told {l : Launch} : qMet l yX9_told cX9_told 3 (some .int) 1 22 spX9_told := by
  refine qMet_of (cal := calX9_told) (fld := fX9) (cst := kX9) (csl := jX9) (nwo := nX9) false (plainFor_of_name (by decide +kernel)) tabX9 va_AOA_words.1 va_AOA_words.2 (ini := false) (fun h => by cases h) ?_ ?_ ?_
  · intro idx kd q' h p e s m args below meth c D cA B Q hF
    unfold calX9_told at h
    split at h
    · cases h
      exact qc_V (C := RX9) (T := TX9) (N := 13) hF mX9_of (by exact (qm_c qw1012 (qm_c qw1014 (qm_c qw19 (qm_c qw60 (qm_c qw1015 qm_0)))))) rfl (by decide +kernel) (by decide) sg_rii_i_recv
    · cases h
  · rintro av μ ⟨o, x1, x2, rfl, ht, hp⟩
    exact Nat.le_of_ble_eq_true rfl
  · rintro av μ ⟨o, x1, x2, rfl, ht, hp⟩
    have h := xX9_told o x1 x2 μ ht hp
    rw [← sg_rii_i_R (P := PX9_told)] at h
    exact h
theorem mX9_trusted {l : Launch} : qMet l yX9_trusted cX9_trusted 4 (some .int) 1 22 spX9_trusted := by
  refine qMet_of (cal := calX9_trusted) (fld := fX9) (cst := kX9) (csl := jX9) (nwo := nX9) false (plainFor_of_name (by decide +kernel)) tabX9 va_AOA_words.1 va_AOA_words.2 (ini := false) (fun h => by cases h) ?_ ?_ ?_
  · intro idx kd q' h p e s m args below meth c D cA B Q hF
    unfold calX9_trusted at h
    split at h
    · cases h
      exact qc_V (C := RX9) (T := TX9) (N := 13) hF mX9_of (by exact (qm_c qw1012 (qm_c qw1014 (qm_c qw19 (qm_c qw60 (qm_c qw1015 qm_0)))))) rfl (by decide +kernel) (by decide) sg_rii_i_recv
    · cases h
  · rintro av μ ⟨o, x1, rfl, ht, hp⟩
    exact Nat.le_of_ble_eq_true rfl
  · rintro av μ ⟨o, x1, rfl, ht, hp⟩
    have h := xX9_trusted o x1 μ ht hp
    rw [← sg_ri_i_R (P := PX9_trusted)] at h
    exact h
theorem mX9_senderBase {l : Launch} : qMet l yX9_senderBase cX9_senderBase 5 (some .int) 2 46 spX9_senderBase := by
  refine qMet_of (cal := calX9_senderBase) (fld := fX9) (cst := kX9) (csl := jX9) (nwo := nX9) false (plainFor_of_name (by decide +kernel)) tabX9 va_AOA_words.1 va_AOA_words.2 (ini := false) (fun h => by cases h) ?_ ?_ ?_
  · intro idx kd q' h p e s m args below meth c D cA B Q hF
    unfold calX9_senderBase at h
    split at h
    · cases h
      exact qc_S hF mX9_in (by exact (qm_c qw951 (qm_c qw952 (qm_c qw60 (qm_c qw953 qm_0))))) rfl (by decide +kernel) (by decide)
    · cases h
      exact qc_V (C := RX9) (T := TX9) (N := 13) hF mX9_of (by exact (qm_c qw1012 (qm_c qw1014 (qm_c qw19 (qm_c qw60 (qm_c qw1015 qm_0)))))) rfl (by decide +kernel) (by decide) sg_rii_i_recv
    · cases h
      exact qc_S hF mX9_baseOf (by exact (qm_c qw1028 (qm_c qw1029 (qm_c qw60 (qm_c qw1030 qm_0))))) rfl (by decide +kernel) (by decide)
    · cases h
  · rintro av μ ⟨o, x1, x2, x3, x4, rfl, ht, hp⟩
    exact Nat.le_of_ble_eq_true rfl
  · rintro av μ ⟨o, x1, x2, x3, x4, rfl, ht, hp⟩
    have h := xX9_senderBase o x1 x2 x3 x4 μ ht hp
    rw [← sg_riiii_i_R (P := PX9_senderBase)] at h
    exact h
theorem mX9_sizeOf {l : Launch} : qMet l yX9_sizeOf cX9_sizeOf 8 (some .int) 3 70 spX9_sizeOf := by
  refine qMet_of (cal := calX9_sizeOf) (fld := fX9) (cst := kX9) (csl := jX9) (nwo := nX9) false (plainFor_of_name (by decide +kernel)) tabX9 va_AOA_words.1 va_AOA_words.2 (ini := false) (fun h => by cases h) ?_ ?_ ?_
  · intro idx kd q' h p e s m args below meth c D cA B Q hF
    unfold calX9_sizeOf at h
    split at h
    · cases h
      exact qc_S hF mX9_in (by exact (qm_c qw951 (qm_c qw952 (qm_c qw60 (qm_c qw953 qm_0))))) rfl (by decide +kernel) (by decide)
    · cases h
      exact qc_V (C := RX9) (T := TX9) (N := 13) hF mX9_senderBase (by exact (qm_c qw1024 (qm_c qw1026 (qm_c qw22 (qm_c qw60 (qm_c qw1027 qm_0)))))) rfl (by decide +kernel) (by decide) sg_riiii_i_recv
    · cases h
      exact qc_S hF mX9_difference (by exact (qm_c qw1031 (qm_c qw1032 (qm_c qw60 (qm_c qw1033 qm_0))))) rfl (by decide +kernel) (by decide)
    · cases h
      exact qc_S hF mX9_bytesFor (by exact (qm_c qw1035 (qm_c qw1036 (qm_c qw60 (qm_c qw1037 qm_0))))) rfl (by decide +kernel) (by decide)
    · cases h
  · rintro av μ ⟨o, x1, x2, rfl, ht, hp⟩
    exact Nat.le_of_ble_eq_true rfl
  · rintro av μ ⟨o, x1, x2, rfl, ht, hp⟩
    have h := xX9_sizeOf o x1 x2 μ ht hp
    rw [← sg_rii_i_R (P := PX9_sizeOf)] at h
    exact h
theorem mX9_sends {l : Launch} : qMet l yX9_sends cX9_sends 6 none 4 97 spX9_sends := by
  refine qMet_of (cal := calX9_sends) (fld := fX9) (cst := kX9) (csl := jX9) (nwo := nX9) false (plainFor_of_name (by decide +kernel)) tabX9 va_AOA_words.1 va_AOA_words.2 (ini := false) (fun h => by cases h) ?_ ?_ ?_
  · intro idx kd q' h p e s m args below meth c D cA B Q hF
    unfold calX9_sends at h
    split at h
    · cases h
      exact qc_V (C := RX9) (T := TX9) (N := 13) hF mX9_of (by exact (qm_c qw1012 (qm_c qw1014 (qm_c qw19 (qm_c qw60 (qm_c qw1015 qm_0)))))) rfl (by decide +kernel) (by decide) sg_rii_i_recv
    · cases h
      exact qc_V (C := RX9) (T := TX9) (N := 13) hF mX9_trusted (by exact (qm_c qw1008 (qm_c qw1010 (qm_c qw18 (qm_c qw60 (qm_c qw1011 qm_0)))))) rfl (by decide +kernel) (by decide) sg_ri_i_recv
    · cases h
      exact qc_V (C := RX9) (T := TX9) (N := 13) hF mX9_formFor (by exact (qm_c qw1016 (qm_c qw1018 (qm_c qw20 (qm_c qw60 (qm_c qw1019 qm_0)))))) rfl (by decide +kernel) (by decide) sg_rii_i_recv
    · cases h
      exact qc_V (C := RX9) (T := TX9) (N := 13) hF mX9_sizeOf (by exact (qm_c qw1020 (qm_c qw1022 (qm_c qw21 (qm_c qw60 (qm_c qw1023 qm_0)))))) rfl (by decide +kernel) (by decide) sg_rii_i_recv
    · cases h
      exact qc_V (C := RX9) (T := TX9) (N := 13) hF mX9_puts (by exact (qm_c qw1038 (qm_c qw1040 (qm_c qw23 (qm_c qw60 (qm_c qw1041 qm_0)))))) rfl (by decide +kernel) (by decide) sg_riii_v_recv
    · cases h
      exact qc_V (C := RX9) (T := TX9) (N := 13) hF mX9_joins (by exact (qm_c qw1042 (qm_c qw1044 (qm_c qw24 (qm_c qw60 (qm_c qw1045 qm_0)))))) rfl (by decide +kernel) (by decide) sg_rii_v_recv
    · cases h
  · rintro av μ ⟨o, rfl, ht, hp⟩
    exact Nat.le_of_ble_eq_true rfl
  · rintro av μ ⟨o, rfl, ht, hp⟩
    have h := xX9_sends o μ ht hp
    rw [← sg_r_v_R (P := PX9_sends)] at h
    exact h
theorem mX9_decodes {l : Launch} : qMet l yX9_decodes cX9_decodes 10 none 3 70 spX9_decodes := by
  refine qMet_of (cal := calX9_decodes) (fld := fX9) (cst := kX9) (csl := jX9) (nwo := nX9) false (plainFor_of_name (by decide +kernel)) tabX9 va_AOA_words.1 va_AOA_words.2 (ini := false) (fun h => by cases h) ?_ ?_ ?_
  · intro idx kd q' h p e s m args below meth c D cA B Q hF
    unfold calX9_decodes at h
    split at h
    · cases h
      exact qc_S hF mX9_modulo (by exact (qm_c qw993 (qm_c qw994 (qm_c qw60 (qm_c qw995 qm_0))))) rfl (by decide +kernel) (by decide)
    · cases h
      exact qc_S hF mX9_in (by exact (qm_c qw951 (qm_c qw952 (qm_c qw60 (qm_c qw953 qm_0))))) rfl (by decide +kernel) (by decide)
    · cases h
      exact qc_V (C := RX9) (T := TX9) (N := 13) hF mX9_of (by exact (qm_c qw1012 (qm_c qw1014 (qm_c qw19 (qm_c qw60 (qm_c qw1015 qm_0)))))) rfl (by decide +kernel) (by decide) sg_rii_i_recv
    · cases h
      exact qc_S hF mX9_baseOf (by exact (qm_c qw1028 (qm_c qw1029 (qm_c qw60 (qm_c qw1030 qm_0))))) rfl (by decide +kernel) (by decide)
    · cases h
      exact qc_V (C := RX9) (T := TX9) (N := 13) hF mX9_senderBase (by exact (qm_c qw1024 (qm_c qw1026 (qm_c qw22 (qm_c qw60 (qm_c qw1027 qm_0)))))) rfl (by decide +kernel) (by decide) sg_riiii_i_recv
    · cases h
      exact qc_S hF mX9_difference (by exact (qm_c qw1031 (qm_c qw1032 (qm_c qw60 (qm_c qw1033 qm_0))))) rfl (by decide +kernel) (by decide)
    · cases h
  · rintro av μ ⟨o, x1, x2, x3, rfl, ht, hp⟩
    exact Nat.le_of_ble_eq_true rfl
  · rintro av μ ⟨o, x1, x2, x3, rfl, ht, hp⟩
    have h := xX9_decodes o x1 x2 x3 μ ht hp
    rw [← sg_riii_v_R (P := PX9_decodes)] at h
    exact h
theorem mX9_drops {l : Launch} : qMet l yX9_drops cX9_drops 3 none 0 0 spX9_drops := by
  refine qMet_of (cal := calX9_drops) (fld := fX9) (cst := kX9) (csl := jX9) (nwo := nX9) false (plainFor_of_name (by decide +kernel)) tabX9 va_AOA_words.1 va_AOA_words.2 (ini := false) (fun h => by cases h) ?_ ?_ ?_
  · intro idx kd q' h p e s m args below meth c D cA B Q hF
    cases h
  · rintro av μ ⟨o, x1, rfl, ht, hp⟩
    exact Nat.le_of_ble_eq_true rfl
  · rintro av μ ⟨o, x1, rfl, ht, hp⟩
    have h := xX9_drops o x1 μ ht hp
    rw [← sg_ri_v_R (P := PX9_drops)] at h
    exact h
theorem mX9_keeps {l : Launch} : qMet l yX9_keeps cX9_keeps 4 none 1 22 spX9_keeps := by
  refine qMet_of (cal := calX9_keeps) (fld := fX9) (cst := kX9) (csl := jX9) (nwo := nX9) false (plainFor_of_name (by decide +kernel)) tabX9 va_AOA_words.1 va_AOA_words.2 (ini := false) (fun h => by cases h) ?_ ?_ ?_
  · intro idx kd q' h p e s m args below meth c D cA B Q hF
    unfold calX9_keeps at h
    split at h
    · cases h
      exact qc_V (C := RX9) (T := TX9) (N := 13) hF mX9_drops (by exact (qm_c qw1110 (qm_c qw1112 (qm_c qw35 (qm_c qw60 (qm_c qw1113 qm_0)))))) rfl (by decide +kernel) (by decide) sg_ri_v_recv
    · cases h
  · rintro av μ ⟨o, x1, rfl, ht, hp⟩
    exact Nat.le_of_ble_eq_true rfl
  · rintro av μ ⟨o, x1, rfl, ht, hp⟩
    have h := xX9_keeps o x1 μ ht hp
    rw [← sg_ri_v_R (P := PX9_keeps)] at h
    exact h
theorem mX9_fails2 {l : Launch} : qMet l yX9_fails2 cX9_fails2 1 (some .int) 1 22 spX9_fails2 := by
  refine qMet_of (cal := calX9_fails2) (fld := fX9) (cst := kX9) (csl := jX9) (nwo := nX9) false (plainFor_of_name (by decide +kernel)) tabX9 va_AOA_words.1 va_AOA_words.2 (ini := false) (fun h => by cases h) ?_ ?_ ?_
  · intro idx kd q' h p e s m args below meth c D cA B Q hF
    unfold calX9_fails2 at h
    split at h
    · cases h
      exact qc_V (C := RX9) (T := TX9) (N := 13) hF mX9_joins (by exact (qm_c qw1042 (qm_c qw1044 (qm_c qw24 (qm_c qw60 (qm_c qw1045 qm_0)))))) rfl (by decide +kernel) (by decide) sg_rii_v_recv
    · cases h
  · rintro av μ ⟨o, rfl, ht, hp⟩
    exact Nat.le_of_ble_eq_true rfl
  · rintro av μ ⟨o, rfl, ht, hp⟩
    have h := xX9_fails2 o μ ht hp
    rw [← sg_r_i_R (P := PX9_fails2)] at h
    exact h
theorem mX9_takes {l : Launch} : qMet l yX9_takes cX9_takes 5 (some .int) 0 0 spX9_takes := by
  refine qMet_of (cal := calX9_takes) (fld := fX9) (cst := kX9) (csl := jX9) (nwo := nX9) false (plainFor_of_name (by decide +kernel)) tabX9 va_AOA_words.1 va_AOA_words.2 (ini := false) (fun h => by cases h) ?_ ?_ ?_
  · intro idx kd q' h p e s m args below meth c D cA B Q hF
    cases h
  · rintro av μ ⟨o, x1, x2, rfl, ht, hp⟩
    exact Nat.le_of_ble_eq_true rfl
  · rintro av μ ⟨o, x1, x2, rfl, ht, hp⟩
    have h := xX9_takes o x1 x2 μ ht hp
    rw [← sg_rii_i_R (P := PX9_takes)] at h
    exact h
theorem mX9_receives {l : Launch} : qMet l yX9_receives cX9_receives 7 (some .int) 4 99 spX9_receives := by
  refine qMet_of (cal := calX9_receives) (fld := fX9) (cst := kX9) (csl := jX9) (nwo := nX9) false (plainFor_of_name (by decide +kernel)) tabX9 va_AOA_words.1 va_AOA_words.2 (ini := false) (fun h => by cases h) ?_ ?_ ?_
  · intro idx kd q' h p e s m args below meth c D cA B Q hF
    unfold calX9_receives at h
    split at h
    · cases h
      exact qc_V (C := RX9) (T := TX9) (N := 13) hF mX9_of (by exact (qm_c qw1012 (qm_c qw1014 (qm_c qw19 (qm_c qw60 (qm_c qw1015 qm_0)))))) rfl (by decide +kernel) (by decide) sg_rii_i_recv
    · cases h
      exact qc_V (C := RX9) (T := TX9) (N := 13) hF mX9_joins (by exact (qm_c qw1042 (qm_c qw1044 (qm_c qw24 (qm_c qw60 (qm_c qw1045 qm_0)))))) rfl (by decide +kernel) (by decide) sg_rii_v_recv
    · cases h
      exact qc_V (C := RX9) (T := TX9) (N := 13) hF mX9_numberOf (by exact (qm_c qw1090 (qm_c qw1092 (qm_c qw30 (qm_c qw60 (qm_c qw1093 qm_0)))))) rfl (by decide +kernel) (by decide) sg_ri_i_recv
    · cases h
      exact qc_V (C := RX9) (T := TX9) (N := 13) hF mX9_placeOf (by exact (qm_c qw1094 (qm_c qw1096 (qm_c qw31 (qm_c qw60 (qm_c qw1097 qm_0)))))) rfl (by decide +kernel) (by decide) sg_ri_i_recv
    · cases h
      exact qc_V (C := RX9) (T := TX9) (N := 13) hF mX9_fails2 (by exact (qm_c qw1098 (qm_c qw1100 (qm_c qw32 (qm_c qw60 (qm_c qw1101 qm_0)))))) rfl (by decide +kernel) (by decide) sg_r_i_recv
    · cases h
      exact qc_V (C := RX9) (T := TX9) (N := 13) hF mX9_decodes (by exact (qm_c qw1102 (qm_c qw1104 (qm_c qw33 (qm_c qw60 (qm_c qw1105 qm_0)))))) rfl (by decide +kernel) (by decide) sg_riii_v_recv
    · cases h
      exact qc_V (C := RX9) (T := TX9) (N := 13) hF mX9_keeps (by exact (qm_c qw1106 (qm_c qw1108 (qm_c qw34 (qm_c qw60 (qm_c qw1109 qm_0)))))) rfl (by decide +kernel) (by decide) sg_ri_v_recv
    · cases h
  · rintro av μ ⟨o, x1, rfl, ht, hp⟩
    exact Nat.le_of_ble_eq_true rfl
  · rintro av μ ⟨o, x1, rfl, ht, hp⟩
    have h := xX9_receives o x1 μ ht hp
    rw [← sg_ri_i_R (P := PX9_receives)] at h
    exact h
theorem mX9_delivers {l : Launch} : qMet l yX9_delivers cX9_delivers 2 (some .int) 5 125 spX9_delivers := by
  refine qMet_of (cal := calX9_delivers) (fld := fX9) (cst := kX9) (csl := jX9) (nwo := nX9) false (plainFor_of_name (by decide +kernel)) tabX9 va_AOA_words.1 va_AOA_words.2 (ini := false) (fun h => by cases h) ?_ ?_ ?_
  · intro idx kd q' h p e s m args below meth c D cA B Q hF
    unfold calX9_delivers at h
    split at h
    · cases h
      exact qc_V (C := RX9) (T := TX9) (N := 13) hF mX9_isIn (by exact (qm_c qw1078 (qm_c qw1080 (qm_c qw27 (qm_c qw60 (qm_c qw1081 qm_0)))))) rfl (by decide +kernel) (by decide) sg_rii_i_recv
    · cases h
      exact qc_V (C := RX9) (T := TX9) (N := 13) hF mX9_takes (by exact (qm_c qw1082 (qm_c qw1084 (qm_c qw28 (qm_c qw60 (qm_c qw1085 qm_0)))))) rfl (by decide +kernel) (by decide) sg_rii_i_recv
    · cases h
      exact qc_V (C := RX9) (T := TX9) (N := 13) hF mX9_receives (by exact (qm_c qw1086 (qm_c qw1088 (qm_c qw29 (qm_c qw60 (qm_c qw1089 qm_0)))))) rfl (by decide +kernel) (by decide) sg_ri_i_recv
    · cases h
  · rintro av μ ⟨o, x1, rfl, ht, hp⟩
    exact Nat.le_of_ble_eq_true rfl
  · rintro av μ ⟨o, x1, rfl, ht, hp⟩
    have h := xX9_delivers o x1 μ ht hp
    rw [← sg_ri_i_R (P := PX9_delivers)] at h
    exact h
theorem mX9_loses {l : Launch} : qMet l yX9_loses cX9_loses 3 (some .int) 2 44 spX9_loses := by
  refine qMet_of (cal := calX9_loses) (fld := fX9) (cst := kX9) (csl := jX9) (nwo := nX9) false (plainFor_of_name (by decide +kernel)) tabX9 va_AOA_words.1 va_AOA_words.2 (ini := false) (fun h => by cases h) ?_ ?_ ?_
  · intro idx kd q' h p e s m args below meth c D cA B Q hF
    unfold calX9_loses at h
    split at h
    · cases h
      exact qc_V (C := RX9) (T := TX9) (N := 13) hF mX9_isIn (by exact (qm_c qw1078 (qm_c qw1080 (qm_c qw27 (qm_c qw60 (qm_c qw1081 qm_0)))))) rfl (by decide +kernel) (by decide) sg_rii_i_recv
    · cases h
      exact qc_V (C := RX9) (T := TX9) (N := 13) hF mX9_takes (by exact (qm_c qw1082 (qm_c qw1084 (qm_c qw28 (qm_c qw60 (qm_c qw1085 qm_0)))))) rfl (by decide +kernel) (by decide) sg_rii_i_recv
    · cases h
  · rintro av μ ⟨o, x1, x2, rfl, ht, hp⟩
    exact Nat.le_of_ble_eq_true rfl
  · rintro av μ ⟨o, x1, x2, rfl, ht, hp⟩
    have h := xX9_loses o x1 x2 μ ht hp
    rw [← sg_rii_i_R (P := PX9_loses)] at h
    exact h
theorem mX9_copies {l : Launch} : qMet l yX9_copies cX9_copies 2 (some .int) 2 44 spX9_copies := by
  refine qMet_of (cal := calX9_copies) (fld := fX9) (cst := kX9) (csl := jX9) (nwo := nX9) false (plainFor_of_name (by decide +kernel)) tabX9 va_AOA_words.1 va_AOA_words.2 (ini := false) (fun h => by cases h) ?_ ?_ ?_
  · intro idx kd q' h p e s m args below meth c D cA B Q hF
    unfold calX9_copies at h
    split at h
    · cases h
      exact qc_V (C := RX9) (T := TX9) (N := 13) hF mX9_joins (by exact (qm_c qw1042 (qm_c qw1044 (qm_c qw24 (qm_c qw60 (qm_c qw1045 qm_0)))))) rfl (by decide +kernel) (by decide) sg_rii_v_recv
    · cases h
      exact qc_V (C := RX9) (T := TX9) (N := 13) hF mX9_isIn (by exact (qm_c qw1078 (qm_c qw1080 (qm_c qw27 (qm_c qw60 (qm_c qw1081 qm_0)))))) rfl (by decide +kernel) (by decide) sg_rii_i_recv
    · cases h
  · rintro av μ ⟨o, x1, rfl, ht, hp⟩
    exact Nat.le_of_ble_eq_true rfl
  · rintro av μ ⟨o, x1, rfl, ht, hp⟩
    have h := xX9_copies o x1 μ ht hp
    rw [← sg_ri_i_R (P := PX9_copies)] at h
    exact h
theorem mX9_returns {l : Launch} : qMet l yX9_returns cX9_returns 2 (some .int) 2 44 spX9_returns := by
  refine qMet_of (cal := calX9_returns) (fld := fX9) (cst := kX9) (csl := jX9) (nwo := nX9) false (plainFor_of_name (by decide +kernel)) tabX9 va_AOA_words.1 va_AOA_words.2 (ini := false) (fun h => by cases h) ?_ ?_ ?_
  · intro idx kd q' h p e s m args below meth c D cA B Q hF
    unfold calX9_returns at h
    split at h
    · cases h
      exact qc_V (C := RX9) (T := TX9) (N := 13) hF mX9_puts (by exact (qm_c qw1038 (qm_c qw1040 (qm_c qw23 (qm_c qw60 (qm_c qw1041 qm_0)))))) rfl (by decide +kernel) (by decide) sg_riii_v_recv
    · cases h
      exact qc_V (C := RX9) (T := TX9) (N := 13) hF mX9_isIn (by exact (qm_c qw1078 (qm_c qw1080 (qm_c qw27 (qm_c qw60 (qm_c qw1081 qm_0)))))) rfl (by decide +kernel) (by decide) sg_rii_i_recv
    · cases h
      exact qc_V (C := RX9) (T := TX9) (N := 13) hF mX9_takes (by exact (qm_c qw1082 (qm_c qw1084 (qm_c qw28 (qm_c qw60 (qm_c qw1085 qm_0)))))) rfl (by decide +kernel) (by decide) sg_rii_i_recv
    · cases h
  · rintro av μ ⟨o, x1, rfl, ht, hp⟩
    exact Nat.le_of_ble_eq_true rfl
  · rintro av μ ⟨o, x1, rfl, ht, hp⟩
    have h := xX9_returns o x1 μ ht hp
    rw [← sg_ri_i_R (P := PX9_returns)] at h
    exact h
theorem mX9_done {l : Launch} : qMet l yX9_done cX9_done 2 (some .int) 2 43 spX9_done := by
  refine qMet_of (cal := calX9_done) (fld := fX9) (cst := kX9) (csl := jX9) (nwo := nX9) false (plainFor_of_name (by decide +kernel)) tabX9 va_AOA_words.1 va_AOA_words.2 (ini := false) (fun h => by cases h) ?_ ?_ ?_
  · intro idx kd q' h p e s m args below meth c D cA B Q hF
    unfold calX9_done at h
    split at h
    · cases h
      exact qc_V (C := RX9) (T := TX9) (N := 13) hF mX9_fails (by exact (qm_c qw954 (qm_c qw956 (qm_c qw11 (qm_c qw60 (qm_c qw957 qm_0)))))) rfl (by decide +kernel) (by decide) sg_ri_i_recv
    · cases h
      exact qc_V (C := RX9) (T := TX9) (N := 13) hF mX9_ends (by exact (qm_c qw966 (qm_c qw968 (qm_c qw13 (qm_c qw60 (qm_c qw969 qm_0)))))) rfl (by decide +kernel) (by decide) sg_ri_i_recv
    · cases h
  · rintro av μ ⟨o, x1, rfl, ht, hp⟩
    exact Nat.le_of_ble_eq_true rfl
  · rintro av μ ⟨o, x1, rfl, ht, hp⟩
    have h := xX9_done o x1 μ ht hp
    rw [← sg_ri_i_R (P := PX9_done)] at h
    exact h
theorem mX9_keptMany {l : Launch} : qMet l yX9_keptMany cX9_keptMany 3 (some .int) 0 0 spX9_keptMany := by
  refine qMet_of (cal := calX9_keptMany) (fld := fX9) (cst := kX9) (csl := jX9) (nwo := nX9) false (plainFor_of_name (by decide +kernel)) tabX9 va_AOA_words.1 va_AOA_words.2 (ini := false) (fun h => by cases h) ?_ ?_ ?_
  · intro idx kd q' h p e s m args below meth c D cA B Q hF
    cases h
  · rintro av μ ⟨o, rfl, ht, hp⟩
    exact Nat.le_of_ble_eq_true rfl
  · rintro av μ ⟨o, rfl, ht, hp⟩
    have h := xX9_keptMany o μ ht hp
    rw [← sg_r_i_R (P := PX9_keptMany)] at h
    exact h
theorem mX9_mix {l : Launch} : qMet l yX9_mix cX9_mix 2 none 0 0 spX9_mix := by
  refine qMet_of (cal := calX9_mix) (fld := fX9) (cst := kX9) (csl := jX9) (nwo := nX9) false (plainFor_of_name (by decide +kernel)) tabX9 va_AOA_words.1 va_AOA_words.2 (ini := false) (fun h => by cases h) ?_ ?_ ?_
  · intro idx kd q' h p e s m args below meth c D cA B Q hF
    cases h
  · rintro av μ ⟨o, x1, rfl, ht, hp⟩
    exact Nat.le_of_ble_eq_true rfl
  · rintro av μ ⟨o, x1, rfl, ht, hp⟩
    have h := xX9_mix o x1 μ ht hp
    rw [← sg_ri_v_R (P := PX9_mix)] at h
    exact h
theorem mX9_mixAll {l : Launch} : qMet l yX9_mixAll cX9_mixAll 4 none 1 21 spX9_mixAll := by
  refine qMet_of (cal := calX9_mixAll) (fld := fX9) (cst := kX9) (csl := jX9) (nwo := nX9) false (plainFor_of_name (by decide +kernel)) tabX9 va_AOA_words.1 va_AOA_words.2 (ini := false) (fun h => by cases h) ?_ ?_ ?_
  · intro idx kd q' h p e s m args below meth c D cA B Q hF
    unfold calX9_mixAll at h
    split at h
    · cases h
      exact qc_V (C := RX9) (T := TX9) (N := 13) hF mX9_mix (by exact (qm_c qw1247 (qm_c qw1249 (qm_c qw48 (qm_c qw60 (qm_c qw1250 qm_0)))))) rfl (by decide +kernel) (by decide) sg_ri_v_recv
    · cases h
  · rintro av μ ⟨o, x1, x2, rfl, ht, hp⟩
    exact Nat.le_of_ble_eq_true rfl
  · rintro av μ ⟨o, x1, x2, rfl, ht, hp⟩
    have h := xX9_mixAll o x1 x2 μ ht hp
    rw [← sg_rii_v_R (P := PX9_mixAll)] at h
    exact h
