/-! ===== contracts, out of the bodies (by program) ===== -/
theorem mX8_inRange {l : Launch} : qMet l yX8_inRange cX8_inRange 3 (some .boolean) 0 0 spX8_inRange := by
  refine qMet_of (cal := calX8_inRange) (fld := fX8) (cst := kX8) (csl := jX8) (nwo := nX8) false (plainFor_of_name (by decide +kernel)) tabX8 va_AOA_words.1 va_AOA_words.2 (ini := false) (fun h => by cases h) ?_ ?_ ?_
  · intro idx kd q' h p e s m args below meth c D cA B Q hF
    cases h
  · rintro av μ ⟨x1, x2, x3, rfl, hp⟩
    exact Nat.le_of_ble_eq_true rfl
  · rintro av μ ⟨x1, x2, x3, rfl, hp⟩
    have h := xX8_inRange x1 x2 x3 μ hp
    rw [← sg_siii_i_R (P := PX8_inRange)] at h
    exact h
theorem mX3_wrapped {l : Launch} : qMet l yX3_wrapped cX3_wrapped 1 (some .int) 0 0 spX3_wrapped := by
  refine qMet_of (cal := calX3_wrapped) (fld := fX3) (cst := kX3) (csl := jX3) (nwo := nX3) false (plainFor_of_name (by decide +kernel)) tabX3 va_AOA_words.1 va_AOA_words.2 (ini := false) (fun h => by cases h) ?_ ?_ ?_
  · intro idx kd q' h p e s m args below meth c D cA B Q hF
    cases h
  · rintro av μ ⟨x1, rfl, hp⟩
    exact Nat.le_of_ble_eq_true rfl
  · rintro av μ ⟨x1, rfl, hp⟩
    have h := xX3_wrapped x1 μ hp
    rw [← sg_si_i_R (P := PX3_wrapped)] at h
    exact h
theorem mX3_difference {l : Launch} : qMet l yX3_difference cX3_difference 2 (some .int) 0 0 spX3_difference := by
  refine qMet_of (cal := calX3_difference) (fld := fX3) (cst := kX3) (csl := jX3) (nwo := nX3) false (plainFor_of_name (by decide +kernel)) tabX3 va_AOA_words.1 va_AOA_words.2 (ini := false) (fun h => by cases h) ?_ ?_ ?_
  · intro idx kd q' h p e s m args below meth c D cA B Q hF
    cases h
  · rintro av μ ⟨x1, x2, rfl, hp⟩
    exact Nat.le_of_ble_eq_true rfl
  · rintro av μ ⟨x1, x2, rfl, hp⟩
    have h := xX3_difference x1 x2 μ hp
    rw [← sg_sii_i_R (P := PX3_difference)] at h
    exact h
theorem mX3_bytesOf {l : Launch} : qMet l yX3_bytesOf cX3_bytesOf 1 (some .int) 1 22 spX3_bytesOf := by
  refine qMet_of (cal := calX3_bytesOf) (fld := fX3) (cst := kX3) (csl := jX3) (nwo := nX3) false (plainFor_of_name (by decide +kernel)) tabX3 va_AOA_words.1 va_AOA_words.2 (ini := false) (fun h => by cases h) ?_ ?_ ?_
  · intro idx kd q' h p e s m args below meth c D cA B Q hF
    unfold calX3_bytesOf at h
    split at h
    · cases h
      exact qc_SN hF mX8_inRange (by exact (qm_c qw427 (qm_c qw10 (qm_c qw428 qm_0)))) (by decide +kernel) rfl (by decide +kernel) (by decide)
    · cases h
  · rintro av μ ⟨x1, rfl, hp⟩
    exact Nat.le_of_ble_eq_true rfl
  · rintro av μ ⟨x1, rfl, hp⟩
    have h := xX3_bytesOf x1 μ hp
    rw [← sg_si_i_R (P := PX3_bytesOf)] at h
    exact h
theorem mJ9_floorMod_7cf53 {l : Launch} : qMet l yJ9_floorMod_7cf53 cJ9_floorMod_7cf53 3 (some .int) 0 0 spJ9_floorMod_7cf53 := by
  refine qMet_of (cal := calJ9_floorMod_7cf53) (fld := fun _ => none) (cst := fun _ => none) (csl := fun _ => none) (nwo := fun _ => none) false (by decide +kernel) qTab0 va_AOA_words.1 va_AOA_words.2 (ini := false) (fun h => by cases h) ?_ ?_ ?_
  · intro idx kd q' h p e s m args below meth c D cA B Q hF
    cases h
  · rintro av μ ⟨x1, x2, rfl, hp⟩
    exact Nat.le_of_ble_eq_true rfl
  · rintro av μ ⟨x1, x2, rfl, hp⟩
    have h := xJ9_floorMod_7cf53 x1 x2 μ hp
    rw [← sg_sii_i_R (P := PJ9_floorMod_7cf53)] at h
    exact h
theorem mX3_copyRow {l : Launch} : qMet l yX3_copyRow cX3_copyRow 2 none 1 26 spX3_copyRow := by
  refine qMet_of (cal := calX3_copyRow) (fld := fX3) (cst := kX3) (csl := jX3) (nwo := nX3) false (plainFor_of_name (by decide +kernel)) tabX3 va_AOA_words.1 va_AOA_words.2 (ini := false) (fun h => by cases h) ?_ ?_ ?_
  · intro idx kd q' h p e s m args below meth c D cA B Q hF
    unfold calX3_copyRow at h
    split at h
    · cases h
      exact qc_acp hF (by exact (qm_c qw283 (qm_c qw285 (qm_c qw284 (qm_c qw25 qm_0))))) (by decide)
    · cases h
  · rintro av μ ⟨x1, x2, rfl, hp⟩
    exact Nat.le_of_ble_eq_true rfl
  · rintro av μ ⟨x1, x2, rfl, hp⟩
    have h := xX3_copyRow x1 x2 μ hp
    rw [← sg_saa_v_R (P := PX3_copyRow)] at h
    exact h
theorem mX3_putBase {l : Launch} : qMet l yX3_putBase cX3_putBase 4 none 1 26 spX3_putBase := by
  refine qMet_of (cal := calX3_putBase) (fld := fX3) (cst := kX3) (csl := jX3) (nwo := nX3) false (plainFor_of_name (by decide +kernel)) tabX3 va_AOA_words.1 va_AOA_words.2 (ini := false) (fun h => by cases h) ?_ ?_ ?_
  · intro idx kd q' h p e s m args below meth c D cA B Q hF
    unfold calX3_putBase at h
    split at h
    · cases h
      exact qc_acp hF (by exact (qm_c qw283 (qm_c qw285 (qm_c qw284 (qm_c qw25 qm_0))))) (by decide)
    · cases h
      exact qc_S hF mX3_wrapped (by exact (qm_c qw370 (qm_c qw315 (qm_c qw24 (qm_c qw316 qm_0))))) rfl (by decide +kernel) (by decide)
    · cases h
  · rintro av μ ⟨x1, x2, x3, x4, rfl, hp⟩
    exact Nat.le_of_ble_eq_true rfl
  · rintro av μ ⟨x1, x2, x3, x4, rfl, hp⟩
    have h := xX3_putBase x1 x2 x3 x4 μ hp
    rw [← sg_saaii_v_R (P := PX3_putBase)] at h
    exact h
theorem mX3_putCarried {l : Launch} : qMet l yX3_putCarried cX3_putCarried 3 none 1 21 spX3_putCarried := by
  refine qMet_of (cal := calX3_putCarried) (fld := fX3) (cst := kX3) (csl := jX3) (nwo := nX3) false (plainFor_of_name (by decide +kernel)) tabX3 va_AOA_words.1 va_AOA_words.2 (ini := false) (fun h => by cases h) ?_ ?_ ?_
  · intro idx kd q' h p e s m args below meth c D cA B Q hF
    unfold calX3_putCarried at h
    split at h
    · cases h
      exact qc_S hF mX3_difference (by exact (qm_c qw584 (qm_c qw585 (qm_c qw24 (qm_c qw586 qm_0))))) rfl (by decide +kernel) (by decide)
    · cases h
  · rintro av μ ⟨x1, x2, x3, rfl, hp⟩
    exact Nat.le_of_ble_eq_true rfl
  · rintro av μ ⟨x1, x2, x3, rfl, hp⟩
    have h := xX3_putCarried x1 x2 x3 μ hp
    rw [← sg_saaa_v_R (P := PX3_putCarried)] at h
    exact h
theorem mX3_addCarried {l : Launch} : qMet l yX3_addCarried cX3_addCarried 2 none 1 20 spX3_addCarried := by
  refine qMet_of (cal := calX3_addCarried) (fld := fX3) (cst := kX3) (csl := jX3) (nwo := nX3) false (plainFor_of_name (by decide +kernel)) tabX3 va_AOA_words.1 va_AOA_words.2 (ini := false) (fun h => by cases h) ?_ ?_ ?_
  · intro idx kd q' h p e s m args below meth c D cA B Q hF
    unfold calX3_addCarried at h
    split at h
    · cases h
      exact qc_S hF mX3_wrapped (by exact (qm_c qw370 (qm_c qw315 (qm_c qw24 (qm_c qw316 qm_0))))) rfl (by decide +kernel) (by decide)
    · cases h
  · rintro av μ ⟨x1, x2, rfl, hp⟩
    exact Nat.le_of_ble_eq_true rfl
  · rintro av μ ⟨x1, x2, rfl, hp⟩
    have h := xX3_addCarried x1 x2 μ hp
    rw [← sg_saa_v_R (P := PX3_addCarried)] at h
    exact h
theorem mX3_sameHeader {l : Launch} : qMet l yX3_sameHeader cX3_sameHeader 3 (some .boolean) 0 0 spX3_sameHeader := by
  refine qMet_of (cal := calX3_sameHeader) (fld := fX3) (cst := kX3) (csl := jX3) (nwo := nX3) false (plainFor_of_name (by decide +kernel)) tabX3 va_AOA_words.1 va_AOA_words.2 (ini := false) (fun h => by cases h) ?_ ?_ ?_
  · intro idx kd q' h p e s m args below meth c D cA B Q hF
    cases h
  · rintro av μ ⟨x1, x2, rfl, hp⟩
    exact Nat.le_of_ble_eq_true rfl
  · rintro av μ ⟨x1, x2, rfl, hp⟩
    have h := xX3_sameHeader x1 x2 μ hp
    rw [← sg_saa_i_R (P := PX3_sameHeader)] at h
    exact h
theorem mX3_sizeOf {l : Launch} : qMet l yX3_sizeOf cX3_sizeOf 2 (some .int) 2 42 spX3_sizeOf := by
  refine qMet_of (cal := calX3_sizeOf) (fld := fX3) (cst := kX3) (csl := jX3) (nwo := nX3) false (plainFor_of_name (by decide +kernel)) tabX3 va_AOA_words.1 va_AOA_words.2 (ini := false) (fun h => by cases h) ?_ ?_ ?_
  · intro idx kd q' h p e s m args below meth c D cA B Q hF
    unfold calX3_sizeOf at h
    split at h
    · cases h
      exact qc_S hF mX3_bytesOf (by exact (qm_c qw590 (qm_c qw591 (qm_c qw24 (qm_c qw592 qm_0))))) rfl (by decide +kernel) (by decide)
    · cases h
  · rintro av μ ⟨x1, rfl, hp⟩
    exact Nat.le_of_ble_eq_true rfl
  · rintro av μ ⟨x1, rfl, hp⟩
    have h := xX3_sizeOf x1 μ hp
    rw [← sg_sa_i_R (P := PX3_sizeOf)] at h
    exact h
theorem mX0_copyFrom {l : Launch} : qMet l yX0_copyFrom cX0_copyFrom 2 none 1 26 spX0_copyFrom := by
  refine qMet_of (cal := calX0_copyFrom) (fld := fX0) (cst := kX0) (csl := jX0) (nwo := nX0) false (plainFor_of_name (by decide +kernel)) tabX0 va_AOA_words.1 va_AOA_words.2 (ini := false) (fun h => by cases h) ?_ ?_ ?_
  · intro idx kd q' h p e s m args below meth c D cA B Q hF
    unfold calX0_copyFrom at h
    split at h
    · cases h
      exact qc_acp hF (by exact (qm_c qw302 (qm_c qw285 (qm_c qw284 (qm_c qw25 qm_0))))) (by decide)
    · cases h
  · rintro av μ ⟨o, x1, rfl, ht, hp⟩
    exact Nat.le_of_ble_eq_true rfl
  · rintro av μ ⟨o, x1, rfl, ht, hp⟩
    have h := xX0_copyFrom o x1 μ ht hp
    rw [← sg_ra_v_R (P := PX0_copyFrom)] at h
    exact h
theorem mX0_has {l : Launch} : qMet l yX0_has cX0_has 2 (some .boolean) 1 22 spX0_has := by
  refine qMet_of (cal := calX0_has) (fld := fX0) (cst := kX0) (csl := jX0) (nwo := nX0) false (plainFor_of_name (by decide +kernel)) tabX0 va_AOA_words.1 va_AOA_words.2 (ini := false) (fun h => by cases h) ?_ ?_ ?_
  · intro idx kd q' h p e s m args below meth c D cA B Q hF
    unfold calX0_has at h
    split at h
    · cases h
      exact qc_SN hF mX8_inRange (by exact (qm_c qw427 (qm_c qw10 (qm_c qw428 qm_0)))) (by decide +kernel) rfl (by decide +kernel) (by decide)
    · cases h
  · rintro av μ ⟨o, x1, rfl, ht, hp⟩
    exact Nat.le_of_ble_eq_true rfl
  · rintro av μ ⟨o, x1, rfl, ht, hp⟩
    have h := xX0_has o x1 μ ht hp
    rw [← sg_ri_i_R (P := PX0_has)] at h
    exact h
theorem mX0_isFull {l : Launch} : qMet l yX0_isFull cX0_isFull 1 (some .boolean) 0 0 spX0_isFull := by
  refine qMet_of (cal := calX0_isFull) (fld := fX0) (cst := kX0) (csl := jX0) (nwo := nX0) false (plainFor_of_name (by decide +kernel)) tabX0 va_AOA_words.1 va_AOA_words.2 (ini := false) (fun h => by cases h) ?_ ?_ ?_
  · intro idx kd q' h p e s m args below meth c D cA B Q hF
    cases h
  · rintro av μ ⟨o, rfl, ht, hp⟩
    exact Nat.le_of_ble_eq_true rfl
  · rintro av μ ⟨o, rfl, ht, hp⟩
    have h := xX0_isFull o μ ht hp
    rw [← sg_r_i_R (P := PX0_isFull)] at h
    exact h
theorem mX0_put {l : Launch} : qMet l yX0_put cX0_put 2 none 1 20 spX0_put := by
  refine qMet_of (cal := calX0_put) (fld := fX0) (cst := kX0) (csl := jX0) (nwo := nX0) false (plainFor_of_name (by decide +kernel)) tabX0 va_AOA_words.1 va_AOA_words.2 (ini := false) (fun h => by cases h) ?_ ?_ ?_
  · intro idx kd q' h p e s m args below meth c D cA B Q hF
    unfold calX0_put at h
    split at h
    · cases h
      exact qc_V (C := RX0) (T := TX0) (N := 2) hF mX0_isFull (by exact (qm_c qw389 (qm_c qw390 (qm_c qw391 (qm_c qw13 (qm_c qw392 qm_0)))))) rfl (by decide +kernel) (by decide) sg_r_i_recv
    · cases h
  · rintro av μ ⟨o, x1, rfl, ht, hp⟩
    exact Nat.le_of_ble_eq_true rfl
  · rintro av μ ⟨o, x1, rfl, ht, hp⟩
    have h := xX0_put o x1 μ ht hp
    rw [← sg_ri_v_R (P := PX0_put)] at h
    exact h
theorem mX0_takeOut {l : Launch} : qMet l yX0_takeOut cX0_takeOut 3 (some .int) 1 26 spX0_takeOut := by
  refine qMet_of (cal := calX0_takeOut) (fld := fX0) (cst := kX0) (csl := jX0) (nwo := nX0) false (plainFor_of_name (by decide +kernel)) tabX0 va_AOA_words.1 va_AOA_words.2 (ini := false) (fun h => by cases h) ?_ ?_ ?_
  · intro idx kd q' h p e s m args below meth c D cA B Q hF
    unfold calX0_takeOut at h
    split at h
    · cases h
      exact qc_acp hF (by exact (qm_c qw302 (qm_c qw285 (qm_c qw284 (qm_c qw25 qm_0))))) (by decide)
    · cases h
  · rintro av μ ⟨o, x1, rfl, ht, hp⟩
    exact Nat.le_of_ble_eq_true rfl
  · rintro av μ ⟨o, x1, rfl, ht, hp⟩
    have h := xX0_takeOut o x1 μ ht hp
    rw [← sg_ri_i_R (P := PX0_takeOut)] at h
    exact h
theorem mX7_copyFrom {l : Launch} : qMet l yX7_copyFrom cX7_copyFrom 3 none 2 47 spX7_copyFrom := by
  refine qMet_of (cal := calX7_copyFrom) (fld := fX7) (cst := kX7) (csl := jX7) (nwo := nX7) false (plainFor_of_name (by decide +kernel)) tabX7 va_AOA_words.1 va_AOA_words.2 (ini := false) (fun h => by cases h) ?_ ?_ ?_
  · intro idx kd q' h p e s m args below meth c D cA B Q hF
    unfold calX7_copyFrom at h
    split at h
    · cases h
      exact qc_acp hF (by exact (qm_c qw296 (qm_c qw285 (qm_c qw284 (qm_c qw25 qm_0))))) (by decide)
    · cases h
      exact qc_S hF mX3_copyRow (by exact (qm_c qw297 (qm_c qw281 (qm_c qw24 (qm_c qw282 qm_0))))) rfl (by decide +kernel) (by decide)
    · cases h
  · rintro av μ ⟨o, x1, rfl, ht, hp⟩
    exact Nat.le_of_ble_eq_true rfl
  · rintro av μ ⟨o, x1, rfl, ht, hp⟩
    have h := xX7_copyFrom o x1 μ ht hp
    rw [← sg_ra_v_R (P := PX7_copyFrom)] at h
    exact h
theorem mX7_has {l : Launch} : qMet l yX7_has cX7_has 2 (some .boolean) 0 0 spX7_has := by
  refine qMet_of (cal := calX7_has) (fld := fX7) (cst := kX7) (csl := jX7) (nwo := nX7) false (plainFor_of_name (by decide +kernel)) tabX7 va_AOA_words.1 va_AOA_words.2 (ini := false) (fun h => by cases h) ?_ ?_ ?_
  · intro idx kd q' h p e s m args below meth c D cA B Q hF
    cases h
  · rintro av μ ⟨o, x1, rfl, ht, hp⟩
    exact Nat.le_of_ble_eq_true rfl
  · rintro av μ ⟨o, x1, rfl, ht, hp⟩
    have h := xX7_has o x1 μ ht hp
    rw [← sg_ri_i_R (P := PX7_has)] at h
    exact h
theorem mX7_rowOf {l : Launch} : qMet l yX7_rowOf cX7_rowOf 2 (some (.array .int)) 1 22 spX7_rowOf := by
  refine qMet_of (cal := calX7_rowOf) (fld := fX7) (cst := kX7) (csl := jX7) (nwo := nX7) false (plainFor_of_name (by decide +kernel)) tabX7 va_AOA_words.1 va_AOA_words.2 (ini := false) (fun h => by cases h) ?_ ?_ ?_
  · intro idx kd q' h p e s m args below meth c D cA B Q hF
    unfold calX7_rowOf at h
    split at h
    · cases h
      exact qc_S hF mJ9_floorMod_7cf53 (by exact (qm_c qw366 (qm_c qw351 (qm_c qw26 (qm_c qw352 qm_0))))) rfl (by decide +kernel) (by decide)
    · cases h
  · rintro av μ ⟨o, x1, rfl, ht, hp⟩
    exact Nat.le_of_ble_eq_true rfl
  · rintro av μ ⟨o, x1, rfl, ht, hp⟩
    have h := xX7_rowOf o x1 μ ht hp
    rw [← sg_ri_a_R (P := PX7_rowOf)] at h
    exact h
theorem mX7_keep {l : Launch} : qMet l yX7_keep cX7_keep 4 none 2 47 spX7_keep := by
  refine qMet_of (cal := calX7_keep) (fld := fX7) (cst := kX7) (csl := jX7) (nwo := nX7) false (plainFor_of_name (by decide +kernel)) tabX7 va_AOA_words.1 va_AOA_words.2 (ini := false) (fun h => by cases h) ?_ ?_ ?_
  · intro idx kd q' h p e s m args below meth c D cA B Q hF
    unfold calX7_keep at h
    split at h
    · cases h
      exact qc_S hF mX3_copyRow (by exact (qm_c qw297 (qm_c qw281 (qm_c qw24 (qm_c qw282 qm_0))))) rfl (by decide +kernel) (by decide)
    · cases h
      exact qc_S hF mJ9_floorMod_7cf53 (by exact (qm_c qw366 (qm_c qw351 (qm_c qw26 (qm_c qw352 qm_0))))) rfl (by decide +kernel) (by decide)
    · cases h
  · rintro av μ ⟨o, x1, x2, rfl, ht, hp⟩
    exact Nat.le_of_ble_eq_true rfl
  · rintro av μ ⟨o, x1, x2, rfl, ht, hp⟩
    have h := xX7_keep o x1 x2 μ ht hp
    rw [← sg_ria_v_R (P := PX7_keep)] at h
    exact h
theorem mX7_dropUpTo {l : Launch} : qMet l yX7_dropUpTo cX7_dropUpTo 3 none 0 0 spX7_dropUpTo := by
  refine qMet_of (cal := calX7_dropUpTo) (fld := fX7) (cst := kX7) (csl := jX7) (nwo := nX7) false (plainFor_of_name (by decide +kernel)) tabX7 va_AOA_words.1 va_AOA_words.2 (ini := false) (fun h => by cases h) ?_ ?_ ?_
  · intro idx kd q' h p e s m args below meth c D cA B Q hF
    cases h
  · rintro av μ ⟨o, x1, rfl, ht, hp⟩
    exact Nat.le_of_ble_eq_true rfl
  · rintro av μ ⟨o, x1, rfl, ht, hp⟩
    have h := xX7_dropUpTo o x1 μ ht hp
    rw [← sg_ri_v_R (P := PX7_dropUpTo)] at h
    exact h
theorem mX7_size {l : Launch} : qMet l yX7_size cX7_size 3 (some .int) 0 0 spX7_size := by
  refine qMet_of (cal := calX7_size) (fld := fX7) (cst := kX7) (csl := jX7) (nwo := nX7) false (plainFor_of_name (by decide +kernel)) tabX7 va_AOA_words.1 va_AOA_words.2 (ini := false) (fun h => by cases h) ?_ ?_ ?_
  · intro idx kd q' h p e s m args below meth c D cA B Q hF
    cases h
  · rintro av μ ⟨o, rfl, ht, hp⟩
    exact Nat.le_of_ble_eq_true rfl
  · rintro av μ ⟨o, rfl, ht, hp⟩
    have h := xX7_size o μ ht hp
    rw [← sg_r_i_R (P := PX7_size)] at h
    exact h
theorem mX7_valueOf {l : Launch} : qMet l yX7_valueOf cX7_valueOf 3 (some .int) 2 43 spX7_valueOf := by
  refine qMet_of (cal := calX7_valueOf) (fld := fX7) (cst := kX7) (csl := jX7) (nwo := nX7) false (plainFor_of_name (by decide +kernel)) tabX7 va_AOA_words.1 va_AOA_words.2 (ini := false) (fun h => by cases h) ?_ ?_ ?_
  · intro idx kd q' h p e s m args below meth c D cA B Q hF
    unfold calX7_valueOf at h
    split at h
    · cases h
      exact qc_V (C := RX7) (T := TX7) (N := 2) hF mX7_has (by exact (qm_c qw785 (qm_c qw354 (qm_c qw355 (qm_c qw16 (qm_c qw356 qm_0)))))) rfl (by decide +kernel) (by decide) sg_ri_i_recv
    · cases h
      exact qc_V (C := RX7) (T := TX7) (N := 2) hF mX7_rowOf (by exact (qm_c qw786 (qm_c qw363 (qm_c qw364 (qm_c qw16 (qm_c qw365 qm_0)))))) rfl (by decide +kernel) (by decide) sg_ri_a_recv
    · cases h
  · rintro av μ ⟨o, x1, x2, rfl, ht, hp⟩
    exact Nat.le_of_ble_eq_true rfl
  · rintro av μ ⟨o, x1, x2, rfl, ht, hp⟩
    have h := xX7_valueOf o x1 x2 μ ht hp
    rw [← sg_rii_i_R (P := PX7_valueOf)] at h
    exact h
theorem mX5_copyFrom {l : Launch} : qMet l yX5_copyFrom cX5_copyFrom 2 none 2 47 spX5_copyFrom := by
  refine qMet_of (cal := calX5_copyFrom) (fld := fX5) (cst := kX5) (csl := jX5) (nwo := nX5) false (plainFor_of_name (by decide +kernel)) tabX5 va_AOA_words.1 va_AOA_words.2 (ini := false) (fun h => by cases h) ?_ ?_ ?_
  · intro idx kd q' h p e s m args below meth c D cA B Q hF
    unfold calX5_copyFrom at h
    split at h
    · cases h
      exact qc_S hF mX3_copyRow (by exact (qm_c qw280 (qm_c qw281 (qm_c qw24 (qm_c qw282 qm_0))))) rfl (by decide +kernel) (by decide)
    · cases h
      exact qc_acp hF (by exact (qm_c qw286 (qm_c qw285 (qm_c qw284 (qm_c qw25 qm_0))))) (by decide)
    · cases h
  · rintro av μ ⟨o, x1, rfl, ht, hp⟩
    exact Nat.le_of_ble_eq_true rfl
  · rintro av μ ⟨o, x1, rfl, ht, hp⟩
    have h := xX5_copyFrom o x1 μ ht hp
    rw [← sg_ra_v_R (P := PX5_copyFrom)] at h
    exact h
theorem mX5_step {l : Launch} : qMet l yX5_step cX5_step 1 none 1 20 spX5_step := by
  refine qMet_of (cal := calX5_step) (fld := fX5) (cst := kX5) (csl := jX5) (nwo := nX5) false (plainFor_of_name (by decide +kernel)) tabX5 va_AOA_words.1 va_AOA_words.2 (ini := false) (fun h => by cases h) ?_ ?_ ?_
  · intro idx kd q' h p e s m args below meth c D cA B Q hF
    unfold calX5_step at h
    split at h
    · cases h
      exact qc_S hF mX3_wrapped (by exact (qm_c qw314 (qm_c qw315 (qm_c qw24 (qm_c qw316 qm_0))))) rfl (by decide +kernel) (by decide)
    · cases h
  · rintro av μ ⟨o, rfl, ht, hp⟩
    exact Nat.le_of_ble_eq_true rfl
  · rintro av μ ⟨o, rfl, ht, hp⟩
    have h := xX5_step o μ ht hp
    rw [← sg_r_v_R (P := PX5_step)] at h
    exact h
theorem mX5_trustedReference {l : Launch} : qMet l yX5_trustedReference cX5_trustedReference 5 (some .int) 1 21 spX5_trustedReference := by
  refine qMet_of (cal := calX5_trustedReference) (fld := fX5) (cst := kX5) (csl := jX5) (nwo := nX5) false (plainFor_of_name (by decide +kernel)) tabX5 va_AOA_words.1 va_AOA_words.2 (ini := false) (fun h => by cases h) ?_ ?_ ?_
  · intro idx kd q' h p e s m args below meth c D cA B Q hF
    unfold calX5_trustedReference at h
    split at h
    · cases h
      exact qc_max hF (by exact (qm_c qw326 (qm_c qw327 (qm_c qw26 (qm_c qw328 qm_0))))) (by decide)
    · cases h
  · rintro av μ ⟨o, x1, rfl, ht, hp⟩
    exact Nat.le_of_ble_eq_true rfl
  · rintro av μ ⟨o, x1, rfl, ht, hp⟩
    have h := xX5_trustedReference o x1 μ ht hp
    rw [← sg_ri_i_R (P := PX5_trustedReference)] at h
    exact h
theorem mX5_usedReference {l : Launch} : qMet l yX5_usedReference cX5_usedReference 3 (some .int) 2 45 spX5_usedReference := by
  refine qMet_of (cal := calX5_usedReference) (fld := fX5) (cst := kX5) (csl := jX5) (nwo := nX5) false (plainFor_of_name (by decide +kernel)) tabX5 va_AOA_words.1 va_AOA_words.2 (ini := false) (fun h => by cases h) ?_ ?_ ?_
  · intro idx kd q' h p e s m args below meth c D cA B Q hF
    unfold calX5_usedReference at h
    split at h
    · cases h
      exact qc_V (C := RX5) (T := TX5) (N := 11) hF mX5_trustedReference (by exact (qm_c qw575 (qm_c qw323 (qm_c qw324 (qm_c qw14 (qm_c qw325 qm_0)))))) rfl (by decide +kernel) (by decide) sg_ri_i_recv
    · cases h
  · rintro av μ ⟨o, x1, x2, rfl, ht, hp⟩
    exact Nat.le_of_ble_eq_true rfl
  · rintro av μ ⟨o, x1, x2, rfl, ht, hp⟩
    have h := xX5_usedReference o x1 x2 μ ht hp
    rw [← sg_rii_i_R (P := PX5_usedReference)] at h
    exact h
theorem mX5_sizeFrom {l : Launch} : qMet l yX5_sizeFrom cX5_sizeFrom 3 (some .int) 3 63 spX5_sizeFrom := by
  refine qMet_of (cal := calX5_sizeFrom) (fld := fX5) (cst := kX5) (csl := jX5) (nwo := nX5) false (plainFor_of_name (by decide +kernel)) tabX5 va_AOA_words.1 va_AOA_words.2 (ini := false) (fun h => by cases h) ?_ ?_ ?_
  · intro idx kd q' h p e s m args below meth c D cA B Q hF
    unfold calX5_sizeFrom at h
    split at h
    · cases h
      exact qc_S hF mX3_putBase (by exact (qm_c qw580 (qm_c qw368 (qm_c qw24 (qm_c qw369 qm_0))))) rfl (by decide +kernel) (by decide)
    · cases h
      exact qc_S hF mX3_putCarried (by exact (qm_c qw581 (qm_c qw582 (qm_c qw24 (qm_c qw583 qm_0))))) rfl (by decide +kernel) (by decide)
    · cases h
      exact qc_S hF mX3_sizeOf (by exact (qm_c qw587 (qm_c qw588 (qm_c qw24 (qm_c qw589 qm_0))))) rfl (by decide +kernel) (by decide)
    · cases h
  · rintro av μ ⟨o, x1, x2, rfl, ht, hp⟩
    exact Nat.le_of_ble_eq_true rfl
  · rintro av μ ⟨o, x1, x2, rfl, ht, hp⟩
    have h := xX5_sizeFrom o x1 x2 μ ht hp
    rw [← sg_rii_i_R (P := PX5_sizeFrom)] at h
    exact h
theorem mX5_hear {l : Launch} : qMet l yX5_hear cX5_hear 2 none 1 22 spX5_hear := by
  refine qMet_of (cal := calX5_hear) (fld := fX5) (cst := kX5) (csl := jX5) (nwo := nX5) false (plainFor_of_name (by decide +kernel)) tabX5 va_AOA_words.1 va_AOA_words.2 (ini := false) (fun h => by cases h) ?_ ?_ ?_
  · intro idx kd q' h p e s m args below meth c D cA B Q hF
    unfold calX5_hear at h
    split at h
    · cases h
      exact qc_SN hF mX8_inRange (by exact (qm_c qw427 (qm_c qw10 (qm_c qw428 qm_0)))) (by decide +kernel) rfl (by decide +kernel) (by decide)
    · cases h
  · rintro av μ ⟨o, x1, rfl, ht, hp⟩
    exact Nat.le_of_ble_eq_true rfl
  · rintro av μ ⟨o, x1, rfl, ht, hp⟩
    have h := xX5_hear o x1 μ ht hp
    rw [← sg_ri_v_R (P := PX5_hear)] at h
    exact h
theorem mX5_savedBytes {l : Launch} : qMet l yX5_savedBytes cX5_savedBytes 1 (some .int) 0 0 spX5_savedBytes := by
  refine qMet_of (cal := calX5_savedBytes) (fld := fX5) (cst := kX5) (csl := jX5) (nwo := nX5) false (plainFor_of_name (by decide +kernel)) tabX5 va_AOA_words.1 va_AOA_words.2 (ini := false) (fun h => by cases h) ?_ ?_ ?_
  · intro idx kd q' h p e s m args below meth c D cA B Q hF
    cases h
  · rintro av μ ⟨o, rfl, ht, hp⟩
    exact Nat.le_of_ble_eq_true rfl
  · rintro av μ ⟨o, rfl, ht, hp⟩
    have h := xX5_savedBytes o μ ht hp
    rw [← sg_r_i_R (P := PX5_savedBytes)] at h
    exact h
theorem mX5_sentValue {l : Launch} : qMet l yX5_sentValue cX5_sentValue 3 (some .int) 0 0 spX5_sentValue := by
  refine qMet_of (cal := calX5_sentValue) (fld := fX5) (cst := kX5) (csl := jX5) (nwo := nX5) false (plainFor_of_name (by decide +kernel)) tabX5 va_AOA_words.1 va_AOA_words.2 (ini := false) (fun h => by cases h) ?_ ?_ ?_
  · intro idx kd q' h p e s m args below meth c D cA B Q hF
    cases h
  · rintro av μ ⟨o, x1, x2, rfl, ht, hp⟩
    exact Nat.le_of_ble_eq_true rfl
  · rintro av μ ⟨o, x1, x2, rfl, ht, hp⟩
    have h := xX5_sentValue o x1 x2 μ ht hp
    rw [← sg_rii_i_R (P := PX5_sentValue)] at h
    exact h
theorem mX5_sendPresent {l : Launch} : qMet l yX5_sendPresent cX5_sendPresent 4 (some .int) 4 85 spX5_sendPresent := by
  refine qMet_of (cal := calX5_sendPresent) (fld := fX5) (cst := kX5) (csl := jX5) (nwo := nX5) false (plainFor_of_name (by decide +kernel)) tabX5 va_AOA_words.1 va_AOA_words.2 (ini := false) (fun h => by cases h) ?_ ?_ ?_
  · intro idx kd q' h p e s m args below meth c D cA B Q hF
    unfold calX5_sendPresent at h
    split at h
    · cases h
      exact qc_S hF mX3_copyRow (by exact (qm_c qw280 (qm_c qw281 (qm_c qw24 (qm_c qw282 qm_0))))) rfl (by decide +kernel) (by decide)
    · cases h
      exact qc_acp hF (by exact (qm_c qw286 (qm_c qw285 (qm_c qw284 (qm_c qw25 qm_0))))) (by decide)
    · cases h
      exact qc_V (C := RX5) (T := TX5) (N := 11) hF mX5_usedReference (by exact (qm_c qw571 (qm_c qw572 (qm_c qw573 (qm_c qw14 (qm_c qw574 qm_0)))))) rfl (by decide +kernel) (by decide) sg_rii_i_recv
    · cases h
      exact qc_V (C := RX5) (T := TX5) (N := 11) hF mX5_sizeFrom (by exact (qm_c qw576 (qm_c qw577 (qm_c qw578 (qm_c qw14 (qm_c qw579 qm_0)))))) rfl (by decide +kernel) (by decide) sg_rii_i_recv
    · cases h
  · rintro av μ ⟨o, rfl, ht, hp⟩
    exact Nat.le_of_ble_eq_true rfl
  · rintro av μ ⟨o, rfl, ht, hp⟩
    have h := xX5_sendPresent o μ ht hp
    rw [← sg_r_i_R (P := PX5_sendPresent)] at h
    exact h
theorem mX2_copyFrom {l : Launch} : qMet l yX2_copyFrom cX2_copyFrom 2 none 3 69 spX2_copyFrom := by
  refine qMet_of (cal := calX2_copyFrom) (fld := fX2) (cst := kX2) (csl := jX2) (nwo := nX2) false (plainFor_of_name (by decide +kernel)) tabX2 va_AOA_words.1 va_AOA_words.2 (ini := false) (fun h => by cases h) ?_ ?_ ?_
  · intro idx kd q' h p e s m args below meth c D cA B Q hF
    unfold calX2_copyFrom at h
    split at h
    · cases h
      exact qc_acp hF (by exact (qm_c qw291 (qm_c qw285 (qm_c qw284 (qm_c qw25 qm_0))))) (by decide)
    · cases h
      exact qc_V (C := RX7) (T := TX7) (N := 2) hF mX7_copyFrom (by exact (qm_c qw292 (qm_c qw293 (qm_c qw294 (qm_c qw16 (qm_c qw295 qm_0)))))) rfl (by decide +kernel) (by decide) sg_ra_v_recv
    · cases h
  · rintro av μ ⟨o, x1, rfl, ht, hp⟩
    exact Nat.le_of_ble_eq_true rfl
  · rintro av μ ⟨o, x1, rfl, ht, hp⟩
    have h := xX2_copyFrom o x1 μ ht hp
    rw [← sg_ra_v_R (P := PX2_copyFrom)] at h
    exact h
theorem mX2_numberOf {l : Launch} : qMet l yX2_numberOf cX2_numberOf 3 (some .int) 1 22 spX2_numberOf := by
  refine qMet_of (cal := calX2_numberOf) (fld := fX2) (cst := kX2) (csl := jX2) (nwo := nX2) false (plainFor_of_name (by decide +kernel)) tabX2 va_AOA_words.1 va_AOA_words.2 (ini := false) (fun h => by cases h) ?_ ?_ ?_
  · intro idx kd q' h p e s m args below meth c D cA B Q hF
    unfold calX2_numberOf at h
    split at h
    · cases h
      exact qc_S hF mJ9_floorMod_7cf53 (by exact (qm_c qw350 (qm_c qw351 (qm_c qw26 (qm_c qw352 qm_0))))) rfl (by decide +kernel) (by decide)
    · cases h
  · rintro av μ ⟨o, x1, rfl, ht, hp⟩
    exact Nat.le_of_ble_eq_true rfl
  · rintro av μ ⟨o, x1, rfl, ht, hp⟩
    have h := xX2_numberOf o x1 μ ht hp
    rw [← sg_ri_i_R (P := PX2_numberOf)] at h
    exact h
theorem mX2_decodedPackets {l : Launch} : qMet l yX2_decodedPackets cX2_decodedPackets 1 (some .int) 0 0 spX2_decodedPackets := by
  refine qMet_of (cal := calX2_decodedPackets) (fld := fX2) (cst := kX2) (csl := jX2) (nwo := nX2) false (plainFor_of_name (by decide +kernel)) tabX2 va_AOA_words.1 va_AOA_words.2 (ini := false) (fun h => by cases h) ?_ ?_ ?_
  · intro idx kd q' h p e s m args below meth c D cA B Q hF
    cases h
  · rintro av μ ⟨o, rfl, ht, hp⟩
    exact Nat.le_of_ble_eq_true rfl
  · rintro av μ ⟨o, rfl, ht, hp⟩
    have h := xX2_decodedPackets o μ ht hp
    rw [← sg_r_i_R (P := PX2_decodedPackets)] at h
    exact h
theorem mX2_isRight {l : Launch} : qMet l yX2_isRight cX2_isRight 3 (some .boolean) 1 22 spX2_isRight := by
  refine qMet_of (cal := calX2_isRight) (fld := fX2) (cst := kX2) (csl := jX2) (nwo := nX2) false (plainFor_of_name (by decide +kernel)) tabX2 va_AOA_words.1 va_AOA_words.2 (ini := false) (fun h => by cases h) ?_ ?_ ?_
  · intro idx kd q' h p e s m args below meth c D cA B Q hF
    unfold calX2_isRight at h
    split at h
    · cases h
      exact qc_S hF mX3_sameHeader (by exact (qm_c qw378 (qm_c qw379 (qm_c qw24 (qm_c qw380 qm_0))))) rfl (by decide +kernel) (by decide)
    · cases h
  · rintro av μ ⟨o, x1, x2, rfl, ht, hp⟩
    exact Nat.le_of_ble_eq_true rfl
  · rintro av μ ⟨o, x1, x2, rfl, ht, hp⟩
    have h := xX2_isRight o x1 x2 μ ht hp
    rw [← sg_rii_i_R (P := PX2_isRight)] at h
    exact h
theorem mX2_decode {l : Launch} : qMet l yX2_decode cX2_decode 5 (some .boolean) 2 49 spX2_decode := by
  refine qMet_of (cal := calX2_decode) (fld := fX2) (cst := kX2) (csl := jX2) (nwo := nX2) false (plainFor_of_name (by decide +kernel)) tabX2 va_AOA_words.1 va_AOA_words.2 (ini := false) (fun h => by cases h) ?_ ?_ ?_
  · intro idx kd q' h p e s m args below meth c D cA B Q hF
    unfold calX2_decode at h
    split at h
    · cases h
      exact qc_V (C := RX7) (T := TX7) (N := 2) hF mX7_has (by exact (qm_c qw353 (qm_c qw354 (qm_c qw355 (qm_c qw16 (qm_c qw356 qm_0)))))) rfl (by decide +kernel) (by decide) sg_ri_i_recv
    · cases h
      exact qc_S hF mX3_copyRow (by exact (qm_c qw361 (qm_c qw281 (qm_c qw24 (qm_c qw282 qm_0))))) rfl (by decide +kernel) (by decide)
    · cases h
      exact qc_V (C := RX7) (T := TX7) (N := 2) hF mX7_rowOf (by exact (qm_c qw362 (qm_c qw363 (qm_c qw364 (qm_c qw16 (qm_c qw365 qm_0)))))) rfl (by decide +kernel) (by decide) sg_ri_a_recv
    · cases h
      exact qc_S hF mX3_putBase (by exact (qm_c qw367 (qm_c qw368 (qm_c qw24 (qm_c qw369 qm_0))))) rfl (by decide +kernel) (by decide)
    · cases h
      exact qc_S hF mX3_addCarried (by exact (qm_c qw371 (qm_c qw372 (qm_c qw24 (qm_c qw373 qm_0))))) rfl (by decide +kernel) (by decide)
    · cases h
  · rintro av μ ⟨o, x1, x2, rfl, ht, hp⟩
    exact Nat.le_of_ble_eq_true rfl
  · rintro av μ ⟨o, x1, x2, rfl, ht, hp⟩
    have h := xX2_decode o x1 x2 μ ht hp
    rw [← sg_rii_i_R (P := PX2_decode)] at h
    exact h
theorem mX2_missReference {l : Launch} : qMet l yX2_missReference cX2_missReference 2 none 2 41 spX2_missReference := by
  refine qMet_of (cal := calX2_missReference) (fld := fX2) (cst := kX2) (csl := jX2) (nwo := nX2) false (plainFor_of_name (by decide +kernel)) tabX2 va_AOA_words.1 va_AOA_words.2 (ini := false) (fun h => by cases h) ?_ ?_ ?_
  · intro idx kd q' h p e s m args below meth c D cA B Q hF
    unfold calX2_missReference at h
    split at h
    · cases h
      exact qc_V (C := RX0) (T := TX0) (N := 2) hF mX0_put (by exact (qm_c qw385 (qm_c qw386 (qm_c qw387 (qm_c qw13 (qm_c qw388 qm_0)))))) rfl (by decide +kernel) (by decide) sg_ri_v_recv
    · cases h
  · rintro av μ ⟨o, x1, rfl, ht, hp⟩
    exact Nat.le_of_ble_eq_true rfl
  · rintro av μ ⟨o, x1, rfl, ht, hp⟩
    have h := xX2_missReference o x1 μ ht hp
    rw [← sg_ra_v_R (P := PX2_missReference)] at h
    exact h
theorem mX2_keepDecoded {l : Launch} : qMet l yX2_keepDecoded cX2_keepDecoded 3 none 3 70 spX2_keepDecoded := by
  refine qMet_of (cal := calX2_keepDecoded) (fld := fX2) (cst := kX2) (csl := jX2) (nwo := nX2) false (plainFor_of_name (by decide +kernel)) tabX2 va_AOA_words.1 va_AOA_words.2 (ini := false) (fun h => by cases h) ?_ ?_ ?_
  · intro idx kd q' h p e s m args below meth c D cA B Q hF
    unfold calX2_keepDecoded at h
    split at h
    · cases h
      exact qc_V (C := RX7) (T := TX7) (N := 2) hF mX7_dropUpTo (by exact (qm_c qw397 (qm_c qw398 (qm_c qw399 (qm_c qw16 (qm_c qw400 qm_0)))))) rfl (by decide +kernel) (by decide) sg_ri_v_recv
    · cases h
      exact qc_V (C := RX7) (T := TX7) (N := 2) hF mX7_keep (by exact (qm_c qw401 (qm_c qw402 (qm_c qw403 (qm_c qw16 (qm_c qw404 qm_0)))))) rfl (by decide +kernel) (by decide) sg_ria_v_recv
    · cases h
      exact qc_V (C := RX2) (T := TX2) (N := 11) hF mX2_decodedPackets (by exact (qm_c qw405 (qm_c qw406 (qm_c qw407 (qm_c qw15 (qm_c qw408 qm_0)))))) rfl (by decide +kernel) (by decide) sg_r_i_recv
    · cases h
      exact qc_V (C := RX0) (T := TX0) (N := 2) hF mX0_put (by exact (qm_c qw385 (qm_c qw386 (qm_c qw387 (qm_c qw13 (qm_c qw388 qm_0)))))) rfl (by decide +kernel) (by decide) sg_ri_v_recv
    · cases h
  · rintro av μ ⟨o, x1, x2, rfl, ht, hp⟩
    exact Nat.le_of_ble_eq_true rfl
  · rintro av μ ⟨o, x1, x2, rfl, ht, hp⟩
    have h := xX2_keepDecoded o x1 x2 μ ht hp
    rw [← sg_ria_v_R (P := PX2_keepDecoded)] at h
    exact h
theorem mX2_receive {l : Launch} : qMet l yX2_receive cX2_receive 5 (some .int) 4 92 spX2_receive := by
  refine qMet_of (cal := calX2_receive) (fld := fX2) (cst := kX2) (csl := jX2) (nwo := nX2) false (plainFor_of_name (by decide +kernel)) tabX2 va_AOA_words.1 va_AOA_words.2 (ini := false) (fun h => by cases h) ?_ ?_ ?_
  · intro idx kd q' h p e s m args below meth c D cA B Q hF
    unfold calX2_receive at h
    split at h
    · cases h
      exact qc_max hF (by exact (qm_c qw345 (qm_c qw327 (qm_c qw26 (qm_c qw328 qm_0))))) (by decide)
    · cases h
      exact qc_V (C := RX2) (T := TX2) (N := 11) hF mX2_numberOf (by exact (qm_c qw346 (qm_c qw347 (qm_c qw348 (qm_c qw15 (qm_c qw349 qm_0)))))) rfl (by decide +kernel) (by decide) sg_ri_i_recv
    · cases h
      exact qc_V (C := RX7) (T := TX7) (N := 2) hF mX7_has (by exact (qm_c qw353 (qm_c qw354 (qm_c qw355 (qm_c qw16 (qm_c qw356 qm_0)))))) rfl (by decide +kernel) (by decide) sg_ri_i_recv
    · cases h
      exact qc_V (C := RX2) (T := TX2) (N := 11) hF mX2_decode (by exact (qm_c qw357 (qm_c qw359 (qm_c qw3 (qm_c qw15 (qm_c qw360 qm_0)))))) rfl (by decide +kernel) (by decide) sg_rii_i_recv
    · cases h
      exact qc_V (C := RX2) (T := TX2) (N := 11) hF mX2_isRight (by exact (qm_c qw374 (qm_c qw376 (qm_c qw4 (qm_c qw15 (qm_c qw377 qm_0)))))) rfl (by decide +kernel) (by decide) sg_rii_i_recv
    · cases h
      exact qc_V (C := RX2) (T := TX2) (N := 11) hF mX2_missReference (by exact (qm_c qw381 (qm_c qw383 (qm_c qw5 (qm_c qw15 (qm_c qw384 qm_0)))))) rfl (by decide +kernel) (by decide) sg_ra_v_recv
    · cases h
      exact qc_V (C := RX2) (T := TX2) (N := 11) hF mX2_keepDecoded (by exact (qm_c qw393 (qm_c qw395 (qm_c qw6 (qm_c qw15 (qm_c qw396 qm_0)))))) rfl (by decide +kernel) (by decide) sg_ria_v_recv
    · cases h
  · rintro av μ ⟨o, x1, x2, rfl, ht, hp⟩
    exact Nat.le_of_ble_eq_true rfl
  · rintro av μ ⟨o, x1, x2, rfl, ht, hp⟩
    have h := xX2_receive o x1 x2 μ ht hp
    rw [← sg_ria_i_R (P := PX2_receive)] at h
    exact h
theorem mX6_copyFrom {l : Launch} : qMet l yX6_copyFrom cX6_copyFrom 2 none 4 90 spX6_copyFrom := by
  refine qMet_of (cal := calX6_copyFrom) (fld := fX6) (cst := kX6) (csl := jX6) (nwo := nX6) false (plainFor_of_name (by decide +kernel)) tabX6 va_AOA_words.1 va_AOA_words.2 (ini := false) (fun h => by cases h) ?_ ?_ ?_
  · intro idx kd q' h p e s m args below meth c D cA B Q hF
    unfold calX6_copyFrom at h
    split at h
    · cases h
      exact qc_V (C := RX5) (T := TX5) (N := 11) hF mX5_copyFrom (by exact (qm_c qw276 (qm_c qw277 (qm_c qw278 (qm_c qw14 (qm_c qw279 qm_0)))))) rfl (by decide +kernel) (by decide) sg_ra_v_recv
    · cases h
      exact qc_V (C := RX2) (T := TX2) (N := 11) hF mX2_copyFrom (by exact (qm_c qw287 (qm_c qw288 (qm_c qw289 (qm_c qw15 (qm_c qw290 qm_0)))))) rfl (by decide +kernel) (by decide) sg_ra_v_recv
    · cases h
      exact qc_V (C := RX0) (T := TX0) (N := 2) hF mX0_copyFrom (by exact (qm_c qw298 (qm_c qw299 (qm_c qw300 (qm_c qw13 (qm_c qw301 qm_0)))))) rfl (by decide +kernel) (by decide) sg_ra_v_recv
    · cases h
  · rintro av μ ⟨o, x1, rfl, ht, hp⟩
    exact Nat.le_of_ble_eq_true rfl
  · rintro av μ ⟨o, x1, rfl, ht, hp⟩
    have h := xX6_copyFrom o x1 μ ht hp
    rw [← sg_ra_v_R (P := PX6_copyFrom)] at h
    exact h
theorem mX6_hasRoomFor {l : Launch} : qMet l yX6_hasRoomFor cX6_hasRoomFor 2 (some .boolean) 0 0 spX6_hasRoomFor := by
  refine qMet_of (cal := calX6_hasRoomFor) (fld := fX6) (cst := kX6) (csl := jX6) (nwo := nX6) false (plainFor_of_name (by decide +kernel)) tabX6 va_AOA_words.1 va_AOA_words.2 (ini := false) (fun h => by cases h) ?_ ?_ ?_
  · intro idx kd q' h p e s m args below meth c D cA B Q hF
    cases h
  · rintro av μ ⟨o, x1, rfl, ht, hp⟩
    exact Nat.le_of_ble_eq_true rfl
  · rintro av μ ⟨o, x1, rfl, ht, hp⟩
    have h := xX6_hasRoomFor o x1 μ ht hp
    rw [← sg_ri_i_R (P := PX6_hasRoomFor)] at h
    exact h
theorem mX6_sendNext {l : Launch} : qMet l yX6_sendNext cX6_sendNext 2 (some .int) 5 108 spX6_sendNext := by
  refine qMet_of (cal := calX6_sendNext) (fld := fX6) (cst := kX6) (csl := jX6) (nwo := nX6) false (plainFor_of_name (by decide +kernel)) tabX6 va_AOA_words.1 va_AOA_words.2 (ini := false) (fun h => by cases h) ?_ ?_ ?_
  · intro idx kd q' h p e s m args below meth c D cA B Q hF
    unfold calX6_sendNext at h
    split at h
    · cases h
      exact qc_V (C := RX5) (T := TX5) (N := 11) hF mX5_sendPresent (by exact (qm_c qw567 (qm_c qw568 (qm_c qw569 (qm_c qw14 (qm_c qw570 qm_0)))))) rfl (by decide +kernel) (by decide) sg_r_i_recv
    · cases h
      exact qc_V (C := RX0) (T := TX0) (N := 2) hF mX0_put (by exact (qm_c qw594 (qm_c qw386 (qm_c qw387 (qm_c qw13 (qm_c qw388 qm_0)))))) rfl (by decide +kernel) (by decide) sg_ri_v_recv
    · cases h
  · rintro av μ ⟨o, rfl, ht, hp⟩
    exact Nat.le_of_ble_eq_true rfl
  · rintro av μ ⟨o, rfl, ht, hp⟩
    have h := xX6_sendNext o μ ht hp
    rw [← sg_r_i_R (P := PX6_sendNext)] at h
    exact h
theorem mX6_deliverPacket {l : Launch} : qMet l yX6_deliverPacket cX6_deliverPacket 2 (some .int) 5 116 spX6_deliverPacket := by
  refine qMet_of (cal := calX6_deliverPacket) (fld := fX6) (cst := kX6) (csl := jX6) (nwo := nX6) false (plainFor_of_name (by decide +kernel)) tabX6 va_AOA_words.1 va_AOA_words.2 (ini := false) (fun h => by cases h) ?_ ?_ ?_
  · intro idx kd q' h p e s m args below meth c D cA B Q hF
    unfold calX6_deliverPacket at h
    split at h
    · cases h
      exact qc_V (C := RX0) (T := TX0) (N := 2) hF mX0_takeOut (by exact (qm_c qw337 (qm_c qw338 (qm_c qw339 (qm_c qw13 (qm_c qw340 qm_0)))))) rfl (by decide +kernel) (by decide) sg_ri_i_recv
    · cases h
      exact qc_V (C := RX2) (T := TX2) (N := 11) hF mX2_receive (by exact (qm_c qw341 (qm_c qw342 (qm_c qw343 (qm_c qw15 (qm_c qw344 qm_0)))))) rfl (by decide +kernel) (by decide) sg_ria_i_recv
    · cases h
  · rintro av μ ⟨o, x1, rfl, ht, hp⟩
    exact Nat.le_of_ble_eq_true rfl
  · rintro av μ ⟨o, x1, rfl, ht, hp⟩
    have h := xX6_deliverPacket o x1 μ ht hp
    rw [← sg_ri_i_R (P := PX6_deliverPacket)] at h
    exact h
theorem mX6_deliverMessage {l : Launch} : qMet l yX6_deliverMessage cX6_deliverMessage 3 (some .int) 2 48 spX6_deliverMessage := by
  refine qMet_of (cal := calX6_deliverMessage) (fld := fX6) (cst := kX6) (csl := jX6) (nwo := nX6) false (plainFor_of_name (by decide +kernel)) tabX6 va_AOA_words.1 va_AOA_words.2 (ini := false) (fun h => by cases h) ?_ ?_ ?_
  · intro idx kd q' h p e s m args below meth c D cA B Q hF
    unfold calX6_deliverMessage at h
    split at h
    · cases h
      exact qc_V (C := RX0) (T := TX0) (N := 2) hF mX0_takeOut (by exact (qm_c qw337 (qm_c qw338 (qm_c qw339 (qm_c qw13 (qm_c qw340 qm_0)))))) rfl (by decide +kernel) (by decide) sg_ri_i_recv
    · cases h
      exact qc_V (C := RX5) (T := TX5) (N := 11) hF mX5_hear (by exact (qm_c qw657 (qm_c qw658 (qm_c qw659 (qm_c qw14 (qm_c qw660 qm_0)))))) rfl (by decide +kernel) (by decide) sg_ri_v_recv
    · cases h
  · rintro av μ ⟨o, x1, rfl, ht, hp⟩
    exact Nat.le_of_ble_eq_true rfl
  · rintro av μ ⟨o, x1, rfl, ht, hp⟩
    have h := xX6_deliverMessage o x1 μ ht hp
    rw [← sg_ri_i_R (P := PX6_deliverMessage)] at h
    exact h
theorem mX6_countOf {l : Launch} : qMet l yX6_countOf cX6_countOf 2 (some .int) 1 20 spX6_countOf := by
  refine qMet_of (cal := calX6_countOf) (fld := fX6) (cst := kX6) (csl := jX6) (nwo := nX6) false (plainFor_of_name (by decide +kernel)) tabX6 va_AOA_words.1 va_AOA_words.2 (ini := false) (fun h => by cases h) ?_ ?_ ?_
  · intro idx kd q' h p e s m args below meth c D cA B Q hF
    unfold calX6_countOf at h
    split at h
    · cases h
      exact qc_V (C := RX2) (T := TX2) (N := 11) hF mX2_decodedPackets (by exact (qm_c qw760 (qm_c qw406 (qm_c qw407 (qm_c qw15 (qm_c qw408 qm_0)))))) rfl (by decide +kernel) (by decide) sg_r_i_recv
    · cases h
  · rintro av μ ⟨o, x1, rfl, ht, hp⟩
    exact Nat.le_of_ble_eq_true rfl
  · rintro av μ ⟨o, x1, rfl, ht, hp⟩
    have h := xX6_countOf o x1 μ ht hp
    rw [← sg_ri_i_R (P := PX6_countOf)] at h
    exact h
theorem mX8_nextPlace {l : Launch} : qMet l yX8_nextPlace cX8_nextPlace 1 (some .int) 0 0 spX8_nextPlace := by
  refine qMet_of (cal := calX8_nextPlace) (fld := fX8) (cst := kX8) (csl := jX8) (nwo := nX8) false (plainFor_of_name (by decide +kernel)) tabX8 va_AOA_words.1 va_AOA_words.2 (ini := false) (fun h => by cases h) ?_ ?_ ?_
  · intro idx kd q' h p e s m args below meth c D cA B Q hF
    cases h
  · rintro av μ ⟨o, rfl, ht, hp⟩
    exact Nat.le_of_ble_eq_true rfl
  · rintro av μ ⟨o, rfl, ht, hp⟩
    have h := xX8_nextPlace o μ ht hp
    rw [← sg_r_i_R (P := PX8_nextPlace)] at h
    exact h
theorem mX8_keepNextPlace {l : Launch} : qMet l yX8_keepNextPlace cX8_keepNextPlace 1 none 1 21 spX8_keepNextPlace := by
  refine qMet_of (cal := calX8_keepNextPlace) (fld := fX8) (cst := kX8) (csl := jX8) (nwo := nX8) false (plainFor_of_name (by decide +kernel)) tabX8 va_AOA_words.1 va_AOA_words.2 (ini := false) (fun h => by cases h) ?_ ?_ ?_
  · intro idx kd q' h p e s m args below meth c D cA B Q hF
    unfold calX8_keepNextPlace at h
    split at h
    · cases h
      exact qc_V (C := RX8) (T := TX8) (N := 5) hF mX8_nextPlace (by exact (qm_c qw268 (qm_c qw270 (qm_c qw1 (qm_c qw10 (qm_c qw271 qm_0)))))) rfl (by decide +kernel) (by decide) sg_r_i_recv
    · cases h
      exact qc_min hF (by exact (qm_c qw307 (qm_c qw308 (qm_c qw26 (qm_c qw309 qm_0))))) (by decide)
    · cases h
  · rintro av μ ⟨o, rfl, ht, hp⟩
    exact Nat.le_of_ble_eq_true rfl
  · rintro av μ ⟨o, rfl, ht, hp⟩
    have h := xX8_keepNextPlace o μ ht hp
    rw [← sg_r_v_R (P := PX8_keepNextPlace)] at h
    exact h
theorem mX8_saveState {l : Launch} : qMet l yX8_saveState cX8_saveState 1 none 5 111 spX8_saveState := by
  refine qMet_of (cal := calX8_saveState) (fld := fX8) (cst := kX8) (csl := jX8) (nwo := nX8) false (plainFor_of_name (by decide +kernel)) tabX8 va_AOA_words.1 va_AOA_words.2 (ini := false) (fun h => by cases h) ?_ ?_ ?_
  · intro idx kd q' h p e s m args below meth c D cA B Q hF
    unfold calX8_saveState at h
    split at h
    · cases h
      exact qc_V (C := RX8) (T := TX8) (N := 5) hF mX8_nextPlace (by exact (qm_c qw268 (qm_c qw270 (qm_c qw1 (qm_c qw10 (qm_c qw271 qm_0)))))) rfl (by decide +kernel) (by decide) sg_r_i_recv
    · cases h
      exact qc_V (C := RX6) (T := TX6) (N := 4) hF mX6_copyFrom (by exact (qm_c qw272 (qm_c qw273 (qm_c qw274 (qm_c qw12 (qm_c qw275 qm_0)))))) rfl (by decide +kernel) (by decide) sg_ra_v_recv
    · cases h
      exact qc_V (C := RX8) (T := TX8) (N := 5) hF mX8_keepNextPlace (by exact (qm_c qw303 (qm_c qw305 (qm_c qw2 (qm_c qw10 (qm_c qw306 qm_0)))))) rfl (by decide +kernel) (by decide) sg_r_v_recv
    · cases h
  · rintro av μ ⟨o, rfl, ht, hp⟩
    exact Nat.le_of_ble_eq_true rfl
  · rintro av μ ⟨o, rfl, ht, hp⟩
    have h := xX8_saveState o μ ht hp
    rw [← sg_r_v_R (P := PX8_saveState)] at h
    exact h
theorem mX8_fieldMost {l : Launch} : qMet l yX8_fieldMost cX8_fieldMost 1 (some .int) 0 0 spX8_fieldMost := by
  refine qMet_of (cal := calX8_fieldMost) (fld := fX8) (cst := kX8) (csl := jX8) (nwo := nX8) false (plainFor_of_name (by decide +kernel)) tabX8 va_AOA_words.1 va_AOA_words.2 (ini := false) (fun h => by cases h) ?_ ?_ ?_
  · intro idx kd q' h p e s m args below meth c D cA B Q hF
    cases h
  · rintro av μ ⟨x1, rfl, hp⟩
    exact Nat.le_of_ble_eq_true rfl
  · rintro av μ ⟨x1, rfl, hp⟩
    have h := xX8_fieldMost x1 μ hp
    rw [← sg_si_i_R (P := PX8_fieldMost)] at h
    exact h
theorem mX8_linkOf {l : Launch} : qMet l yX8_linkOf cX8_linkOf 2 (some (.object "HeaderSqueezer$Link")) 0 0 spX8_linkOf := by
  refine qMet_of (cal := calX8_linkOf) (fld := fX8) (cst := kX8) (csl := jX8) (nwo := nX8) false (plainFor_of_name (by decide +kernel)) tabX8 va_AOA_words.1 va_AOA_words.2 (ini := false) (fun h => by cases h) ?_ ?_ ?_
  · intro idx kd q' h p e s m args below meth c D cA B Q hF
    cases h
  · rintro av μ ⟨o, x1, rfl, ht, hp⟩
    exact Nat.le_of_ble_eq_true rfl
  · rintro av μ ⟨o, x1, rfl, ht, hp⟩
    have h := xX8_linkOf o x1 μ ht hp
    rw [← sg_ri_a_R (P := PX8_linkOf)] at h
    exact h
theorem mX8_advance {l : Launch} : qMet l yX8_advance cX8_advance 1 (some .int) 6 131 spX8_advance := by
  refine qMet_of (cal := calX8_advance) (fld := fX8) (cst := kX8) (csl := jX8) (nwo := nX8) false (plainFor_of_name (by decide +kernel)) tabX8 va_AOA_words.1 va_AOA_words.2 (ini := false) (fun h => by cases h) ?_ ?_ ?_
  · intro idx kd q' h p e s m args below meth c D cA B Q hF
    unfold calX8_advance at h
    split at h
    · cases h
      exact qc_V (C := RX8) (T := TX8) (N := 5) hF mX8_saveState (by exact (qm_c qw264 (qm_c qw266 (qm_c qw0 (qm_c qw10 (qm_c qw267 qm_0)))))) rfl (by decide +kernel) (by decide) sg_r_v_recv
    · cases h
      exact qc_V (C := RX5) (T := TX5) (N := 11) hF mX5_step (by exact (qm_c qw310 (qm_c qw311 (qm_c qw312 (qm_c qw14 (qm_c qw313 qm_0)))))) rfl (by decide +kernel) (by decide) sg_r_v_recv
    · cases h
  · rintro av μ ⟨o, rfl, ht, hp⟩
    exact Nat.le_of_ble_eq_true rfl
  · rintro av μ ⟨o, rfl, ht, hp⟩
    have h := xX8_advance o μ ht hp
    rw [← sg_r_i_R (P := PX8_advance)] at h
    exact h
theorem mX8_reference {l : Launch} : qMet l yX8_reference cX8_reference 1 (some .int) 2 45 spX8_reference := by
  refine qMet_of (cal := calX8_reference) (fld := fX8) (cst := kX8) (csl := jX8) (nwo := nX8) false (plainFor_of_name (by decide +kernel)) tabX8 va_AOA_words.1 va_AOA_words.2 (ini := false) (fun h => by cases h) ?_ ?_ ?_
  · intro idx kd q' h p e s m args below meth c D cA B Q hF
    unfold calX8_reference at h
    split at h
    · cases h
      exact qc_V (C := RX5) (T := TX5) (N := 11) hF mX5_trustedReference (by exact (qm_c qw322 (qm_c qw323 (qm_c qw324 (qm_c qw14 (qm_c qw325 qm_0)))))) rfl (by decide +kernel) (by decide) sg_ri_i_recv
    · cases h
  · rintro av μ ⟨o, rfl, ht, hp⟩
    exact Nat.le_of_ble_eq_true rfl
  · rintro av μ ⟨o, rfl, ht, hp⟩
    have h := xX8_reference o μ ht hp
    rw [← sg_r_i_R (P := PX8_reference)] at h
    exact h
theorem mX8_deliverAll {l : Launch} : qMet l yX8_deliverAll cX8_deliverAll 5 (some .int) 6 137 spX8_deliverAll := by
  refine qMet_of (cal := calX8_deliverAll) (fld := fX8) (cst := kX8) (csl := jX8) (nwo := nX8) false (plainFor_of_name (by decide +kernel)) tabX8 va_AOA_words.1 va_AOA_words.2 (ini := false) (fun h => by cases h) ?_ ?_ ?_
  · intro idx kd q' h p e s m args below meth c D cA B Q hF
    unfold calX8_deliverAll at h
    split at h
    · cases h
      exact qc_V (C := RX8) (T := TX8) (N := 5) hF mX8_saveState (by exact (qm_c qw264 (qm_c qw266 (qm_c qw0 (qm_c qw10 (qm_c qw267 qm_0)))))) rfl (by decide +kernel) (by decide) sg_r_v_recv
    · cases h
      exact qc_V (C := RX6) (T := TX6) (N := 4) hF mX6_deliverPacket (by exact (qm_c qw333 (qm_c qw334 (qm_c qw335 (qm_c qw12 (qm_c qw336 qm_0)))))) rfl (by decide +kernel) (by decide) sg_ri_i_recv
    · cases h
  · rintro av μ ⟨o, rfl, ht, hp⟩
    exact Nat.le_of_ble_eq_true rfl
  · rintro av μ ⟨o, rfl, ht, hp⟩
    have h := xX8_deliverAll o μ ht hp
    rw [← sg_r_i_R (P := PX8_deliverAll)] at h
    exact h
theorem mX8_waiting {l : Launch} : qMet l yX8_waiting cX8_waiting 2 (some .int) 1 21 spX8_waiting := by
  refine qMet_of (cal := calX8_waiting) (fld := fX8) (cst := kX8) (csl := jX8) (nwo := nX8) false (plainFor_of_name (by decide +kernel)) tabX8 va_AOA_words.1 va_AOA_words.2 (ini := false) (fun h => by cases h) ?_ ?_ ?_
  · intro idx kd q' h p e s m args below meth c D cA B Q hF
    unfold calX8_waiting at h
    split at h
    · cases h
      exact qc_V (C := RX8) (T := TX8) (N := 5) hF mX8_linkOf (by exact (qm_c qw744 (qm_c qw746 (qm_c qw8 (qm_c qw10 (qm_c qw747 qm_0)))))) rfl (by decide +kernel) (by decide) sg_ri_a_recv
    · cases h
  · rintro av μ ⟨o, x1, rfl, ht, hp⟩
    exact Nat.le_of_ble_eq_true rfl
  · rintro av μ ⟨o, x1, rfl, ht, hp⟩
    have h := xX8_waiting o x1 μ ht hp
    rw [← sg_ri_i_R (P := PX8_waiting)] at h
    exact h
theorem mX8_highest {l : Launch} : qMet l yX8_highest cX8_highest 1 (some .int) 0 0 spX8_highest := by
  refine qMet_of (cal := calX8_highest) (fld := fX8) (cst := kX8) (csl := jX8) (nwo := nX8) false (plainFor_of_name (by decide +kernel)) tabX8 va_AOA_words.1 va_AOA_words.2 (ini := false) (fun h => by cases h) ?_ ?_ ?_
  · intro idx kd q' h p e s m args below meth c D cA B Q hF
    cases h
  · rintro av μ ⟨o, rfl, ht, hp⟩
    exact Nat.le_of_ble_eq_true rfl
  · rintro av μ ⟨o, rfl, ht, hp⟩
    have h := xX8_highest o μ ht hp
    rw [← sg_r_i_R (P := PX8_highest)] at h
    exact h
theorem mX8_records {l : Launch} : qMet l yX8_records cX8_records 1 (some .int) 1 22 spX8_records := by
  refine qMet_of (cal := calX8_records) (fld := fX8) (cst := kX8) (csl := jX8) (nwo := nX8) false (plainFor_of_name (by decide +kernel)) tabX8 va_AOA_words.1 va_AOA_words.2 (ini := false) (fun h => by cases h) ?_ ?_ ?_
  · intro idx kd q' h p e s m args below meth c D cA B Q hF
    unfold calX8_records at h
    split at h
    · cases h
      exact qc_V (C := RX7) (T := TX7) (N := 2) hF mX7_size (by exact (qm_c qw810 (qm_c qw811 (qm_c qw812 (qm_c qw16 (qm_c qw813 qm_0)))))) rfl (by decide +kernel) (by decide) sg_r_i_recv
    · cases h
  · rintro av μ ⟨o, rfl, ht, hp⟩
    exact Nat.le_of_ble_eq_true rfl
  · rintro av μ ⟨o, rfl, ht, hp⟩
    have h := xX8_records o μ ht hp
    rw [← sg_r_i_R (P := PX8_records)] at h
    exact h
theorem mX8_saved {l : Launch} : qMet l yX8_saved cX8_saved 1 (some .int) 1 20 spX8_saved := by
  refine qMet_of (cal := calX8_saved) (fld := fX8) (cst := kX8) (csl := jX8) (nwo := nX8) false (plainFor_of_name (by decide +kernel)) tabX8 va_AOA_words.1 va_AOA_words.2 (ini := false) (fun h => by cases h) ?_ ?_ ?_
  · intro idx kd q' h p e s m args below meth c D cA B Q hF
    unfold calX8_saved at h
    split at h
    · cases h
      exact qc_V (C := RX5) (T := TX5) (N := 11) hF mX5_savedBytes (by exact (qm_c qw736 (qm_c qw737 (qm_c qw738 (qm_c qw14 (qm_c qw739 qm_0)))))) rfl (by decide +kernel) (by decide) sg_r_i_recv
    · cases h
  · rintro av μ ⟨o, rfl, ht, hp⟩
    exact Nat.le_of_ble_eq_true rfl
  · rintro av μ ⟨o, rfl, ht, hp⟩
    have h := xX8_saved o μ ht hp
    rw [← sg_r_i_R (P := PX8_saved)] at h
    exact h
theorem mX8_lateness {l : Launch} : qMet l yX8_lateness cX8_lateness 1 (some .int) 0 0 spX8_lateness := by
  refine qMet_of (cal := calX8_lateness) (fld := fX8) (cst := kX8) (csl := jX8) (nwo := nX8) false (plainFor_of_name (by decide +kernel)) tabX8 va_AOA_words.1 va_AOA_words.2 (ini := false) (fun h => by cases h) ?_ ?_ ?_
  · intro idx kd q' h p e s m args below meth c D cA B Q hF
    cases h
  · rintro av μ ⟨o, rfl, ht, hp⟩
    exact Nat.le_of_ble_eq_true rfl
  · rintro av μ ⟨o, rfl, ht, hp⟩
    have h := xX8_lateness o μ ht hp
    rw [← sg_r_i_R (P := PX8_lateness)] at h
    exact h
theorem mX0_init {l : Launch} : qMet l yX0_init cX0_init 1 none 1 20 spX0_init := by
  refine qMet_of (cal := calX0_init) (fld := fX0) (cst := kX0) (csl := jX0) (nwo := nX0) false (plainFor_of_name (by decide +kernel)) tabX0 va_AOA_words.1 va_AOA_words.2 (ini := true) (fun _ => rfl) ?_ ?_ ?_
  · intro idx kd q' h p e s m args below meth c D cA B Q hF
    unfold calX0_init at h
    split at h
    · cases h
      exact qc_obj hF (by exact (qm_c qw81 (qm_c qw34 (qm_c qw35 qm_0)))) (by decide)
    · cases h
  · rintro av μ ⟨o, rfl, ht, hp⟩
    exact Nat.le_of_ble_eq_true rfl
  · rintro av μ ⟨o, rfl, ht, hp⟩
    have h := xX0_init o μ ht hp
    rw [← sg_r_v_R (P := PX0_init)] at h
    exact h
theorem mX4_init {l : Launch} : qMet l yX4_init cX4_init 1 none 1 20 spX4_init := by
  refine qMet_of (cal := calX4_init) (fld := fX4) (cst := kX4) (csl := jX4) (nwo := nX4) false (plainFor_of_name (by decide +kernel)) tabX4 va_AOA_words.1 va_AOA_words.2 (ini := true) (fun _ => rfl) ?_ ?_ ?_
  · intro idx kd q' h p e s m args below meth c D cA B Q hF
    unfold calX4_init at h
    split at h
    · cases h
      exact qc_obj hF (by exact (qm_c qw227 (qm_c qw34 (qm_c qw35 qm_0)))) (by decide)
    · cases h
  · rintro av μ ⟨o, rfl, ht, hp⟩
    exact Nat.le_of_ble_eq_true rfl
  · rintro av μ ⟨o, rfl, ht, hp⟩
    have h := xX4_init o μ ht hp
    rw [← sg_r_v_R (P := PX4_init)] at h
    exact h
theorem mJ7_fill_53178 {l : Launch} : qMet l yJ7_fill_53178 cJ7_fill_53178 4 none 0 0 spJ7_fill_53178 := by
  refine qMet_of (cal := calJ7_fill_53178) (fld := fun _ => none) (cst := fun _ => none) (csl := fun _ => none) (nwo := fun _ => none) false (by decide +kernel) qTab0 va_AOA_words.1 va_AOA_words.2 (ini := false) (fun h => by cases h) ?_ ?_ ?_
  · intro idx kd q' h p e s m args below meth c D cA B Q hF
    cases h
  · rintro av μ ⟨x1, x2, rfl, hp⟩
    exact Nat.le_of_ble_eq_true rfl
  · rintro av μ ⟨x1, x2, rfl, hp⟩
    have h := xJ7_fill_53178 x1 x2 μ hp
    rw [← sg_sai_v_R (P := PJ7_fill_53178)] at h
    exact h
theorem mX7_init {l : Launch} : qMet l yX7_init cX7_init 1 none 1 23 spX7_init := by
  refine qMet_of (cal := calX7_init) (fld := fX7) (cst := kX7) (csl := jX7) (nwo := nX7) false (plainFor_of_name (by decide +kernel)) tabX7 va_AOA_words.1 va_AOA_words.2 (ini := true) (fun _ => rfl) ?_ ?_ ?_
  · intro idx kd q' h p e s m args below meth c D cA B Q hF
    unfold calX7_init at h
    split at h
    · cases h
      exact qc_obj hF (by exact (qm_c qw150 (qm_c qw34 (qm_c qw35 qm_0)))) (by decide)
    · cases h
      exact qc_S hF mJ7_fill_53178 (by exact (qm_c qw152 (qm_c qw153 (qm_c qw17 (qm_c qw154 qm_0))))) rfl (by decide +kernel) (by decide)
    · cases h
  · rintro av μ ⟨o, rfl, ht, hp⟩
    exact Nat.le_of_ble_eq_true rfl
  · rintro av μ ⟨o, rfl, ht, hp⟩
    have h := xX7_init o μ ht hp
    rw [← sg_r_v_R (P := PX7_init)] at h
    exact h
theorem mX1_init {l : Launch} : qMet l yX1_init cX1_init 1 none 1 20 spX1_init := by
  refine qMet_of (cal := calX1_init) (fld := fX1) (cst := kX1) (csl := jX1) (nwo := nX1) false (plainFor_of_name (by decide +kernel)) tabX1 va_AOA_words.1 va_AOA_words.2 (ini := true) (fun _ => rfl) ?_ ?_ ?_
  · intro idx kd q' h p e s m args below meth c D cA B Q hF
    unfold calX1_init at h
    split at h
    · cases h
      exact qc_obj hF (by exact (qm_c qw41 (qm_c qw34 (qm_c qw35 qm_0)))) (by decide)
    · cases h
  · rintro av μ ⟨o, rfl, ht, hp⟩
    exact Nat.le_of_ble_eq_true rfl
  · rintro av μ ⟨o, rfl, ht, hp⟩
    have h := xX1_init o μ ht hp
    rw [← sg_r_v_R (P := PX1_init)] at h
    exact h
theorem mX5_init {l : Launch} : qMet l yX5_init cX5_init 2 none 1 20 spX5_init := by
  refine qMet_of (cal := calX5_init) (fld := fX5) (cst := kX5) (csl := jX5) (nwo := nX5) false (plainFor_of_name (by decide +kernel)) tabX5 va_AOA_words.1 va_AOA_words.2 (ini := true) (fun _ => rfl) ?_ ?_ ?_
  · intro idx kd q' h p e s m args below meth c D cA B Q hF
    unfold calX5_init at h
    split at h
    · cases h
      exact qc_obj hF (by exact (qm_c qw97 (qm_c qw34 (qm_c qw35 qm_0)))) (by decide)
    · cases h
  · rintro av μ ⟨o, x1, rfl, ht, hp⟩
    exact Nat.le_of_ble_eq_true rfl
  · rintro av μ ⟨o, x1, rfl, ht, hp⟩
    have h := xX5_init o x1 μ ht hp
    rw [← sg_ra_v_R (P := PX5_init)] at h
    exact h
theorem mX2_init {l : Launch} : qMet l yX2_init cX2_init 2 none 2 43 spX2_init := by
  refine qMet_of (cal := calX2_init) (fld := fX2) (cst := kX2) (csl := jX2) (nwo := nX2) false (plainFor_of_name (by decide +kernel)) tabX2 va_AOA_words.1 va_AOA_words.2 (ini := true) (fun _ => rfl) ?_ ?_ ?_
  · intro idx kd q' h p e s m args below meth c D cA B Q hF
    unfold calX2_init at h
    split at h
    · cases h
      exact qc_obj hF (by exact (qm_c qw144 (qm_c qw34 (qm_c qw35 qm_0)))) (by decide)
    · cases h
      exact qc_I hF mX7_init (by exact (qm_c qw147 (qm_c qw148 (qm_c qw16 (qm_c qw149 qm_0))))) rfl (by decide +kernel) (by decide) sg_r_v_recv
    · cases h
  · rintro av μ ⟨o, x1, rfl, ht, hp⟩
    exact Nat.le_of_ble_eq_true rfl
  · rintro av μ ⟨o, x1, rfl, ht, hp⟩
    have h := xX2_init o x1 μ ht hp
    rw [← sg_ra_v_R (P := PX2_init)] at h
    exact h
theorem mX6_init {l : Launch} : qMet l yX6_init cX6_init 2 none 3 64 spX6_init := by
  refine qMet_of (cal := calX6_init) (fld := fX6) (cst := kX6) (csl := jX6) (nwo := nX6) false (plainFor_of_name (by decide +kernel)) tabX6 va_AOA_words.1 va_AOA_words.2 (ini := true) (fun _ => rfl) ?_ ?_ ?_
  · intro idx kd q' h p e s m args below meth c D cA B Q hF
    unfold calX6_init at h
    split at h
    · cases h
      exact qc_obj hF (by exact (qm_c qw75 (qm_c qw34 (qm_c qw35 qm_0)))) (by decide)
    · cases h
      exact qc_IN hF mX0_init (by exact (qm_c qw79 (qm_c qw13 (qm_c qw80 qm_0)))) (by decide +kernel) rfl (by decide +kernel) (by decide) sg_r_v_recv
    · cases h
      exact qc_I hF mX5_init (by exact (qm_c qw94 (qm_c qw95 (qm_c qw14 (qm_c qw96 qm_0))))) rfl (by decide +kernel) (by decide) sg_ra_v_recv
    · cases h
      exact qc_I hF mX2_init (by exact (qm_c qw141 (qm_c qw142 (qm_c qw15 (qm_c qw143 qm_0))))) rfl (by decide +kernel) (by decide) sg_ra_v_recv
    · cases h
  · rintro av μ ⟨o, x1, rfl, ht, hp⟩
    exact Nat.le_of_ble_eq_true rfl
  · rintro av μ ⟨o, x1, rfl, ht, hp⟩
    have h := xX6_init o x1 μ ht hp
    rw [← sg_ra_v_R (P := PX6_init)] at h
    exact h
theorem mX8_init {l : Launch} : qMet l yX8_init cX8_init 3 none 4 85 spX8_init := by
  refine qMet_of (cal := calX8_init) (fld := fX8) (cst := kX8) (csl := jX8) (nwo := nX8) false (plainFor_of_name (by decide +kernel)) tabX8 va_AOA_words.1 va_AOA_words.2 (ini := true) (fun _ => rfl) ?_ ?_ ?_
  · intro idx kd q' h p e s m args below meth c D cA B Q hF
    unfold calX8_init at h
    split at h
    · cases h
      exact qc_obj hF (by exact (qm_c qw33 (qm_c qw34 (qm_c qw35 qm_0)))) (by decide)
    · cases h
      exact qc_IN hF mX1_init (by exact (qm_c qw39 (qm_c qw11 (qm_c qw40 qm_0)))) (by decide +kernel) rfl (by decide +kernel) (by decide) sg_r_v_recv
    · cases h
      exact qc_I hF mX6_init (by exact (qm_c qw72 (qm_c qw73 (qm_c qw12 (qm_c qw74 qm_0))))) rfl (by decide +kernel) (by decide) sg_ra_v_recv
    · cases h
      exact qc_IN hF mX4_init (by exact (qm_c qw225 (qm_c qw18 (qm_c qw226 qm_0)))) (by decide +kernel) rfl (by decide +kernel) (by decide) sg_r_v_recv
    · cases h
  · rintro av μ ⟨o, rfl, ht, hp⟩
    exact Nat.le_of_ble_eq_true rfl
  · rintro av μ ⟨o, rfl, ht, hp⟩
    have h := xX8_init o μ ht hp
    rw [← sg_r_v_R (P := PX8_init)] at h
    exact h
theorem mX8_meanSize {l : Launch} : qMet l yX8_meanSize cX8_meanSize 2 (some .double) 0 0 spX8_meanSize := by
  refine qMet_of (cal := calX8_meanSize) (fld := fX8) (cst := kX8) (csl := jX8) (nwo := nX8) false (plainFor_of_name (by decide +kernel)) tabX8 va_AOA_words.1 va_AOA_words.2 (ini := false) (fun h => by cases h) ?_ ?_ ?_
  · intro idx kd q' h p e s m args below meth c D cA B Q hF
    cases h
  · rintro av μ ⟨o, rfl, ht, hp⟩
    exact Nat.le_of_ble_eq_true rfl
  · rintro av μ ⟨o, rfl, ht, hp⟩
    have h := xX8_meanSize o μ ht hp
    rw [← sg_r_d_R (P := PX8_meanSize)] at h
    exact h
