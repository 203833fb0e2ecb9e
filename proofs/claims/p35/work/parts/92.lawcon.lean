/-! ===== contracts of the law's own functions (by program) ===== -/
theorem mL_low {l : Launch} : qMet l yL_low cL_low 2 (some .int) 0 0 spL_low := by
  refine qMet_of (cal := calL_low) (fld := fL) (cst := kL) (csl := jL) (nwo := nL) false (plainFor_of_name (by decide +kernel)) tabL va_AOA_words.1 va_AOA_words.2 (ini := false) (fun h => by cases h) ?_ ?_ ?_
  · intro idx kd q' h p e s m args below meth c D cA B Q hF
    cases h
  · rintro av μ ⟨x1, x2, rfl, hp⟩
    exact Nat.le_of_ble_eq_true rfl
  · rintro av μ ⟨x1, x2, rfl, hp⟩
    have h := xL_low x1 x2 μ hp
    rw [← sg_sii_i_R (P := PL_low)] at h
    exact h
theorem mL_header {l : Launch} : qMet l yL_header cL_header 4 (some .long) 0 0 spL_header := by
  refine qMet_of (cal := calL_header) (fld := fL) (cst := kL) (csl := jL) (nwo := nL) false (plainFor_of_name (by decide +kernel)) tabL va_AOA_words.1 va_AOA_words.2 (ini := false) (fun h => by cases h) ?_ ?_ ?_
  · intro idx kd q' h p e s m args below meth c D cA B Q hF
    cases h
  · rintro av μ ⟨x1, x2, x3, x4, rfl, hp⟩
    exact Nat.le_of_ble_eq_true rfl
  · rintro av μ ⟨x1, x2, x3, x4, rfl, hp⟩
    have h := xL_header x1 x2 x3 x4 μ hp
    rw [← sg_siiii_j_R (P := PL_header)] at h
    exact h
theorem mL_part {l : Launch} : qMet l yL_part cL_part 3 (some .int) 0 0 spL_part := by
  refine qMet_of (cal := calL_part) (fld := fL) (cst := kL) (csl := jL) (nwo := nL) true (plainFor_of_name (by decide +kernel)) tabL va_AOA_words.1 va_AOA_words.2 (ini := false) (fun h => by cases h) ?_ ?_ ?_
  · intro idx kd q' h p e s m args below meth c D cA B Q hF
    cases h
  · rintro av μ ⟨x1, x2, rfl, hp⟩
    exact Nat.le_of_ble_eq_true rfl
  · rintro av μ ⟨x1, x2, rfl, hp⟩
    have h := xL_part x1 x2 μ hp
    rw [← sg_sji_i_R (P := PL_part)] at h
    exact h
theorem mL_moved {l : Launch} : qMet l yL_moved cL_moved 4 (some .long) 1 23 spL_moved := by
  refine qMet_of (cal := calL_moved) (fld := fL) (cst := kL) (csl := jL) (nwo := nL) true (plainFor_of_name (by decide +kernel)) tabL va_AOA_words.1 va_AOA_words.2 (ini := false) (fun h => by cases h) ?_ ?_ ?_
  · intro idx kd q' h p e s m args below meth c D cA B Q hF
    unfold calL_moved at h
    split at h
    · cases h
      exact qc_S hF mL_part (by exact (qm_c qw683 (qm_c qw684 (qm_c qw9 (qm_c qw685 qm_0))))) rfl (by decide +kernel) (by decide)
    · cases h
      exact qc_S hF mL_header (by exact (qm_c qw677 (qm_c qw678 (qm_c qw9 (qm_c qw679 qm_0))))) rfl (by decide +kernel) (by decide)
    · cases h
  · rintro av μ ⟨x1, x2, x3, rfl, hp⟩
    exact Nat.le_of_ble_eq_true rfl
  · rintro av μ ⟨x1, x2, x3, rfl, hp⟩
    have h := xL_moved x1 x2 x3 μ hp
    rw [← sg_sjii_j_R (P := PL_moved)] at h
    exact h
theorem mL_apart {l : Launch} : qMet l yL_apart cL_apart 2 (some .int) 0 0 spL_apart := by
  refine qMet_of (cal := calL_apart) (fld := fL) (cst := kL) (csl := jL) (nwo := nL) false (plainFor_of_name (by decide +kernel)) tabL va_AOA_words.1 va_AOA_words.2 (ini := false) (fun h => by cases h) ?_ ?_ ?_
  · intro idx kd q' h p e s m args below meth c D cA B Q hF
    cases h
  · rintro av μ ⟨x1, x2, rfl, hp⟩
    exact Nat.le_of_ble_eq_true rfl
  · rintro av μ ⟨x1, x2, rfl, hp⟩
    have h := xL_apart x1 x2 μ hp
    rw [← sg_sii_i_R (P := PL_apart)] at h
    exact h
theorem mL_trusted {l : Launch} : qMet l yL_trusted cL_trusted 5 (some .int) 0 0 spL_trusted := by
  refine qMet_of (cal := calL_trusted) (fld := fL) (cst := kL) (csl := jL) (nwo := nL) false (plainFor_of_name (by decide +kernel)) tabL va_AOA_words.1 va_AOA_words.2 (ini := false) (fun h => by cases h) ?_ ?_ ?_
  · intro idx kd q' h p e s m args below meth c D cA B Q hF
    cases h
  · rintro av μ ⟨x1, x2, x3, rfl, hp⟩
    exact Nat.le_of_ble_eq_true rfl
  · rintro av μ ⟨x1, x2, x3, rfl, hp⟩
    have h := xL_trusted x1 x2 x3 μ hp
    rw [← sg_saai_i_R (P := PL_trusted)] at h
    exact h
theorem mL_size {l : Launch} : qMet l yL_size cL_size 7 (some .int) 1 22 spL_size := by
  refine qMet_of (cal := calL_size) (fld := fL) (cst := kL) (csl := jL) (nwo := nL) true (plainFor_of_name (by decide +kernel)) tabL va_AOA_words.1 va_AOA_words.2 (ini := false) (fun h => by cases h) ?_ ?_ ?_
  · intro idx kd q' h p e s m args below meth c D cA B Q hF
    unfold calL_size at h
    split at h
    · cases h
      exact qc_S hF mL_part (by exact (qm_c qw683 (qm_c qw684 (qm_c qw9 (qm_c qw685 qm_0))))) rfl (by decide +kernel) (by decide)
    · cases h
      exact qc_S hF mL_apart (by exact (qm_c qw703 (qm_c qw704 (qm_c qw9 (qm_c qw705 qm_0))))) rfl (by decide +kernel) (by decide)
    · cases h
  · rintro av μ ⟨x1, x2, rfl, hp⟩
    exact Nat.le_of_ble_eq_true rfl
  · rintro av μ ⟨x1, x2, rfl, hp⟩
    have h := xL_size x1 x2 μ hp
    rw [← sg_sjj_i_R (P := PL_size)] at h
    exact h
theorem mL_base {l : Launch} : qMet l yL_base cL_base 5 (some .long) 2 46 spL_base := by
  refine qMet_of (cal := calL_base) (fld := fL) (cst := kL) (csl := jL) (nwo := nL) false (plainFor_of_name (by decide +kernel)) tabL va_AOA_words.1 va_AOA_words.2 (ini := false) (fun h => by cases h) ?_ ?_ ?_
  · intro idx kd q' h p e s m args below meth c D cA B Q hF
    unfold calL_base at h
    split at h
    · cases h
      exact qc_S hF mL_moved (by exact (qm_c qw688 (qm_c qw689 (qm_c qw9 (qm_c qw690 qm_0))))) rfl (by decide +kernel) (by decide)
    · cases h
  · rintro av μ ⟨x1, x2, x3, x4, x5, rfl, hp⟩
    exact Nat.le_of_ble_eq_true rfl
  · rintro av μ ⟨x1, x2, x3, x4, x5, rfl, hp⟩
    have h := xL_base x1 x2 x3 x4 x5 μ hp
    rw [← sg_saaiii_j_R (P := PL_base)] at h
    exact h
theorem mL_next {l : Launch} : qMet l yL_next cL_next 9 (some .int) 3 70 spL_next := by
  refine qMet_of (cal := calL_next) (fld := fL) (cst := kL) (csl := jL) (nwo := nL) true (plainFor_of_name (by decide +kernel)) tabL va_AOA_words.1 va_AOA_words.2 (ini := false) (fun h => by cases h) ?_ ?_ ?_
  · intro idx kd q' h p e s m args below meth c D cA B Q hF
    unfold calL_next at h
    split at h
    · cases h
      exact qc_S hF mL_trusted (by exact (qm_c qw691 (qm_c qw692 (qm_c qw9 (qm_c qw693 qm_0))))) rfl (by decide +kernel) (by decide)
    · cases h
      exact qc_S hF mL_base (by exact (qm_c qw697 (qm_c qw698 (qm_c qw9 (qm_c qw699 qm_0))))) rfl (by decide +kernel) (by decide)
    · cases h
      exact qc_S hF mL_size (by exact (qm_c qw700 (qm_c qw701 (qm_c qw9 (qm_c qw702 qm_0))))) rfl (by decide +kernel) (by decide)
    · cases h
  · rintro av μ ⟨x1, x2, x3, x4, x5, x6, x7, rfl, hp⟩
    exact Nat.le_of_ble_eq_true rfl
  · rintro av μ ⟨x1, x2, x3, x4, x5, x6, x7, rfl, hp⟩
    have h := xL_next x1 x2 x3 x4 x5 x6 x7 μ hp
    rw [← sg_saaaajii_i_R (P := PL_next)] at h
    exact h
theorem mL_send {l : Launch} : qMet l yL_send cL_send 10 none 4 98 spL_send := by
  refine qMet_of (cal := calL_send) (fld := fL) (cst := kL) (csl := jL) (nwo := nL) true (plainFor_of_name (by decide +kernel)) tabL va_AOA_words.1 va_AOA_words.2 (ini := false) (fun h => by cases h) ?_ ?_ ?_
  · intro idx kd q' h p e s m args below meth c D cA B Q hF
    unfold calL_send at h
    split at h
    · cases h
      exact qc_S hF mL_trusted (by exact (qm_c qw691 (qm_c qw692 (qm_c qw9 (qm_c qw693 qm_0))))) rfl (by decide +kernel) (by decide)
    · cases h
      exact qc_S hF mL_next (by exact (qm_c qw694 (qm_c qw695 (qm_c qw9 (qm_c qw696 qm_0))))) rfl (by decide +kernel) (by decide)
    · cases h
  · rintro av μ ⟨x1, x2, x3, x4, x5, x6, rfl, hp⟩
    exact Nat.le_of_ble_eq_true rfl
  · rintro av μ ⟨x1, x2, x3, x4, x5, x6, rfl, hp⟩
    have h := xL_send x1 x2 x3 x4 x5 x6 μ hp
    rw [← sg_saaaaja_v_R (P := PL_send)] at h
    exact h
theorem mL_take {l : Launch} : qMet l yL_take cL_take 4 (some .int) 0 0 spL_take := by
  refine qMet_of (cal := calL_take) (fld := fL) (cst := kL) (csl := jL) (nwo := nL) false (plainFor_of_name (by decide +kernel)) tabL va_AOA_words.1 va_AOA_words.2 (ini := false) (fun h => by cases h) ?_ ?_ ?_
  · intro idx kd q' h p e s m args below meth c D cA B Q hF
    cases h
  · rintro av μ ⟨x1, x2, rfl, hp⟩
    exact Nat.le_of_ble_eq_true rfl
  · rintro av μ ⟨x1, x2, rfl, hp⟩
    have h := xL_take x1 x2 μ hp
    rw [← sg_sai_i_R (P := PL_take)] at h
    exact h
theorem mL_message {l : Launch} : qMet l yL_message cL_message 2 none 0 0 spL_message := by
  refine qMet_of (cal := calL_message) (fld := fL) (cst := kL) (csl := jL) (nwo := nL) false (plainFor_of_name (by decide +kernel)) tabL va_AOA_words.1 va_AOA_words.2 (ini := false) (fun h => by cases h) ?_ ?_ ?_
  · intro idx kd q' h p e s m args below meth c D cA B Q hF
    cases h
  · rintro av μ ⟨x1, x2, rfl, hp⟩
    exact Nat.le_of_ble_eq_true rfl
  · rintro av μ ⟨x1, x2, rfl, hp⟩
    have h := xL_message x1 x2 μ hp
    rw [← sg_sai_v_R (P := PL_message)] at h
    exact h
theorem mL_numberFor {l : Launch} : qMet l yL_numberFor cL_numberFor 3 (some .int) 0 0 spL_numberFor := by
  refine qMet_of (cal := calL_numberFor) (fld := fL) (cst := kL) (csl := jL) (nwo := nL) false (plainFor_of_name (by decide +kernel)) tabL va_AOA_words.1 va_AOA_words.2 (ini := false) (fun h => by cases h) ?_ ?_ ?_
  · intro idx kd q' h p e s m args below meth c D cA B Q hF
    cases h
  · rintro av μ ⟨x1, x2, rfl, hp⟩
    exact Nat.le_of_ble_eq_true rfl
  · rintro av μ ⟨x1, x2, rfl, hp⟩
    have h := xL_numberFor x1 x2 μ hp
    rw [← sg_sai_i_R (P := PL_numberFor)] at h
    exact h
theorem mL_receive {l : Launch} : qMet l yL_receive cL_receive 20 (some .int) 3 70 spL_receive := by
  refine qMet_of (cal := calL_receive) (fld := fL) (cst := kL) (csl := jL) (nwo := nL) true (plainFor_of_name (by decide +kernel)) tabL va_AOA_words.1 va_AOA_words.2 (ini := false) (fun h => by cases h) ?_ ?_ ?_
  · intro idx kd q' h p e s m args below meth c D cA B Q hF
    unfold calL_receive at h
    split at h
    · cases h
      exact qc_S hF mL_part (by exact (qm_c qw683 (qm_c qw684 (qm_c qw9 (qm_c qw685 qm_0))))) rfl (by decide +kernel) (by decide)
    · cases h
      exact qc_S hF mL_header (by exact (qm_c qw677 (qm_c qw678 (qm_c qw9 (qm_c qw679 qm_0))))) rfl (by decide +kernel) (by decide)
    · cases h
      exact qc_S hF mL_base (by exact (qm_c qw697 (qm_c qw698 (qm_c qw9 (qm_c qw699 qm_0))))) rfl (by decide +kernel) (by decide)
    · cases h
      exact qc_S hF mL_numberFor (by exact (qm_c qw715 (qm_c qw716 (qm_c qw9 (qm_c qw717 qm_0))))) rfl (by decide +kernel) (by decide)
    · cases h
      exact qc_S hF mL_message (by exact (qm_c qw718 (qm_c qw719 (qm_c qw9 (qm_c qw720 qm_0))))) rfl (by decide +kernel) (by decide)
    · cases h
  · rintro av μ ⟨x1, x2, x3, x4, x5, x6, x7, x8, x9, rfl, hp⟩
    exact Nat.le_of_ble_eq_true rfl
  · rintro av μ ⟨x1, x2, x3, x4, x5, x6, x7, x8, x9, rfl, hp⟩
    have h := xL_receive x1 x2 x3 x4 x5 x6 x7 x8 x9 μ hp
    rw [← sg_saaaaaaaai_i_R (P := PL_receive)] at h
    exact h
