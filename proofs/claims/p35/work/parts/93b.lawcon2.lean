/-! ===== contracts of the reading of the script and of the check (by program: wip/p35/gen/lawcon2.py) ===== -/
theorem mL_cell {l : Launch} {sc : Nat → Option (Nat × (Nat → Int32))} {b L : Nat} {xs : Nat → Int32} (hsc : sc b = some (L, xs)) (hL : L ≤ 260) : qMetZ l yL_cell cL_cell 2 (some .int) 0 0 sc (spL_cell b L xs) := by
  refine qMetZ_of (cal := fun _ => none) (fld := fun _ => none) (cst := kL) (csl := jL) (nwo := nL) false (by decide +kernel) tabL va_AOA_words.1 va_AOA_words.2 ?_ ?_ ?_
  · intro idx kd q' h p e s m args below meth c D cA B Q hF hZ hX
    cases h
  · rintro av μ ⟨x1, x2, rfl, hp⟩
    exact Nat.le_of_ble_eq_true rfl
  · rintro av μ ⟨x1, x2, rfl, hp⟩
    have h := xL_cell hsc hL x1 x2 μ hp
    rw [← sg_sai_i_R (P := PL_cell b)] at h
    exact h
theorem mL_isSo {l : Launch} (hl : l.stackTraces = false) : qMetZ l yL_isSo cL_isSo 17 (some .boolean) 8 128 (fun _ => none) spL_isSo := by
  refine qMetZ_of (cal := calL_isSo) (fld := fL) (cst := kL) (csl := jL) (nwo := nL) true (by decide +kernel) tabL va_AOA_words.1 va_AOA_words.2 ?_ ?_ ?_
  · intro idx kd q' h p e s m args below meth c D cA B Q hF hZ hX
    unfold calL_isSo at h
    split at h
    · cases h
      exact qc_S hF mL_part (by exact (qm_c (qT_in (List.mem_of_getElem? (i := 683) (by decide +kernel)) (by decide +kernel)) (qm_c (qT_in (List.mem_of_getElem? (i := 684) (by decide +kernel)) (by decide +kernel)) (qm_c (qT_in (List.mem_of_getElem? (i := 9) (by decide +kernel)) (by decide +kernel)) (qm_c (qT_in (List.mem_of_getElem? (i := 685) (by decide +kernel)) (by decide +kernel)) qm_0))))) rfl (by decide +kernel) (by decide)
    · cases h
      exact qc_S hF mL_numberFor (by exact (qm_c (qT_in (List.mem_of_getElem? (i := 715) (by decide +kernel)) (by decide +kernel)) (qm_c (qT_in (List.mem_of_getElem? (i := 716) (by decide +kernel)) (by decide +kernel)) (qm_c (qT_in (List.mem_of_getElem? (i := 9) (by decide +kernel)) (by decide +kernel)) (qm_c (qT_in (List.mem_of_getElem? (i := 717) (by decide +kernel)) (by decide +kernel)) qm_0))))) rfl (by decide +kernel) (by decide)
    · cases h
      exact qc_V (C := RX8) (T := TX8) (N := 5) hF mX8_highest (by exact (qm_c (qT_in (List.mem_of_getElem? (i := 724) (by decide +kernel)) (by decide +kernel)) (qm_c (qT_in (List.mem_of_getElem? (i := 725) (by decide +kernel)) (by decide +kernel)) (qm_c (qT_in (List.mem_of_getElem? (i := 726) (by decide +kernel)) (by decide +kernel)) (qm_c (qT_in (List.mem_of_getElem? (i := 10) (by decide +kernel)) (by decide +kernel)) (qm_c (qT_in (List.mem_of_getElem? (i := 727) (by decide +kernel)) (by decide +kernel)) qm_0)))))) rfl (by decide +kernel) (by decide) sg_r_i_recv
    · cases h
      exact qc_V (C := RX8) (T := TX8) (N := 5) hF mX8_lateness (by exact (qm_c (qT_in (List.mem_of_getElem? (i := 728) (by decide +kernel)) (by decide +kernel)) (qm_c (qT_in (List.mem_of_getElem? (i := 729) (by decide +kernel)) (by decide +kernel)) (qm_c (qT_in (List.mem_of_getElem? (i := 730) (by decide +kernel)) (by decide +kernel)) (qm_c (qT_in (List.mem_of_getElem? (i := 10) (by decide +kernel)) (by decide +kernel)) (qm_c (qT_in (List.mem_of_getElem? (i := 731) (by decide +kernel)) (by decide +kernel)) qm_0)))))) rfl (by decide +kernel) (by decide) sg_r_i_recv
    · cases h
      exact qc_V (C := RX8) (T := TX8) (N := 5) hF mX8_saved (by exact (qm_c (qT_in (List.mem_of_getElem? (i := 732) (by decide +kernel)) (by decide +kernel)) (qm_c (qT_in (List.mem_of_getElem? (i := 733) (by decide +kernel)) (by decide +kernel)) (qm_c (qT_in (List.mem_of_getElem? (i := 734) (by decide +kernel)) (by decide +kernel)) (qm_c (qT_in (List.mem_of_getElem? (i := 10) (by decide +kernel)) (by decide +kernel)) (qm_c (qT_in (List.mem_of_getElem? (i := 735) (by decide +kernel)) (by decide +kernel)) qm_0)))))) rfl (by decide +kernel) (by decide) sg_r_i_recv
    · cases h
      exact qc_V (C := RX8) (T := TX8) (N := 5) hF mX8_waiting (by exact (qm_c (qT_in (List.mem_of_getElem? (i := 740) (by decide +kernel)) (by decide +kernel)) (qm_c (qT_in (List.mem_of_getElem? (i := 741) (by decide +kernel)) (by decide +kernel)) (qm_c (qT_in (List.mem_of_getElem? (i := 742) (by decide +kernel)) (by decide +kernel)) (qm_c (qT_in (List.mem_of_getElem? (i := 10) (by decide +kernel)) (by decide +kernel)) (qm_c (qT_in (List.mem_of_getElem? (i := 743) (by decide +kernel)) (by decide +kernel)) qm_0)))))) rfl (by decide +kernel) (by decide) sg_ri_i_recv
    · cases h
      exact qc_SH hF hZ (mL_countOf hl) (by exact (qm_c (qT_in (List.mem_of_getElem? (i := 748) (by decide +kernel)) (by decide +kernel)) (qm_c (qT_in (List.mem_of_getElem? (i := 749) (by decide +kernel)) (by decide +kernel)) (qm_c (qT_in (List.mem_of_getElem? (i := 9) (by decide +kernel)) (by decide +kernel)) (qm_c (qT_in (List.mem_of_getElem? (i := 750) (by decide +kernel)) (by decide +kernel)) qm_0))))) rfl (by decide +kernel) (by decide)
    · cases h
      exact qc_V (C := RX8) (T := TX8) (N := 5) hF mX8_meanSize (by exact (qm_c (qT_in (List.mem_of_getElem? (i := 761) (by decide +kernel)) (by decide +kernel)) (qm_c (qT_in (List.mem_of_getElem? (i := 762) (by decide +kernel)) (by decide +kernel)) (qm_c (qT_in (List.mem_of_getElem? (i := 763) (by decide +kernel)) (by decide +kernel)) (qm_c (qT_in (List.mem_of_getElem? (i := 10) (by decide +kernel)) (by decide +kernel)) (qm_c (qT_in (List.mem_of_getElem? (i := 764) (by decide +kernel)) (by decide +kernel)) qm_0)))))) rfl (by decide +kernel) (by decide) sg_r_d_recv
    · cases h
      exact qc_SH hF hZ (mL_waits hl) (by exact (qm_c (qT_in (List.mem_of_getElem? (i := 765) (by decide +kernel)) (by decide +kernel)) (qm_c (qT_in (List.mem_of_getElem? (i := 766) (by decide +kernel)) (by decide +kernel)) (qm_c (qT_in (List.mem_of_getElem? (i := 9) (by decide +kernel)) (by decide +kernel)) (qm_c (qT_in (List.mem_of_getElem? (i := 767) (by decide +kernel)) (by decide +kernel)) qm_0))))) rfl (by decide +kernel) (by decide)
    · cases h
      exact qc_SH hF hZ (mL_recordOf hl) (by exact (qm_c (qT_in (List.mem_of_getElem? (i := 773) (by decide +kernel)) (by decide +kernel)) (qm_c (qT_in (List.mem_of_getElem? (i := 774) (by decide +kernel)) (by decide +kernel)) (qm_c (qT_in (List.mem_of_getElem? (i := 9) (by decide +kernel)) (by decide +kernel)) (qm_c (qT_in (List.mem_of_getElem? (i := 775) (by decide +kernel)) (by decide +kernel)) qm_0))))) rfl (by decide +kernel) (by decide)
    · cases h
      exact qc_S hF mL_low (by exact (qm_c (qT_in (List.mem_of_getElem? (i := 413) (by decide +kernel)) (by decide +kernel)) (qm_c (qT_in (List.mem_of_getElem? (i := 414) (by decide +kernel)) (by decide +kernel)) (qm_c (qT_in (List.mem_of_getElem? (i := 9) (by decide +kernel)) (by decide +kernel)) (qm_c (qT_in (List.mem_of_getElem? (i := 415) (by decide +kernel)) (by decide +kernel)) qm_0))))) rfl (by decide +kernel) (by decide)
    · cases h
      exact qc_SH hF hZ (mL_sentOf hl) (by exact (qm_c (qT_in (List.mem_of_getElem? (i := 787) (by decide +kernel)) (by decide +kernel)) (qm_c (qT_in (List.mem_of_getElem? (i := 788) (by decide +kernel)) (by decide +kernel)) (qm_c (qT_in (List.mem_of_getElem? (i := 9) (by decide +kernel)) (by decide +kernel)) (qm_c (qT_in (List.mem_of_getElem? (i := 789) (by decide +kernel)) (by decide +kernel)) qm_0))))) rfl (by decide +kernel) (by decide)
    · cases h
      exact qc_SH hF hZ (mL_fieldOf hl) (by exact (qm_c (qT_in (List.mem_of_getElem? (i := 799) (by decide +kernel)) (by decide +kernel)) (qm_c (qT_in (List.mem_of_getElem? (i := 800) (by decide +kernel)) (by decide +kernel)) (qm_c (qT_in (List.mem_of_getElem? (i := 9) (by decide +kernel)) (by decide +kernel)) (qm_c (qT_in (List.mem_of_getElem? (i := 801) (by decide +kernel)) (by decide +kernel)) qm_0))))) rfl (by decide +kernel) (by decide)
    · cases h
      exact qc_V (C := RX8) (T := TX8) (N := 5) hF mX8_records (by exact (qm_c (qT_in (List.mem_of_getElem? (i := 806) (by decide +kernel)) (by decide +kernel)) (qm_c (qT_in (List.mem_of_getElem? (i := 807) (by decide +kernel)) (by decide +kernel)) (qm_c (qT_in (List.mem_of_getElem? (i := 808) (by decide +kernel)) (by decide +kernel)) (qm_c (qT_in (List.mem_of_getElem? (i := 10) (by decide +kernel)) (by decide +kernel)) (qm_c (qT_in (List.mem_of_getElem? (i := 809) (by decide +kernel)) (by decide +kernel)) qm_0)))))) rfl (by decide +kernel) (by decide) sg_r_i_recv
    · cases h
      exact qc_SH hF hZ (mL_numberOf hl) (by exact (qm_c (qT_in (List.mem_of_getElem? (i := 814) (by decide +kernel)) (by decide +kernel)) (qm_c (qT_in (List.mem_of_getElem? (i := 815) (by decide +kernel)) (by decide +kernel)) (qm_c (qT_in (List.mem_of_getElem? (i := 9) (by decide +kernel)) (by decide +kernel)) (qm_c (qT_in (List.mem_of_getElem? (i := 816) (by decide +kernel)) (by decide +kernel)) qm_0))))) rfl (by decide +kernel) (by decide)
    · cases h
  · rintro av μ ⟨x1, x2, x3, x4, x5, x6, x7, x8, x9, x10, x11, rfl, hp⟩
    exact Nat.le_of_ble_eq_true rfl
  · rintro av μ ⟨x1, x2, x3, x4, x5, x6, x7, x8, x9, x10, x11, rfl, hp⟩
    have h := xL_isSo x1 x2 x3 x4 x5 x6 x7 x8 x9 x10 x11 μ hp
    rw [← sg_saaaajaaaaai_i_R (P := PL_isSo)] at h
    exact h
