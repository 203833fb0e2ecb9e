/-! ===== contracts of the helpers that catch (by program) ===== -/
theorem hokL_sets : ∀ E h, hndL_sets E = some h → qHnd (tableOf [(0, 6, 7, 15), (0, 6, 11, 18)]) "HeaderSqueezerLaw" 3 E h := by
  intro E h z
  unfold hndL_sets at z
  split at z
  · rename_i g
    cases z
    subst g
    exact ⟨[], ⟨0, 6, 7, 15⟩, [⟨0, 6, 11, 18⟩], rfl, rfl, by decide, by decide, qT_in (List.mem_of_getElem? (i := 420) (by decide +kernel)) (by decide +kernel), by decide, fun z h => nomatch h⟩
  · split at z
    · rename_i g
      cases z
      subst g
      exact ⟨[⟨0, 6, 7, 15⟩], ⟨0, 6, 11, 18⟩, [], rfl, rfl, by decide, by decide, qT_in (List.mem_of_getElem? (i := 421) (by decide +kernel)) (by decide +kernel), by decide, fun z h => by
        rw [List.mem_singleton.mp h]
        exact ⟨by decide, eI, qT_in (List.mem_of_getElem? (i := 420) (by decide +kernel)) (by decide +kernel), by decide⟩⟩
    · cases z
theorem mL_sets {l : Launch} (hl : l.stackTraces = false) : qMetH l yL_sets cL_sets 4 [(0, 6, 7, 15), (0, 6, 11, 18)] 7 154 spL_sets := by
  refine qMetHk_of (p0 := 3) (f := FL_sets) (cst := kL) false (by decide +kernel) tabL.2.1 va_AOA_words.1 va_AOA_words.2 ?_ ?_ ?_
  · intro p e s m args below meth c D cA B Q lo' lj st μ cs hF hZ htb h
    exact qc_VX (C := RX8) (T := TX8) (N := 5) hF hZ htb hokL_sets (mX8_setField hl) (by exact (qm_c (qT_in (List.mem_of_getElem? (i := 422) (by decide +kernel)) (by decide +kernel)) (qm_c (qT_in (List.mem_of_getElem? (i := 423) (by decide +kernel)) (by decide +kernel)) (qm_c (qT_in (List.mem_of_getElem? (i := 424) (by decide +kernel)) (by decide +kernel)) (qm_c (qT_in (List.mem_of_getElem? (i := 10) (by decide +kernel)) (by decide +kernel)) (qm_c (qT_in (List.mem_of_getElem? (i := 425) (by decide +kernel)) (by decide +kernel)) qm_0)))))) rfl (by decide +kernel) (by decide) sg_rii_i_recv dL_sets_3 h
  · rintro av μ ⟨x1, x2, x3, rfl, hp⟩
    exact Nat.le_of_ble_eq_true rfl
  · rintro av μ ⟨x1, x2, x3, rfl, hp⟩
    have h := xL_sets x1 x2 x3 μ hp
    rw [← sg_saii_i_R (P := PL_sets)] at h
    exact h
theorem hokL_strides : ∀ E h, hndL_strides E = some h → qHnd (tableOf [(0, 6, 7, 18)]) "HeaderSqueezerLaw" 3 E h := by
  intro E h z
  unfold hndL_strides at z
  split at z
  · rename_i g
    cases z
    subst g
    exact ⟨[], ⟨0, 6, 7, 18⟩, [], rfl, rfl, by decide, by decide, qT_in (List.mem_of_getElem? (i := 421) (by decide +kernel)) (by decide +kernel), by decide, fun z h => nomatch h⟩
  · cases z
theorem mL_strides {l : Launch} (hl : l.stackTraces = false) : qMetH l yL_strides cL_strides 4 [(0, 6, 7, 18)] 7 154 spL_strides := by
  refine qMetHk_of (p0 := 3) (f := FL_strides) (cst := kL) false (by decide +kernel) tabL.2.1 va_AOA_words.1 va_AOA_words.2 ?_ ?_ ?_
  · intro p e s m args below meth c D cA B Q lo' lj st μ cs hF hZ htb h
    exact qc_VX (C := RX8) (T := TX8) (N := 5) hF hZ htb hokL_strides (mX8_setStrides hl) (by exact (qm_c (qT_in (List.mem_of_getElem? (i := 522) (by decide +kernel)) (by decide +kernel)) (qm_c (qT_in (List.mem_of_getElem? (i := 523) (by decide +kernel)) (by decide +kernel)) (qm_c (qT_in (List.mem_of_getElem? (i := 524) (by decide +kernel)) (by decide +kernel)) (qm_c (qT_in (List.mem_of_getElem? (i := 10) (by decide +kernel)) (by decide +kernel)) (qm_c (qT_in (List.mem_of_getElem? (i := 525) (by decide +kernel)) (by decide +kernel)) qm_0)))))) rfl (by decide +kernel) (by decide) sg_rii_i_recv dL_strides_3 h
  · rintro av μ ⟨x1, x2, x3, rfl, hp⟩
    exact Nat.le_of_ble_eq_true rfl
  · rintro av μ ⟨x1, x2, x3, rfl, hp⟩
    have h := xL_strides x1 x2 x3 μ hp
    rw [← sg_saii_i_R (P := PL_strides)] at h
    exact h
theorem hokL_policies : ∀ E h, hndL_policies E = some h → qHnd (tableOf [(0, 6, 7, 18)]) "HeaderSqueezerLaw" 3 E h := by
  intro E h z
  unfold hndL_policies at z
  split at z
  · rename_i g
    cases z
    subst g
    exact ⟨[], ⟨0, 6, 7, 18⟩, [], rfl, rfl, by decide, by decide, qT_in (List.mem_of_getElem? (i := 421) (by decide +kernel)) (by decide +kernel), by decide, fun z h => nomatch h⟩
  · cases z
theorem mL_policies {l : Launch} (hl : l.stackTraces = false) : qMetH l yL_policies cL_policies 4 [(0, 6, 7, 18)] 7 154 spL_policies := by
  refine qMetHk_of (p0 := 3) (f := FL_policies) (cst := kL) false (by decide +kernel) tabL.2.1 va_AOA_words.1 va_AOA_words.2 ?_ ?_ ?_
  · intro p e s m args below meth c D cA B Q lo' lj st μ cs hF hZ htb h
    exact qc_VX (C := RX8) (T := TX8) (N := 5) hF hZ htb hokL_policies (mX8_setPolicy hl) (by exact (qm_c (qT_in (List.mem_of_getElem? (i := 530) (by decide +kernel)) (by decide +kernel)) (qm_c (qT_in (List.mem_of_getElem? (i := 531) (by decide +kernel)) (by decide +kernel)) (qm_c (qT_in (List.mem_of_getElem? (i := 532) (by decide +kernel)) (by decide +kernel)) (qm_c (qT_in (List.mem_of_getElem? (i := 10) (by decide +kernel)) (by decide +kernel)) (qm_c (qT_in (List.mem_of_getElem? (i := 533) (by decide +kernel)) (by decide +kernel)) qm_0)))))) rfl (by decide +kernel) (by decide) sg_rii_i_recv dL_policies_3 h
  · rintro av μ ⟨x1, x2, x3, rfl, hp⟩
    exact Nat.le_of_ble_eq_true rfl
  · rintro av μ ⟨x1, x2, x3, rfl, hp⟩
    have h := xL_policies x1 x2 x3 μ hp
    rw [← sg_saii_i_R (P := PL_policies)] at h
    exact h
theorem hokL_sends : ∀ E h, hndL_sends E = some h → qHnd (tableOf [(0, 4, 5, 31)]) "HeaderSqueezerLaw" 1 E h := by
  intro E h z
  unfold hndL_sends at z
  split at z
  · rename_i g
    cases z
    subst g
    exact ⟨[], ⟨0, 4, 5, 31⟩, [], rfl, rfl, by decide, by decide, qT_in (List.mem_of_getElem? (i := 538) (by decide +kernel)) (by decide +kernel), by decide, fun z h => nomatch h⟩
  · cases z
theorem mL_sends {l : Launch} (hl : l.stackTraces = false) : qMetH l yL_sends cL_sends 2 [(0, 4, 5, 31)] 7 151 spL_sends := by
  refine qMetHk_of (p0 := 1) (f := FL_sends) (cst := kL) false (by decide +kernel) tabL.2.1 va_AOA_words.1 va_AOA_words.2 ?_ ?_ ?_
  · intro p e s m args below meth c D cA B Q lo' lj st μ cs hF hZ htb h
    exact qc_VX (C := RX8) (T := TX8) (N := 5) hF hZ htb hokL_sends (mX8_send hl) (by exact (qm_c (qT_in (List.mem_of_getElem? (i := 539) (by decide +kernel)) (by decide +kernel)) (qm_c (qT_in (List.mem_of_getElem? (i := 540) (by decide +kernel)) (by decide +kernel)) (qm_c (qT_in (List.mem_of_getElem? (i := 541) (by decide +kernel)) (by decide +kernel)) (qm_c (qT_in (List.mem_of_getElem? (i := 10) (by decide +kernel)) (by decide +kernel)) (qm_c (qT_in (List.mem_of_getElem? (i := 542) (by decide +kernel)) (by decide +kernel)) qm_0)))))) rfl (by decide +kernel) (by decide) sg_r_i_recv dL_sends_1 h
  · rintro av μ ⟨x1, rfl, hp⟩
    exact Nat.le_of_ble_eq_true rfl
  · rintro av μ ⟨x1, rfl, hp⟩
    have h := xL_sends x1 μ hp
    rw [← sg_sa_i_R (P := PL_sends)] at h
    exact h
theorem hokL_streams : ∀ E h, hndL_streams E = some h → qHnd (tableOf [(0, 5, 6, 18), (0, 5, 10, 31)]) "HeaderSqueezerLaw" 2 E h := by
  intro E h z
  unfold hndL_streams at z
  split at z
  · rename_i g
    cases z
    subst g
    exact ⟨[], ⟨0, 5, 6, 18⟩, [⟨0, 5, 10, 31⟩], rfl, rfl, by decide, by decide, qT_in (List.mem_of_getElem? (i := 421) (by decide +kernel)) (by decide +kernel), by decide, fun z h => nomatch h⟩
  · split at z
    · rename_i g
      cases z
      subst g
      exact ⟨[⟨0, 5, 6, 18⟩], ⟨0, 5, 10, 31⟩, [], rfl, rfl, by decide, by decide, qT_in (List.mem_of_getElem? (i := 538) (by decide +kernel)) (by decide +kernel), by decide, fun z h => by
        rw [List.mem_singleton.mp h]
        exact ⟨by decide, eA, qT_in (List.mem_of_getElem? (i := 421) (by decide +kernel)) (by decide +kernel), by decide⟩⟩
    · cases z
theorem mL_streams {l : Launch} (hl : l.stackTraces = false) : qMetH l yL_streams cL_streams 3 [(0, 5, 6, 18), (0, 5, 10, 31)] 7 153 spL_streams := by
  refine qMetHk_of (p0 := 2) (f := FL_streams) (cst := kL) false (by decide +kernel) tabL.2.1 va_AOA_words.1 va_AOA_words.2 ?_ ?_ ?_
  · intro p e s m args below meth c D cA B Q lo' lj st μ cs hF hZ htb h
    exact qc_VX (C := RX8) (T := TX8) (N := 5) hF hZ htb hokL_streams (mX8_stream hl) (by exact (qm_c (qT_in (List.mem_of_getElem? (i := 599) (by decide +kernel)) (by decide +kernel)) (qm_c (qT_in (List.mem_of_getElem? (i := 600) (by decide +kernel)) (by decide +kernel)) (qm_c (qT_in (List.mem_of_getElem? (i := 601) (by decide +kernel)) (by decide +kernel)) (qm_c (qT_in (List.mem_of_getElem? (i := 10) (by decide +kernel)) (by decide +kernel)) (qm_c (qT_in (List.mem_of_getElem? (i := 602) (by decide +kernel)) (by decide +kernel)) qm_0)))))) rfl (by decide +kernel) (by decide) sg_ri_i_recv dL_streams_2 h
  · rintro av μ ⟨x1, x2, rfl, hp⟩
    exact Nat.le_of_ble_eq_true rfl
  · rintro av μ ⟨x1, x2, rfl, hp⟩
    have h := xL_streams x1 x2 μ hp
    rw [← sg_sai_i_R (P := PL_streams)] at h
    exact h
theorem hokL_fieldOf : ∀ E h, hndL_fieldOf E = some h → qHnd (tableOf [(0, 5, 6, 15)]) "HeaderSqueezerLaw" 2 E h := by
  intro E h z
  unfold hndL_fieldOf at z
  split at z
  · rename_i g
    cases z
    subst g
    exact ⟨[], ⟨0, 5, 6, 15⟩, [], rfl, rfl, by decide, by decide, qT_in (List.mem_of_getElem? (i := 420) (by decide +kernel)) (by decide +kernel), by decide, fun z h => nomatch h⟩
  · cases z
theorem mL_fieldOf {l : Launch} (hl : l.stackTraces = false) : qMetH l yL_fieldOf cL_fieldOf 3 [(0, 5, 6, 15)] 7 103 spL_fieldOf := by
  refine qMetHk_of (p0 := 2) (f := FL_fieldOf) (cst := kL) false (by decide +kernel) tabL.2.1 va_AOA_words.1 va_AOA_words.2 ?_ ?_ ?_
  · intro p e s m args below meth c D cA B Q lo' lj st μ cs hF hZ htb h
    exact qc_VX (C := RX8) (T := TX8) (N := 5) hF hZ htb hokL_fieldOf (mX8_field hl) (by exact (qm_c (qT_in (List.mem_of_getElem? (i := 802) (by decide +kernel)) (by decide +kernel)) (qm_c (qT_in (List.mem_of_getElem? (i := 803) (by decide +kernel)) (by decide +kernel)) (qm_c (qT_in (List.mem_of_getElem? (i := 804) (by decide +kernel)) (by decide +kernel)) (qm_c (qT_in (List.mem_of_getElem? (i := 10) (by decide +kernel)) (by decide +kernel)) (qm_c (qT_in (List.mem_of_getElem? (i := 805) (by decide +kernel)) (by decide +kernel)) qm_0)))))) rfl (by decide +kernel) (by decide) sg_ri_i_recv dL_fieldOf_2 h
  · rintro av μ ⟨x1, x2, rfl, hp⟩
    exact Nat.le_of_ble_eq_true rfl
  · rintro av μ ⟨x1, x2, rfl, hp⟩
    have h := xL_fieldOf x1 x2 μ hp
    rw [← sg_sai_i_R (P := PL_fieldOf)] at h
    exact h
theorem hokL_sizeBy : ∀ E h, hndL_sizeBy E = some h → qHnd (tableOf [(0, 6, 7, 18)]) "HeaderSqueezerLaw" 3 E h := by
  intro E h z
  unfold hndL_sizeBy at z
  split at z
  · rename_i g
    cases z
    subst g
    exact ⟨[], ⟨0, 6, 7, 18⟩, [], rfl, rfl, by decide, by decide, qT_in (List.mem_of_getElem? (i := 421) (by decide +kernel)) (by decide +kernel), by decide, fun z h => nomatch h⟩
  · cases z
theorem mL_sizeBy {l : Launch} (hl : l.stackTraces = false) : qMetH l yL_sizeBy cL_sizeBy 4 [(0, 6, 7, 18)] 7 107 spL_sizeBy := by
  refine qMetHk_of (p0 := 3) (f := FL_sizeBy) (cst := kL) false (by decide +kernel) tabL.2.1 va_AOA_words.1 va_AOA_words.2 ?_ ?_ ?_
  · intro p e s m args below meth c D cA B Q lo' lj st μ cs hF hZ htb h
    exact qc_VX (C := RX8) (T := TX8) (N := 5) hF hZ htb hokL_sizeBy (mX8_sizeWith hl) (by exact (qm_c (qT_in (List.mem_of_getElem? (i := 608) (by decide +kernel)) (by decide +kernel)) (qm_c (qT_in (List.mem_of_getElem? (i := 609) (by decide +kernel)) (by decide +kernel)) (qm_c (qT_in (List.mem_of_getElem? (i := 610) (by decide +kernel)) (by decide +kernel)) (qm_c (qT_in (List.mem_of_getElem? (i := 10) (by decide +kernel)) (by decide +kernel)) (qm_c (qT_in (List.mem_of_getElem? (i := 611) (by decide +kernel)) (by decide +kernel)) qm_0)))))) rfl (by decide +kernel) (by decide) sg_rii_i_recv dL_sizeBy_3 h
  · rintro av μ ⟨x1, x2, x3, rfl, hp⟩
    exact Nat.le_of_ble_eq_true rfl
  · rintro av μ ⟨x1, x2, x3, rfl, hp⟩
    have h := xL_sizeBy x1 x2 x3 μ hp
    rw [← sg_saii_i_R (P := PL_sizeBy)] at h
    exact h
theorem hokL_sentOf : ∀ E h, hndL_sentOf E = some h → qHnd (tableOf [(0, 6, 7, 15), (0, 6, 11, 18)]) "HeaderSqueezerLaw" 3 E h := by
  intro E h z
  unfold hndL_sentOf at z
  split at z
  · rename_i g
    cases z
    subst g
    exact ⟨[], ⟨0, 6, 7, 15⟩, [⟨0, 6, 11, 18⟩], rfl, rfl, by decide, by decide, qT_in (List.mem_of_getElem? (i := 420) (by decide +kernel)) (by decide +kernel), by decide, fun z h => nomatch h⟩
  · split at z
    · rename_i g
      cases z
      subst g
      exact ⟨[⟨0, 6, 7, 15⟩], ⟨0, 6, 11, 18⟩, [], rfl, rfl, by decide, by decide, qT_in (List.mem_of_getElem? (i := 421) (by decide +kernel)) (by decide +kernel), by decide, fun z h => by
        rw [List.mem_singleton.mp h]
        exact ⟨by decide, eI, qT_in (List.mem_of_getElem? (i := 420) (by decide +kernel)) (by decide +kernel), by decide⟩⟩
    · cases z
theorem mL_sentOf {l : Launch} (hl : l.stackTraces = false) : qMetH l yL_sentOf cL_sentOf 4 [(0, 6, 7, 15), (0, 6, 11, 18)] 7 104 spL_sentOf := by
  refine qMetHk_of (p0 := 3) (f := FL_sentOf) (cst := kL) false (by decide +kernel) tabL.2.1 va_AOA_words.1 va_AOA_words.2 ?_ ?_ ?_
  · intro p e s m args below meth c D cA B Q lo' lj st μ cs hF hZ htb h
    exact qc_VX (C := RX8) (T := TX8) (N := 5) hF hZ htb hokL_sentOf (mX8_sent hl) (by exact (qm_c (qT_in (List.mem_of_getElem? (i := 790) (by decide +kernel)) (by decide +kernel)) (qm_c (qT_in (List.mem_of_getElem? (i := 791) (by decide +kernel)) (by decide +kernel)) (qm_c (qT_in (List.mem_of_getElem? (i := 792) (by decide +kernel)) (by decide +kernel)) (qm_c (qT_in (List.mem_of_getElem? (i := 10) (by decide +kernel)) (by decide +kernel)) (qm_c (qT_in (List.mem_of_getElem? (i := 793) (by decide +kernel)) (by decide +kernel)) qm_0)))))) rfl (by decide +kernel) (by decide) sg_rii_i_recv dL_sentOf_3 h
  · rintro av μ ⟨x1, x2, x3, rfl, hp⟩
    exact Nat.le_of_ble_eq_true rfl
  · rintro av μ ⟨x1, x2, x3, rfl, hp⟩
    have h := xL_sentOf x1 x2 x3 μ hp
    rw [← sg_saii_i_R (P := PL_sentOf)] at h
    exact h
theorem hokL_delivers : ∀ E h, hndL_delivers E = some h → qHnd (tableOf [(0, 5, 6, 15)]) "HeaderSqueezerLaw" 2 E h := by
  intro E h z
  unfold hndL_delivers at z
  split at z
  · rename_i g
    cases z
    subst g
    exact ⟨[], ⟨0, 5, 6, 15⟩, [], rfl, rfl, by decide, by decide, qT_in (List.mem_of_getElem? (i := 420) (by decide +kernel)) (by decide +kernel), by decide, fun z h => nomatch h⟩
  · cases z
theorem mL_delivers {l : Launch} (hl : l.stackTraces = false) : qMetH l yL_delivers cL_delivers 3 [(0, 5, 6, 15)] 7 158 spL_delivers := by
  refine qMetHk_of (p0 := 2) (f := FL_delivers) (cst := kL) false (by decide +kernel) tabL.2.1 va_AOA_words.1 va_AOA_words.2 ?_ ?_ ?_
  · intro p e s m args below meth c D cA B Q lo' lj st μ cs hF hZ htb h
    exact qc_VX (C := RX8) (T := TX8) (N := 5) hF hZ htb hokL_delivers (mX8_deliver hl) (by exact (qm_c (qT_in (List.mem_of_getElem? (i := 617) (by decide +kernel)) (by decide +kernel)) (qm_c (qT_in (List.mem_of_getElem? (i := 618) (by decide +kernel)) (by decide +kernel)) (qm_c (qT_in (List.mem_of_getElem? (i := 619) (by decide +kernel)) (by decide +kernel)) (qm_c (qT_in (List.mem_of_getElem? (i := 10) (by decide +kernel)) (by decide +kernel)) (qm_c (qT_in (List.mem_of_getElem? (i := 620) (by decide +kernel)) (by decide +kernel)) qm_0)))))) rfl (by decide +kernel) (by decide) sg_ri_i_recv dL_delivers_2 h
  · rintro av μ ⟨x1, x2, rfl, hp⟩
    exact Nat.le_of_ble_eq_true rfl
  · rintro av μ ⟨x1, x2, rfl, hp⟩
    have h := xL_delivers x1 x2 μ hp
    rw [← sg_sai_i_R (P := PL_delivers)] at h
    exact h
theorem hokL_loses : ∀ E h, hndL_loses E = some h → qHnd (tableOf [(0, 5, 6, 15)]) "HeaderSqueezerLaw" 2 E h := by
  intro E h z
  unfold hndL_loses at z
  split at z
  · rename_i g
    cases z
    subst g
    exact ⟨[], ⟨0, 5, 6, 15⟩, [], rfl, rfl, by decide, by decide, qT_in (List.mem_of_getElem? (i := 420) (by decide +kernel)) (by decide +kernel), by decide, fun z h => nomatch h⟩
  · cases z
theorem mL_loses {l : Launch} (hl : l.stackTraces = false) : qMetH l yL_loses cL_loses 3 [(0, 5, 6, 15)] 7 152 spL_loses := by
  refine qMetHk_of (p0 := 2) (f := FL_loses) (cst := kL) false (by decide +kernel) tabL.2.1 va_AOA_words.1 va_AOA_words.2 ?_ ?_ ?_
  · intro p e s m args below meth c D cA B Q lo' lj st μ cs hF hZ htb h
    exact qc_VX (C := RX8) (T := TX8) (N := 5) hF hZ htb hokL_loses (mX8_lose hl) (by exact (qm_c (qT_in (List.mem_of_getElem? (i := 630) (by decide +kernel)) (by decide +kernel)) (qm_c (qT_in (List.mem_of_getElem? (i := 631) (by decide +kernel)) (by decide +kernel)) (qm_c (qT_in (List.mem_of_getElem? (i := 632) (by decide +kernel)) (by decide +kernel)) (qm_c (qT_in (List.mem_of_getElem? (i := 10) (by decide +kernel)) (by decide +kernel)) (qm_c (qT_in (List.mem_of_getElem? (i := 633) (by decide +kernel)) (by decide +kernel)) qm_0)))))) rfl (by decide +kernel) (by decide) sg_ri_i_recv dL_loses_2 h
  · rintro av μ ⟨x1, x2, rfl, hp⟩
    exact Nat.le_of_ble_eq_true rfl
  · rintro av μ ⟨x1, x2, rfl, hp⟩
    have h := xL_loses x1 x2 μ hp
    rw [← sg_sai_i_R (P := PL_loses)] at h
    exact h
theorem hokL_copies : ∀ E h, hndL_copies E = some h → qHnd (tableOf [(0, 5, 6, 15), (0, 5, 10, 31)]) "HeaderSqueezerLaw" 2 E h := by
  intro E h z
  unfold hndL_copies at z
  split at z
  · rename_i g
    cases z
    subst g
    exact ⟨[], ⟨0, 5, 6, 15⟩, [⟨0, 5, 10, 31⟩], rfl, rfl, by decide, by decide, qT_in (List.mem_of_getElem? (i := 420) (by decide +kernel)) (by decide +kernel), by decide, fun z h => nomatch h⟩
  · split at z
    · rename_i g
      cases z
      subst g
      exact ⟨[⟨0, 5, 6, 15⟩], ⟨0, 5, 10, 31⟩, [], rfl, rfl, by decide, by decide, qT_in (List.mem_of_getElem? (i := 538) (by decide +kernel)) (by decide +kernel), by decide, fun z h => by
        rw [List.mem_singleton.mp h]
        exact ⟨by decide, eI, qT_in (List.mem_of_getElem? (i := 420) (by decide +kernel)) (by decide +kernel), by decide⟩⟩
    · cases z
theorem mL_copies {l : Launch} (hl : l.stackTraces = false) : qMetH l yL_copies cL_copies 3 [(0, 5, 6, 15), (0, 5, 10, 31)] 7 152 spL_copies := by
  refine qMetHk_of (p0 := 2) (f := FL_copies) (cst := kL) false (by decide +kernel) tabL.2.1 va_AOA_words.1 va_AOA_words.2 ?_ ?_ ?_
  · intro p e s m args below meth c D cA B Q lo' lj st μ cs hF hZ htb h
    exact qc_VX (C := RX8) (T := TX8) (N := 5) hF hZ htb hokL_copies (mX8_copy hl) (by exact (qm_c (qT_in (List.mem_of_getElem? (i := 638) (by decide +kernel)) (by decide +kernel)) (qm_c (qT_in (List.mem_of_getElem? (i := 639) (by decide +kernel)) (by decide +kernel)) (qm_c (qT_in (List.mem_of_getElem? (i := 640) (by decide +kernel)) (by decide +kernel)) (qm_c (qT_in (List.mem_of_getElem? (i := 10) (by decide +kernel)) (by decide +kernel)) (qm_c (qT_in (List.mem_of_getElem? (i := 641) (by decide +kernel)) (by decide +kernel)) qm_0)))))) rfl (by decide +kernel) (by decide) sg_ri_i_recv dL_copies_2 h
  · rintro av μ ⟨x1, x2, rfl, hp⟩
    exact Nat.le_of_ble_eq_true rfl
  · rintro av μ ⟨x1, x2, rfl, hp⟩
    have h := xL_copies x1 x2 μ hp
    rw [← sg_sai_i_R (P := PL_copies)] at h
    exact h
theorem hokL_returns : ∀ E h, hndL_returns E = some h → qHnd (tableOf [(0, 5, 6, 15)]) "HeaderSqueezerLaw" 2 E h := by
  intro E h z
  unfold hndL_returns at z
  split at z
  · rename_i g
    cases z
    subst g
    exact ⟨[], ⟨0, 5, 6, 15⟩, [], rfl, rfl, by decide, by decide, qT_in (List.mem_of_getElem? (i := 420) (by decide +kernel)) (by decide +kernel), by decide, fun z h => nomatch h⟩
  · cases z
theorem mL_returns {l : Launch} (hl : l.stackTraces = false) : qMetH l yL_returns cL_returns 3 [(0, 5, 6, 15)] 7 152 spL_returns := by
  refine qMetHk_of (p0 := 2) (f := FL_returns) (cst := kL) false (by decide +kernel) tabL.2.1 va_AOA_words.1 va_AOA_words.2 ?_ ?_ ?_
  · intro p e s m args below meth c D cA B Q lo' lj st μ cs hF hZ htb h
    exact qc_VX (C := RX8) (T := TX8) (N := 5) hF hZ htb hokL_returns (mX8_deliverBack hl) (by exact (qm_c (qT_in (List.mem_of_getElem? (i := 648) (by decide +kernel)) (by decide +kernel)) (qm_c (qT_in (List.mem_of_getElem? (i := 649) (by decide +kernel)) (by decide +kernel)) (qm_c (qT_in (List.mem_of_getElem? (i := 650) (by decide +kernel)) (by decide +kernel)) (qm_c (qT_in (List.mem_of_getElem? (i := 10) (by decide +kernel)) (by decide +kernel)) (qm_c (qT_in (List.mem_of_getElem? (i := 651) (by decide +kernel)) (by decide +kernel)) qm_0)))))) rfl (by decide +kernel) (by decide) sg_ri_i_recv dL_returns_2 h
  · rintro av μ ⟨x1, x2, rfl, hp⟩
    exact Nat.le_of_ble_eq_true rfl
  · rintro av μ ⟨x1, x2, rfl, hp⟩
    have h := xL_returns x1 x2 μ hp
    rw [← sg_sai_i_R (P := PL_returns)] at h
    exact h
theorem hokL_losesBack : ∀ E h, hndL_losesBack E = some h → qHnd (tableOf [(0, 5, 6, 15)]) "HeaderSqueezerLaw" 2 E h := by
  intro E h z
  unfold hndL_losesBack at z
  split at z
  · rename_i g
    cases z
    subst g
    exact ⟨[], ⟨0, 5, 6, 15⟩, [], rfl, rfl, by decide, by decide, qT_in (List.mem_of_getElem? (i := 420) (by decide +kernel)) (by decide +kernel), by decide, fun z h => nomatch h⟩
  · cases z
theorem mL_losesBack {l : Launch} (hl : l.stackTraces = false) : qMetH l yL_losesBack cL_losesBack 3 [(0, 5, 6, 15)] 7 152 spL_losesBack := by
  refine qMetHk_of (p0 := 2) (f := FL_losesBack) (cst := kL) false (by decide +kernel) tabL.2.1 va_AOA_words.1 va_AOA_words.2 ?_ ?_ ?_
  · intro p e s m args below meth c D cA B Q lo' lj st μ cs hF hZ htb h
    exact qc_VX (C := RX8) (T := TX8) (N := 5) hF hZ htb hokL_losesBack (mX8_loseBack hl) (by exact (qm_c (qT_in (List.mem_of_getElem? (i := 665) (by decide +kernel)) (by decide +kernel)) (qm_c (qT_in (List.mem_of_getElem? (i := 666) (by decide +kernel)) (by decide +kernel)) (qm_c (qT_in (List.mem_of_getElem? (i := 667) (by decide +kernel)) (by decide +kernel)) (qm_c (qT_in (List.mem_of_getElem? (i := 10) (by decide +kernel)) (by decide +kernel)) (qm_c (qT_in (List.mem_of_getElem? (i := 668) (by decide +kernel)) (by decide +kernel)) qm_0)))))) rfl (by decide +kernel) (by decide) sg_ri_i_recv dL_losesBack_2 h
  · rintro av μ ⟨x1, x2, rfl, hp⟩
    exact Nat.le_of_ble_eq_true rfl
  · rintro av μ ⟨x1, x2, rfl, hp⟩
    have h := xL_losesBack x1 x2 μ hp
    rw [← sg_sai_i_R (P := PL_losesBack)] at h
    exact h
theorem hokL_waits : ∀ E h, hndL_waits E = some h → qHnd (tableOf [(0, 6, 7, 15)]) "HeaderSqueezerLaw" 3 E h := by
  intro E h z
  unfold hndL_waits at z
  split at z
  · rename_i g
    cases z
    subst g
    exact ⟨[], ⟨0, 6, 7, 15⟩, [], rfl, rfl, by decide, by decide, qT_in (List.mem_of_getElem? (i := 420) (by decide +kernel)) (by decide +kernel), by decide, fun z h => nomatch h⟩
  · cases z
theorem mL_waits {l : Launch} (hl : l.stackTraces = false) : qMetH l yL_waits cL_waits 4 [(0, 6, 7, 15)] 7 105 spL_waits := by
  refine qMetHk_of (p0 := 3) (f := FL_waits) (cst := kL) false (by decide +kernel) tabL.2.1 va_AOA_words.1 va_AOA_words.2 ?_ ?_ ?_
  · intro p e s m args below meth c D cA B Q lo' lj st μ cs hF hZ htb h
    exact qc_VX (C := RX8) (T := TX8) (N := 5) hF hZ htb hokL_waits (mX8_waitingAt hl) (by exact (qm_c (qT_in (List.mem_of_getElem? (i := 768) (by decide +kernel)) (by decide +kernel)) (qm_c (qT_in (List.mem_of_getElem? (i := 769) (by decide +kernel)) (by decide +kernel)) (qm_c (qT_in (List.mem_of_getElem? (i := 770) (by decide +kernel)) (by decide +kernel)) (qm_c (qT_in (List.mem_of_getElem? (i := 10) (by decide +kernel)) (by decide +kernel)) (qm_c (qT_in (List.mem_of_getElem? (i := 771) (by decide +kernel)) (by decide +kernel)) qm_0)))))) rfl (by decide +kernel) (by decide) sg_rii_i_recv dL_waits_3 h
  · rintro av μ ⟨x1, x2, x3, rfl, hp⟩
    exact Nat.le_of_ble_eq_true rfl
  · rintro av μ ⟨x1, x2, x3, rfl, hp⟩
    have h := xL_waits x1 x2 x3 μ hp
    rw [← sg_saii_i_R (P := PL_waits)] at h
    exact h
theorem hokL_receivers : ∀ E h, hndL_receivers E = some h → qHnd (tableOf [(0, 7, 8, 18)]) "HeaderSqueezerLaw" 4 E h := by
  intro E h z
  unfold hndL_receivers at z
  split at z
  · rename_i g
    cases z
    subst g
    exact ⟨[], ⟨0, 7, 8, 18⟩, [], rfl, rfl, by decide, by decide, qT_in (List.mem_of_getElem? (i := 421) (by decide +kernel)) (by decide +kernel), by decide, fun z h => nomatch h⟩
  · cases z
theorem mL_receivers {l : Launch} (hl : l.stackTraces = false) : qMetH l yL_receivers cL_receivers 5 [(0, 7, 8, 18)] 7 155 spL_receivers := by
  refine qMetHk_of (p0 := 4) (f := FL_receivers) (cst := kL) false (by decide +kernel) tabL.2.1 va_AOA_words.1 va_AOA_words.2 ?_ ?_ ?_
  · intro p e s m args below meth c D cA B Q lo' lj st μ cs hF hZ htb h
    exact qc_VX (C := RX8) (T := TX8) (N := 5) hF hZ htb hokL_receivers (mX8_setReceiver hl) (by exact (qm_c (qT_in (List.mem_of_getElem? (i := 672) (by decide +kernel)) (by decide +kernel)) (qm_c (qT_in (List.mem_of_getElem? (i := 673) (by decide +kernel)) (by decide +kernel)) (qm_c (qT_in (List.mem_of_getElem? (i := 674) (by decide +kernel)) (by decide +kernel)) (qm_c (qT_in (List.mem_of_getElem? (i := 10) (by decide +kernel)) (by decide +kernel)) (qm_c (qT_in (List.mem_of_getElem? (i := 675) (by decide +kernel)) (by decide +kernel)) qm_0)))))) rfl (by decide +kernel) (by decide) sg_riii_i_recv dL_receivers_4 h
  · rintro av μ ⟨x1, x2, x3, x4, rfl, hp⟩
    exact Nat.le_of_ble_eq_true rfl
  · rintro av μ ⟨x1, x2, x3, x4, rfl, hp⟩
    have h := xL_receivers x1 x2 x3 x4 μ hp
    rw [← sg_saiii_i_R (P := PL_receivers)] at h
    exact h
theorem hokL_recordOf : ∀ E h, hndL_recordOf E = some h → qHnd (tableOf [(0, 6, 7, 18)]) "HeaderSqueezerLaw" 3 E h := by
  intro E h z
  unfold hndL_recordOf at z
  split at z
  · rename_i g
    cases z
    subst g
    exact ⟨[], ⟨0, 6, 7, 18⟩, [], rfl, rfl, by decide, by decide, qT_in (List.mem_of_getElem? (i := 421) (by decide +kernel)) (by decide +kernel), by decide, fun z h => nomatch h⟩
  · cases z
theorem mL_recordOf {l : Launch} (hl : l.stackTraces = false) : qMetH l yL_recordOf cL_recordOf 4 [(0, 6, 7, 18)] 7 104 spL_recordOf := by
  refine qMetHk_of (p0 := 3) (f := FL_recordOf) (cst := kL) false (by decide +kernel) tabL.2.1 va_AOA_words.1 va_AOA_words.2 ?_ ?_ ?_
  · intro p e s m args below meth c D cA B Q lo' lj st μ cs hF hZ htb h
    exact qc_VX (C := RX8) (T := TX8) (N := 5) hF hZ htb hokL_recordOf (mX8_record hl) (by exact (qm_c (qT_in (List.mem_of_getElem? (i := 776) (by decide +kernel)) (by decide +kernel)) (qm_c (qT_in (List.mem_of_getElem? (i := 777) (by decide +kernel)) (by decide +kernel)) (qm_c (qT_in (List.mem_of_getElem? (i := 778) (by decide +kernel)) (by decide +kernel)) (qm_c (qT_in (List.mem_of_getElem? (i := 10) (by decide +kernel)) (by decide +kernel)) (qm_c (qT_in (List.mem_of_getElem? (i := 779) (by decide +kernel)) (by decide +kernel)) qm_0)))))) rfl (by decide +kernel) (by decide) sg_rii_i_recv dL_recordOf_3 h
  · rintro av μ ⟨x1, x2, x3, rfl, hp⟩
    exact Nat.le_of_ble_eq_true rfl
  · rintro av μ ⟨x1, x2, x3, rfl, hp⟩
    have h := xL_recordOf x1 x2 x3 μ hp
    rw [← sg_saii_i_R (P := PL_recordOf)] at h
    exact h
theorem hokL_numberOf : ∀ E h, hndL_numberOf E = some h → qHnd (tableOf [(0, 5, 6, 18)]) "HeaderSqueezerLaw" 2 E h := by
  intro E h z
  unfold hndL_numberOf at z
  split at z
  · rename_i g
    cases z
    subst g
    exact ⟨[], ⟨0, 5, 6, 18⟩, [], rfl, rfl, by decide, by decide, qT_in (List.mem_of_getElem? (i := 421) (by decide +kernel)) (by decide +kernel), by decide, fun z h => nomatch h⟩
  · cases z
theorem mL_numberOf {l : Launch} (hl : l.stackTraces = false) : qMetH l yL_numberOf cL_numberOf 3 [(0, 5, 6, 18)] 7 103 spL_numberOf := by
  refine qMetHk_of (p0 := 2) (f := FL_numberOf) (cst := kL) false (by decide +kernel) tabL.2.1 va_AOA_words.1 va_AOA_words.2 ?_ ?_ ?_
  · intro p e s m args below meth c D cA B Q lo' lj st μ cs hF hZ htb h
    exact qc_VX (C := RX8) (T := TX8) (N := 5) hF hZ htb hokL_numberOf (mX8_numberFor hl) (by exact (qm_c (qT_in (List.mem_of_getElem? (i := 817) (by decide +kernel)) (by decide +kernel)) (qm_c (qT_in (List.mem_of_getElem? (i := 818) (by decide +kernel)) (by decide +kernel)) (qm_c (qT_in (List.mem_of_getElem? (i := 819) (by decide +kernel)) (by decide +kernel)) (qm_c (qT_in (List.mem_of_getElem? (i := 10) (by decide +kernel)) (by decide +kernel)) (qm_c (qT_in (List.mem_of_getElem? (i := 820) (by decide +kernel)) (by decide +kernel)) qm_0)))))) rfl (by decide +kernel) (by decide) sg_ri_i_recv dL_numberOf_2 h
  · rintro av μ ⟨x1, x2, rfl, hp⟩
    exact Nat.le_of_ble_eq_true rfl
  · rintro av μ ⟨x1, x2, rfl, hp⟩
    have h := xL_numberOf x1 x2 μ hp
    rw [← sg_sai_i_R (P := PL_numberOf)] at h
    exact h
theorem hokL_countOf : ∀ E h, hndL_countOf E = some h → qHnd (tableOf [(0, 5, 6, 18)]) "HeaderSqueezerLaw" 2 E h := by
  intro E h z
  unfold hndL_countOf at z
  split at z
  · rename_i g
    cases z
    subst g
    exact ⟨[], ⟨0, 5, 6, 18⟩, [], rfl, rfl, by decide, by decide, qT_in (List.mem_of_getElem? (i := 421) (by decide +kernel)) (by decide +kernel), by decide, fun z h => nomatch h⟩
  · cases z
theorem mL_countOf {l : Launch} (hl : l.stackTraces = false) : qMetH l yL_countOf cL_countOf 3 [(0, 5, 6, 18)] 7 103 spL_countOf := by
  refine qMetHk_of (p0 := 2) (f := FL_countOf) (cst := kL) false (by decide +kernel) tabL.2.1 va_AOA_words.1 va_AOA_words.2 ?_ ?_ ?_
  · intro p e s m args below meth c D cA B Q lo' lj st μ cs hF hZ htb h
    exact qc_VX (C := RX8) (T := TX8) (N := 5) hF hZ htb hokL_countOf (mX8_count hl) (by exact (qm_c (qT_in (List.mem_of_getElem? (i := 751) (by decide +kernel)) (by decide +kernel)) (qm_c (qT_in (List.mem_of_getElem? (i := 752) (by decide +kernel)) (by decide +kernel)) (qm_c (qT_in (List.mem_of_getElem? (i := 753) (by decide +kernel)) (by decide +kernel)) (qm_c (qT_in (List.mem_of_getElem? (i := 10) (by decide +kernel)) (by decide +kernel)) (qm_c (qT_in (List.mem_of_getElem? (i := 754) (by decide +kernel)) (by decide +kernel)) qm_0)))))) rfl (by decide +kernel) (by decide) sg_ri_i_recv dL_countOf_2 h
  · rintro av μ ⟨x1, x2, rfl, hp⟩
    exact Nat.le_of_ble_eq_true rfl
  · rintro av μ ⟨x1, x2, rfl, hp⟩
    have h := xL_countOf x1 x2 μ hp
    rw [← sg_sai_i_R (P := PL_countOf)] at h
    exact h
