/-! ===== contracts of the helpers (by program) ===== -/
theorem hokL_setField : ∀ E h, hndL_setField E = some h → qHnd (tableOf [(0, 10, 13, 13), (0, 10, 17, 15)]) "HeaderSqueezerLaw" 5 E h := by
  intro E h z
  unfold hndL_setField at z
  split at z
  · rename_i g
    cases z
    subst g
    exact ⟨[], ⟨0, 10, 13, 13⟩, [⟨0, 10, 17, 15⟩], rfl, rfl, by decide, by decide, qT_in (List.mem_of_getElem? (i := 625) (by decide +kernel)) (by decide +kernel), by decide, fun z h => nomatch h⟩
  · split at z
    · rename_i g
      cases z
      subst g
      exact ⟨[⟨0, 10, 13, 13⟩], ⟨0, 10, 17, 15⟩, [], rfl, rfl, by decide, by decide, qT_in (List.mem_of_getElem? (i := 626) (by decide +kernel)) (by decide +kernel), by decide, fun z h => by
        rw [List.mem_singleton.mp h]
        exact ⟨by decide, eI, qT_in (List.mem_of_getElem? (i := 625) (by decide +kernel)) (by decide +kernel), by decide⟩⟩
    · cases z
theorem mL_setField {l : Launch} (hl : l.stackTraces = false) : qMetH l yL_setField cL_setField 5 [(0, 10, 13, 13), (0, 10, 17, 15)] 7 154 spL_setField := by
  refine qMetH_of (p0 := 5) (f := FL_setField) false (by decide +kernel) va_AOA_words.1 va_AOA_words.2 ?_ ?_ ?_
  · intro p e s m args below meth c D cA B Q lo' lj st μ cs hF hZ htb h
    exact qc_VX (C := RX8) (T := TX8) (N := 5) hF hZ htb hokL_setField (mX8_setField hl) (by exact (qm_c (qT_in (List.mem_of_getElem? (i := 627) (by decide +kernel)) (by decide +kernel)) (qm_c (qT_in (List.mem_of_getElem? (i := 628) (by decide +kernel)) (by decide +kernel)) (qm_c (qT_in (List.mem_of_getElem? (i := 629) (by decide +kernel)) (by decide +kernel)) (qm_c (qT_in (List.mem_of_getElem? (i := 51) (by decide +kernel)) (by decide +kernel)) (qm_c (qT_in (List.mem_of_getElem? (i := 630) (by decide +kernel)) (by decide +kernel)) qm_0)))))) rfl (by decide +kernel) (by decide) sg_rii_i_recv dL_setField_5 h
  · rintro av μ ⟨x1, x2, x3, x4, rfl, hp⟩
    exact Nat.le_of_ble_eq_true rfl
  · rintro av μ ⟨x1, x2, x3, x4, rfl, hp⟩
    have h := xL_setField x1 x2 x3 x4 μ hp
    rw [← sg_saiia_i_R (P := PL_setField)] at h
    exact h
theorem hokL_setStrides : ∀ E h, hndL_setStrides E = some h → qHnd (tableOf [(0, 10, 13, 15)]) "HeaderSqueezerLaw" 5 E h := by
  intro E h z
  unfold hndL_setStrides at z
  split at z
  · rename_i g
    cases z
    subst g
    exact ⟨[], ⟨0, 10, 13, 15⟩, [], rfl, rfl, by decide, by decide, qT_in (List.mem_of_getElem? (i := 626) (by decide +kernel)) (by decide +kernel), by decide, fun z h => nomatch h⟩
  · cases z
theorem mL_setStrides {l : Launch} (hl : l.stackTraces = false) : qMetH l yL_setStrides cL_setStrides 5 [(0, 10, 13, 15)] 7 154 spL_setStrides := by
  refine qMetH_of (p0 := 5) (f := FL_setStrides) false (by decide +kernel) va_AOA_words.1 va_AOA_words.2 ?_ ?_ ?_
  · intro p e s m args below meth c D cA B Q lo' lj st μ cs hF hZ htb h
    exact qc_VX (C := RX8) (T := TX8) (N := 5) hF hZ htb hokL_setStrides (mX8_setStrides hl) (by exact (qm_c (qT_in (List.mem_of_getElem? (i := 723) (by decide +kernel)) (by decide +kernel)) (qm_c (qT_in (List.mem_of_getElem? (i := 724) (by decide +kernel)) (by decide +kernel)) (qm_c (qT_in (List.mem_of_getElem? (i := 725) (by decide +kernel)) (by decide +kernel)) (qm_c (qT_in (List.mem_of_getElem? (i := 51) (by decide +kernel)) (by decide +kernel)) (qm_c (qT_in (List.mem_of_getElem? (i := 726) (by decide +kernel)) (by decide +kernel)) qm_0)))))) rfl (by decide +kernel) (by decide) sg_rii_i_recv dL_setStrides_5 h
  · rintro av μ ⟨x1, x2, x3, x4, rfl, hp⟩
    exact Nat.le_of_ble_eq_true rfl
  · rintro av μ ⟨x1, x2, x3, x4, rfl, hp⟩
    have h := xL_setStrides x1 x2 x3 x4 μ hp
    rw [← sg_saiia_i_R (P := PL_setStrides)] at h
    exact h
theorem hokL_setPolicy : ∀ E h, hndL_setPolicy E = some h → qHnd (tableOf [(0, 10, 13, 15)]) "HeaderSqueezerLaw" 5 E h := by
  intro E h z
  unfold hndL_setPolicy at z
  split at z
  · rename_i g
    cases z
    subst g
    exact ⟨[], ⟨0, 10, 13, 15⟩, [], rfl, rfl, by decide, by decide, qT_in (List.mem_of_getElem? (i := 626) (by decide +kernel)) (by decide +kernel), by decide, fun z h => nomatch h⟩
  · cases z
theorem mL_setPolicy {l : Launch} (hl : l.stackTraces = false) : qMetH l yL_setPolicy cL_setPolicy 5 [(0, 10, 13, 15)] 7 154 spL_setPolicy := by
  refine qMetH_of (p0 := 5) (f := FL_setPolicy) false (by decide +kernel) va_AOA_words.1 va_AOA_words.2 ?_ ?_ ?_
  · intro p e s m args below meth c D cA B Q lo' lj st μ cs hF hZ htb h
    exact qc_VX (C := RX8) (T := TX8) (N := 5) hF hZ htb hokL_setPolicy (mX8_setPolicy hl) (by exact (qm_c (qT_in (List.mem_of_getElem? (i := 731) (by decide +kernel)) (by decide +kernel)) (qm_c (qT_in (List.mem_of_getElem? (i := 732) (by decide +kernel)) (by decide +kernel)) (qm_c (qT_in (List.mem_of_getElem? (i := 733) (by decide +kernel)) (by decide +kernel)) (qm_c (qT_in (List.mem_of_getElem? (i := 51) (by decide +kernel)) (by decide +kernel)) (qm_c (qT_in (List.mem_of_getElem? (i := 734) (by decide +kernel)) (by decide +kernel)) qm_0)))))) rfl (by decide +kernel) (by decide) sg_rii_i_recv dL_setPolicy_5 h
  · rintro av μ ⟨x1, x2, x3, x4, rfl, hp⟩
    exact Nat.le_of_ble_eq_true rfl
  · rintro av μ ⟨x1, x2, x3, x4, rfl, hp⟩
    have h := xL_setPolicy x1 x2 x3 x4 μ hp
    rw [← sg_saiia_i_R (P := PL_setPolicy)] at h
    exact h
theorem hokL_send : ∀ E h, hndL_send E = some h → qHnd (tableOf [(0, 8, 11, 27)]) "HeaderSqueezerLaw" 3 E h := by
  intro E h z
  unfold hndL_send at z
  split at z
  · rename_i g
    cases z
    subst g
    exact ⟨[], ⟨0, 8, 11, 27⟩, [], rfl, rfl, by decide, by decide, qT_in (List.mem_of_getElem? (i := 739) (by decide +kernel)) (by decide +kernel), by decide, fun z h => nomatch h⟩
  · cases z
theorem mL_send {l : Launch} (hl : l.stackTraces = false) : qMetH l yL_send cL_send 3 [(0, 8, 11, 27)] 7 151 spL_send := by
  refine qMetH_of (p0 := 3) (f := FL_send) false (by decide +kernel) va_AOA_words.1 va_AOA_words.2 ?_ ?_ ?_
  · intro p e s m args below meth c D cA B Q lo' lj st μ cs hF hZ htb h
    exact qc_VX (C := RX8) (T := TX8) (N := 5) hF hZ htb hokL_send (mX8_send hl) (by exact (qm_c (qT_in (List.mem_of_getElem? (i := 740) (by decide +kernel)) (by decide +kernel)) (qm_c (qT_in (List.mem_of_getElem? (i := 741) (by decide +kernel)) (by decide +kernel)) (qm_c (qT_in (List.mem_of_getElem? (i := 742) (by decide +kernel)) (by decide +kernel)) (qm_c (qT_in (List.mem_of_getElem? (i := 51) (by decide +kernel)) (by decide +kernel)) (qm_c (qT_in (List.mem_of_getElem? (i := 743) (by decide +kernel)) (by decide +kernel)) qm_0)))))) rfl (by decide +kernel) (by decide) sg_r_i_recv dL_send_3 h
  · rintro av μ ⟨x1, x2, rfl, hp⟩
    exact Nat.le_of_ble_eq_true rfl
  · rintro av μ ⟨x1, x2, rfl, hp⟩
    have h := xL_send x1 x2 μ hp
    rw [← sg_saa_i_R (P := PL_send)] at h
    exact h
theorem hokL_stream : ∀ E h, hndL_stream E = some h → qHnd (tableOf [(0, 9, 12, 15), (0, 9, 15, 27)]) "HeaderSqueezerLaw" 4 E h := by
  intro E h z
  unfold hndL_stream at z
  split at z
  · rename_i g
    cases z
    subst g
    exact ⟨[], ⟨0, 9, 12, 15⟩, [⟨0, 9, 15, 27⟩], rfl, rfl, by decide, by decide, qT_in (List.mem_of_getElem? (i := 626) (by decide +kernel)) (by decide +kernel), by decide, fun z h => nomatch h⟩
  · split at z
    · rename_i g
      cases z
      subst g
      exact ⟨[⟨0, 9, 12, 15⟩], ⟨0, 9, 15, 27⟩, [], rfl, rfl, by decide, by decide, qT_in (List.mem_of_getElem? (i := 739) (by decide +kernel)) (by decide +kernel), by decide, fun z h => by
        rw [List.mem_singleton.mp h]
        exact ⟨by decide, eA, qT_in (List.mem_of_getElem? (i := 626) (by decide +kernel)) (by decide +kernel), by decide⟩⟩
    · cases z
theorem mL_stream {l : Launch} (hl : l.stackTraces = false) : qMetH l yL_stream cL_stream 4 [(0, 9, 12, 15), (0, 9, 15, 27)] 7 153 spL_stream := by
  refine qMetH_of (p0 := 4) (f := FL_stream) false (by decide +kernel) va_AOA_words.1 va_AOA_words.2 ?_ ?_ ?_
  · intro p e s m args below meth c D cA B Q lo' lj st μ cs hF hZ htb h
    exact qc_VX (C := RX8) (T := TX8) (N := 5) hF hZ htb hokL_stream (mX8_stream hl) (by exact (qm_c (qT_in (List.mem_of_getElem? (i := 765) (by decide +kernel)) (by decide +kernel)) (qm_c (qT_in (List.mem_of_getElem? (i := 766) (by decide +kernel)) (by decide +kernel)) (qm_c (qT_in (List.mem_of_getElem? (i := 767) (by decide +kernel)) (by decide +kernel)) (qm_c (qT_in (List.mem_of_getElem? (i := 51) (by decide +kernel)) (by decide +kernel)) (qm_c (qT_in (List.mem_of_getElem? (i := 768) (by decide +kernel)) (by decide +kernel)) qm_0)))))) rfl (by decide +kernel) (by decide) sg_ri_i_recv dL_stream_4 h
  · rintro av μ ⟨x1, x2, x3, rfl, hp⟩
    exact Nat.le_of_ble_eq_true rfl
  · rintro av μ ⟨x1, x2, x3, rfl, hp⟩
    have h := xL_stream x1 x2 x3 μ hp
    rw [← sg_saia_i_R (P := PL_stream)] at h
    exact h
theorem hokL_field : ∀ E h, hndL_field E = some h → qHnd (tableOf [(0, 9, 12, 13)]) "HeaderSqueezerLaw" 4 E h := by
  intro E h z
  unfold hndL_field at z
  split at z
  · rename_i g
    cases z
    subst g
    exact ⟨[], ⟨0, 9, 12, 13⟩, [], rfl, rfl, by decide, by decide, qT_in (List.mem_of_getElem? (i := 625) (by decide +kernel)) (by decide +kernel), by decide, fun z h => nomatch h⟩
  · cases z
theorem mL_field {l : Launch} (hl : l.stackTraces = false) : qMetH l yL_field cL_field 4 [(0, 9, 12, 13)] 7 103 spL_field := by
  refine qMetH_of (p0 := 4) (f := FL_field) false (by decide +kernel) va_AOA_words.1 va_AOA_words.2 ?_ ?_ ?_
  · intro p e s m args below meth c D cA B Q lo' lj st μ cs hF hZ htb h
    exact qc_VX (C := RX8) (T := TX8) (N := 5) hF hZ htb hokL_field (mX8_field hl) (by exact (qm_c (qT_in (List.mem_of_getElem? (i := 774) (by decide +kernel)) (by decide +kernel)) (qm_c (qT_in (List.mem_of_getElem? (i := 775) (by decide +kernel)) (by decide +kernel)) (qm_c (qT_in (List.mem_of_getElem? (i := 776) (by decide +kernel)) (by decide +kernel)) (qm_c (qT_in (List.mem_of_getElem? (i := 51) (by decide +kernel)) (by decide +kernel)) (qm_c (qT_in (List.mem_of_getElem? (i := 777) (by decide +kernel)) (by decide +kernel)) qm_0)))))) rfl (by decide +kernel) (by decide) sg_ri_i_recv dL_field_4 h
  · rintro av μ ⟨x1, x2, x3, rfl, hp⟩
    exact Nat.le_of_ble_eq_true rfl
  · rintro av μ ⟨x1, x2, x3, rfl, hp⟩
    have h := xL_field x1 x2 x3 μ hp
    rw [← sg_saia_i_R (P := PL_field)] at h
    exact h
theorem hokL_sizeWith : ∀ E h, hndL_sizeWith E = some h → qHnd (tableOf [(0, 10, 13, 15)]) "HeaderSqueezerLaw" 5 E h := by
  intro E h z
  unfold hndL_sizeWith at z
  split at z
  · rename_i g
    cases z
    subst g
    exact ⟨[], ⟨0, 10, 13, 15⟩, [], rfl, rfl, by decide, by decide, qT_in (List.mem_of_getElem? (i := 626) (by decide +kernel)) (by decide +kernel), by decide, fun z h => nomatch h⟩
  · cases z
theorem mL_sizeWith {l : Launch} (hl : l.stackTraces = false) : qMetH l yL_sizeWith cL_sizeWith 5 [(0, 10, 13, 15)] 7 107 spL_sizeWith := by
  refine qMetH_of (p0 := 5) (f := FL_sizeWith) false (by decide +kernel) va_AOA_words.1 va_AOA_words.2 ?_ ?_ ?_
  · intro p e s m args below meth c D cA B Q lo' lj st μ cs hF hZ htb h
    exact qc_VX (C := RX8) (T := TX8) (N := 5) hF hZ htb hokL_sizeWith (mX8_sizeWith hl) (by exact (qm_c (qT_in (List.mem_of_getElem? (i := 781) (by decide +kernel)) (by decide +kernel)) (qm_c (qT_in (List.mem_of_getElem? (i := 782) (by decide +kernel)) (by decide +kernel)) (qm_c (qT_in (List.mem_of_getElem? (i := 783) (by decide +kernel)) (by decide +kernel)) (qm_c (qT_in (List.mem_of_getElem? (i := 51) (by decide +kernel)) (by decide +kernel)) (qm_c (qT_in (List.mem_of_getElem? (i := 784) (by decide +kernel)) (by decide +kernel)) qm_0)))))) rfl (by decide +kernel) (by decide) sg_rii_i_recv dL_sizeWith_5 h
  · rintro av μ ⟨x1, x2, x3, x4, rfl, hp⟩
    exact Nat.le_of_ble_eq_true rfl
  · rintro av μ ⟨x1, x2, x3, x4, rfl, hp⟩
    have h := xL_sizeWith x1 x2 x3 x4 μ hp
    rw [← sg_saiia_i_R (P := PL_sizeWith)] at h
    exact h
theorem hokL_sent : ∀ E h, hndL_sent E = some h → qHnd (tableOf [(0, 10, 13, 13), (0, 10, 17, 15)]) "HeaderSqueezerLaw" 5 E h := by
  intro E h z
  unfold hndL_sent at z
  split at z
  · rename_i g
    cases z
    subst g
    exact ⟨[], ⟨0, 10, 13, 13⟩, [⟨0, 10, 17, 15⟩], rfl, rfl, by decide, by decide, qT_in (List.mem_of_getElem? (i := 625) (by decide +kernel)) (by decide +kernel), by decide, fun z h => nomatch h⟩
  · split at z
    · rename_i g
      cases z
      subst g
      exact ⟨[⟨0, 10, 13, 13⟩], ⟨0, 10, 17, 15⟩, [], rfl, rfl, by decide, by decide, qT_in (List.mem_of_getElem? (i := 626) (by decide +kernel)) (by decide +kernel), by decide, fun z h => by
        rw [List.mem_singleton.mp h]
        exact ⟨by decide, eI, qT_in (List.mem_of_getElem? (i := 625) (by decide +kernel)) (by decide +kernel), by decide⟩⟩
    · cases z
theorem mL_sent {l : Launch} (hl : l.stackTraces = false) : qMetH l yL_sent cL_sent 5 [(0, 10, 13, 13), (0, 10, 17, 15)] 7 104 spL_sent := by
  refine qMetH_of (p0 := 5) (f := FL_sent) false (by decide +kernel) va_AOA_words.1 va_AOA_words.2 ?_ ?_ ?_
  · intro p e s m args below meth c D cA B Q lo' lj st μ cs hF hZ htb h
    exact qc_VX (C := RX8) (T := TX8) (N := 5) hF hZ htb hokL_sent (mX8_sent hl) (by exact (qm_c (qT_in (List.mem_of_getElem? (i := 790) (by decide +kernel)) (by decide +kernel)) (qm_c (qT_in (List.mem_of_getElem? (i := 791) (by decide +kernel)) (by decide +kernel)) (qm_c (qT_in (List.mem_of_getElem? (i := 792) (by decide +kernel)) (by decide +kernel)) (qm_c (qT_in (List.mem_of_getElem? (i := 51) (by decide +kernel)) (by decide +kernel)) (qm_c (qT_in (List.mem_of_getElem? (i := 793) (by decide +kernel)) (by decide +kernel)) qm_0)))))) rfl (by decide +kernel) (by decide) sg_rii_i_recv dL_sent_5 h
  · rintro av μ ⟨x1, x2, x3, x4, rfl, hp⟩
    exact Nat.le_of_ble_eq_true rfl
  · rintro av μ ⟨x1, x2, x3, x4, rfl, hp⟩
    have h := xL_sent x1 x2 x3 x4 μ hp
    rw [← sg_saiia_i_R (P := PL_sent)] at h
    exact h
theorem hokL_deliver : ∀ E h, hndL_deliver E = some h → qHnd (tableOf [(0, 9, 12, 13)]) "HeaderSqueezerLaw" 4 E h := by
  intro E h z
  unfold hndL_deliver at z
  split at z
  · rename_i g
    cases z
    subst g
    exact ⟨[], ⟨0, 9, 12, 13⟩, [], rfl, rfl, by decide, by decide, qT_in (List.mem_of_getElem? (i := 625) (by decide +kernel)) (by decide +kernel), by decide, fun z h => nomatch h⟩
  · cases z
theorem mL_deliver {l : Launch} (hl : l.stackTraces = false) : qMetH l yL_deliver cL_deliver 4 [(0, 9, 12, 13)] 7 158 spL_deliver := by
  refine qMetH_of (p0 := 4) (f := FL_deliver) false (by decide +kernel) va_AOA_words.1 va_AOA_words.2 ?_ ?_ ?_
  · intro p e s m args below meth c D cA B Q lo' lj st μ cs hF hZ htb h
    exact qc_VX (C := RX8) (T := TX8) (N := 5) hF hZ htb hokL_deliver (mX8_deliver hl) (by exact (qm_c (qT_in (List.mem_of_getElem? (i := 800) (by decide +kernel)) (by decide +kernel)) (qm_c (qT_in (List.mem_of_getElem? (i := 801) (by decide +kernel)) (by decide +kernel)) (qm_c (qT_in (List.mem_of_getElem? (i := 802) (by decide +kernel)) (by decide +kernel)) (qm_c (qT_in (List.mem_of_getElem? (i := 51) (by decide +kernel)) (by decide +kernel)) (qm_c (qT_in (List.mem_of_getElem? (i := 803) (by decide +kernel)) (by decide +kernel)) qm_0)))))) rfl (by decide +kernel) (by decide) sg_ri_i_recv dL_deliver_4 h
  · rintro av μ ⟨x1, x2, x3, rfl, hp⟩
    exact Nat.le_of_ble_eq_true rfl
  · rintro av μ ⟨x1, x2, x3, rfl, hp⟩
    have h := xL_deliver x1 x2 x3 μ hp
    rw [← sg_saia_i_R (P := PL_deliver)] at h
    exact h
theorem hokL_lose : ∀ E h, hndL_lose E = some h → qHnd (tableOf [(0, 9, 12, 13)]) "HeaderSqueezerLaw" 4 E h := by
  intro E h z
  unfold hndL_lose at z
  split at z
  · rename_i g
    cases z
    subst g
    exact ⟨[], ⟨0, 9, 12, 13⟩, [], rfl, rfl, by decide, by decide, qT_in (List.mem_of_getElem? (i := 625) (by decide +kernel)) (by decide +kernel), by decide, fun z h => nomatch h⟩
  · cases z
theorem mL_lose {l : Launch} (hl : l.stackTraces = false) : qMetH l yL_lose cL_lose 4 [(0, 9, 12, 13)] 7 152 spL_lose := by
  refine qMetH_of (p0 := 4) (f := FL_lose) false (by decide +kernel) va_AOA_words.1 va_AOA_words.2 ?_ ?_ ?_
  · intro p e s m args below meth c D cA B Q lo' lj st μ cs hF hZ htb h
    exact qc_VX (C := RX8) (T := TX8) (N := 5) hF hZ htb hokL_lose (mX8_lose hl) (by exact (qm_c (qT_in (List.mem_of_getElem? (i := 809) (by decide +kernel)) (by decide +kernel)) (qm_c (qT_in (List.mem_of_getElem? (i := 810) (by decide +kernel)) (by decide +kernel)) (qm_c (qT_in (List.mem_of_getElem? (i := 811) (by decide +kernel)) (by decide +kernel)) (qm_c (qT_in (List.mem_of_getElem? (i := 51) (by decide +kernel)) (by decide +kernel)) (qm_c (qT_in (List.mem_of_getElem? (i := 812) (by decide +kernel)) (by decide +kernel)) qm_0)))))) rfl (by decide +kernel) (by decide) sg_ri_i_recv dL_lose_4 h
  · rintro av μ ⟨x1, x2, x3, rfl, hp⟩
    exact Nat.le_of_ble_eq_true rfl
  · rintro av μ ⟨x1, x2, x3, rfl, hp⟩
    have h := xL_lose x1 x2 x3 μ hp
    rw [← sg_saia_i_R (P := PL_lose)] at h
    exact h
theorem hokL_copy : ∀ E h, hndL_copy E = some h → qHnd (tableOf [(0, 9, 12, 13), (0, 9, 15, 27)]) "HeaderSqueezerLaw" 4 E h := by
  intro E h z
  unfold hndL_copy at z
  split at z
  · rename_i g
    cases z
    subst g
    exact ⟨[], ⟨0, 9, 12, 13⟩, [⟨0, 9, 15, 27⟩], rfl, rfl, by decide, by decide, qT_in (List.mem_of_getElem? (i := 625) (by decide +kernel)) (by decide +kernel), by decide, fun z h => nomatch h⟩
  · split at z
    · rename_i g
      cases z
      subst g
      exact ⟨[⟨0, 9, 12, 13⟩], ⟨0, 9, 15, 27⟩, [], rfl, rfl, by decide, by decide, qT_in (List.mem_of_getElem? (i := 739) (by decide +kernel)) (by decide +kernel), by decide, fun z h => by
        rw [List.mem_singleton.mp h]
        exact ⟨by decide, eI, qT_in (List.mem_of_getElem? (i := 625) (by decide +kernel)) (by decide +kernel), by decide⟩⟩
    · cases z
theorem mL_copy {l : Launch} (hl : l.stackTraces = false) : qMetH l yL_copy cL_copy 4 [(0, 9, 12, 13), (0, 9, 15, 27)] 7 152 spL_copy := by
  refine qMetH_of (p0 := 4) (f := FL_copy) false (by decide +kernel) va_AOA_words.1 va_AOA_words.2 ?_ ?_ ?_
  · intro p e s m args below meth c D cA B Q lo' lj st μ cs hF hZ htb h
    exact qc_VX (C := RX8) (T := TX8) (N := 5) hF hZ htb hokL_copy (mX8_copy hl) (by exact (qm_c (qT_in (List.mem_of_getElem? (i := 817) (by decide +kernel)) (by decide +kernel)) (qm_c (qT_in (List.mem_of_getElem? (i := 818) (by decide +kernel)) (by decide +kernel)) (qm_c (qT_in (List.mem_of_getElem? (i := 819) (by decide +kernel)) (by decide +kernel)) (qm_c (qT_in (List.mem_of_getElem? (i := 51) (by decide +kernel)) (by decide +kernel)) (qm_c (qT_in (List.mem_of_getElem? (i := 820) (by decide +kernel)) (by decide +kernel)) qm_0)))))) rfl (by decide +kernel) (by decide) sg_ri_i_recv dL_copy_4 h
  · rintro av μ ⟨x1, x2, x3, rfl, hp⟩
    exact Nat.le_of_ble_eq_true rfl
  · rintro av μ ⟨x1, x2, x3, rfl, hp⟩
    have h := xL_copy x1 x2 x3 μ hp
    rw [← sg_saia_i_R (P := PL_copy)] at h
    exact h
theorem hokL_deliverBack : ∀ E h, hndL_deliverBack E = some h → qHnd (tableOf [(0, 9, 12, 13)]) "HeaderSqueezerLaw" 4 E h := by
  intro E h z
  unfold hndL_deliverBack at z
  split at z
  · rename_i g
    cases z
    subst g
    exact ⟨[], ⟨0, 9, 12, 13⟩, [], rfl, rfl, by decide, by decide, qT_in (List.mem_of_getElem? (i := 625) (by decide +kernel)) (by decide +kernel), by decide, fun z h => nomatch h⟩
  · cases z
theorem mL_deliverBack {l : Launch} (hl : l.stackTraces = false) : qMetH l yL_deliverBack cL_deliverBack 4 [(0, 9, 12, 13)] 7 152 spL_deliverBack := by
  refine qMetH_of (p0 := 4) (f := FL_deliverBack) false (by decide +kernel) va_AOA_words.1 va_AOA_words.2 ?_ ?_ ?_
  · intro p e s m args below meth c D cA B Q lo' lj st μ cs hF hZ htb h
    exact qc_VX (C := RX8) (T := TX8) (N := 5) hF hZ htb hokL_deliverBack (mX8_deliverBack hl) (by exact (qm_c (qT_in (List.mem_of_getElem? (i := 827) (by decide +kernel)) (by decide +kernel)) (qm_c (qT_in (List.mem_of_getElem? (i := 828) (by decide +kernel)) (by decide +kernel)) (qm_c (qT_in (List.mem_of_getElem? (i := 829) (by decide +kernel)) (by decide +kernel)) (qm_c (qT_in (List.mem_of_getElem? (i := 51) (by decide +kernel)) (by decide +kernel)) (qm_c (qT_in (List.mem_of_getElem? (i := 830) (by decide +kernel)) (by decide +kernel)) qm_0)))))) rfl (by decide +kernel) (by decide) sg_ri_i_recv dL_deliverBack_4 h
  · rintro av μ ⟨x1, x2, x3, rfl, hp⟩
    exact Nat.le_of_ble_eq_true rfl
  · rintro av μ ⟨x1, x2, x3, rfl, hp⟩
    have h := xL_deliverBack x1 x2 x3 μ hp
    rw [← sg_saia_i_R (P := PL_deliverBack)] at h
    exact h
theorem hokL_loseBack : ∀ E h, hndL_loseBack E = some h → qHnd (tableOf [(0, 9, 12, 13)]) "HeaderSqueezerLaw" 4 E h := by
  intro E h z
  unfold hndL_loseBack at z
  split at z
  · rename_i g
    cases z
    subst g
    exact ⟨[], ⟨0, 9, 12, 13⟩, [], rfl, rfl, by decide, by decide, qT_in (List.mem_of_getElem? (i := 625) (by decide +kernel)) (by decide +kernel), by decide, fun z h => nomatch h⟩
  · cases z
theorem mL_loseBack {l : Launch} (hl : l.stackTraces = false) : qMetH l yL_loseBack cL_loseBack 4 [(0, 9, 12, 13)] 7 152 spL_loseBack := by
  refine qMetH_of (p0 := 4) (f := FL_loseBack) false (by decide +kernel) va_AOA_words.1 va_AOA_words.2 ?_ ?_ ?_
  · intro p e s m args below meth c D cA B Q lo' lj st μ cs hF hZ htb h
    exact qc_VX (C := RX8) (T := TX8) (N := 5) hF hZ htb hokL_loseBack (mX8_loseBack hl) (by exact (qm_c (qT_in (List.mem_of_getElem? (i := 836) (by decide +kernel)) (by decide +kernel)) (qm_c (qT_in (List.mem_of_getElem? (i := 837) (by decide +kernel)) (by decide +kernel)) (qm_c (qT_in (List.mem_of_getElem? (i := 838) (by decide +kernel)) (by decide +kernel)) (qm_c (qT_in (List.mem_of_getElem? (i := 51) (by decide +kernel)) (by decide +kernel)) (qm_c (qT_in (List.mem_of_getElem? (i := 839) (by decide +kernel)) (by decide +kernel)) qm_0)))))) rfl (by decide +kernel) (by decide) sg_ri_i_recv dL_loseBack_4 h
  · rintro av μ ⟨x1, x2, x3, rfl, hp⟩
    exact Nat.le_of_ble_eq_true rfl
  · rintro av μ ⟨x1, x2, x3, rfl, hp⟩
    have h := xL_loseBack x1 x2 x3 μ hp
    rw [← sg_saia_i_R (P := PL_loseBack)] at h
    exact h
theorem hokL_waitingAt : ∀ E h, hndL_waitingAt E = some h → qHnd (tableOf [(0, 10, 13, 13)]) "HeaderSqueezerLaw" 5 E h := by
  intro E h z
  unfold hndL_waitingAt at z
  split at z
  · rename_i g
    cases z
    subst g
    exact ⟨[], ⟨0, 10, 13, 13⟩, [], rfl, rfl, by decide, by decide, qT_in (List.mem_of_getElem? (i := 625) (by decide +kernel)) (by decide +kernel), by decide, fun z h => nomatch h⟩
  · cases z
theorem mL_waitingAt {l : Launch} (hl : l.stackTraces = false) : qMetH l yL_waitingAt cL_waitingAt 5 [(0, 10, 13, 13)] 7 105 spL_waitingAt := by
  refine qMetH_of (p0 := 5) (f := FL_waitingAt) false (by decide +kernel) va_AOA_words.1 va_AOA_words.2 ?_ ?_ ?_
  · intro p e s m args below meth c D cA B Q lo' lj st μ cs hF hZ htb h
    exact qc_VX (C := RX8) (T := TX8) (N := 5) hF hZ htb hokL_waitingAt (mX8_waitingAt hl) (by exact (qm_c (qT_in (List.mem_of_getElem? (i := 843) (by decide +kernel)) (by decide +kernel)) (qm_c (qT_in (List.mem_of_getElem? (i := 844) (by decide +kernel)) (by decide +kernel)) (qm_c (qT_in (List.mem_of_getElem? (i := 845) (by decide +kernel)) (by decide +kernel)) (qm_c (qT_in (List.mem_of_getElem? (i := 51) (by decide +kernel)) (by decide +kernel)) (qm_c (qT_in (List.mem_of_getElem? (i := 846) (by decide +kernel)) (by decide +kernel)) qm_0)))))) rfl (by decide +kernel) (by decide) sg_rii_i_recv dL_waitingAt_5 h
  · rintro av μ ⟨x1, x2, x3, x4, rfl, hp⟩
    exact Nat.le_of_ble_eq_true rfl
  · rintro av μ ⟨x1, x2, x3, x4, rfl, hp⟩
    have h := xL_waitingAt x1 x2 x3 x4 μ hp
    rw [← sg_saiia_i_R (P := PL_waitingAt)] at h
    exact h
theorem hokL_setReceiver : ∀ E h, hndL_setReceiver E = some h → qHnd (tableOf [(0, 12, 15, 15)]) "HeaderSqueezerLaw" 7 E h := by
  intro E h z
  unfold hndL_setReceiver at z
  split at z
  · rename_i g
    cases z
    subst g
    exact ⟨[], ⟨0, 12, 15, 15⟩, [], rfl, rfl, by decide, by decide, qT_in (List.mem_of_getElem? (i := 626) (by decide +kernel)) (by decide +kernel), by decide, fun z h => nomatch h⟩
  · cases z
theorem mL_setReceiver {l : Launch} (hl : l.stackTraces = false) : qMetH l yL_setReceiver cL_setReceiver 6 [(0, 12, 15, 15)] 7 155 spL_setReceiver := by
  refine qMetH_of (p0 := 7) (f := FL_setReceiver) false (by decide +kernel) va_AOA_words.1 va_AOA_words.2 ?_ ?_ ?_
  · intro p e s m args below meth c D cA B Q lo' lj st μ cs hF hZ htb h
    exact qc_VX (C := RX8) (T := TX8) (N := 5) hF hZ htb hokL_setReceiver (mX8_setReceiver hl) (by exact (qm_c (qT_in (List.mem_of_getElem? (i := 851) (by decide +kernel)) (by decide +kernel)) (qm_c (qT_in (List.mem_of_getElem? (i := 852) (by decide +kernel)) (by decide +kernel)) (qm_c (qT_in (List.mem_of_getElem? (i := 853) (by decide +kernel)) (by decide +kernel)) (qm_c (qT_in (List.mem_of_getElem? (i := 51) (by decide +kernel)) (by decide +kernel)) (qm_c (qT_in (List.mem_of_getElem? (i := 854) (by decide +kernel)) (by decide +kernel)) qm_0)))))) rfl (by decide +kernel) (by decide) sg_riii_i_recv dL_setReceiver_7 h
  · rintro av μ ⟨x1, x2, x3, x4, x5, rfl, hp⟩
    exact Nat.le_of_ble_eq_true rfl
  · rintro av μ ⟨x1, x2, x3, x4, x5, rfl, hp⟩
    have h := xL_setReceiver x1 x2 x3 x4 x5 μ hp
    rw [← sg_saiiia_i_R (P := PL_setReceiver)] at h
    exact h
theorem hokL_record : ∀ E h, hndL_record E = some h → qHnd (tableOf [(0, 10, 13, 15)]) "HeaderSqueezerLaw" 5 E h := by
  intro E h z
  unfold hndL_record at z
  split at z
  · rename_i g
    cases z
    subst g
    exact ⟨[], ⟨0, 10, 13, 15⟩, [], rfl, rfl, by decide, by decide, qT_in (List.mem_of_getElem? (i := 626) (by decide +kernel)) (by decide +kernel), by decide, fun z h => nomatch h⟩
  · cases z
theorem mL_record {l : Launch} (hl : l.stackTraces = false) : qMetH l yL_record cL_record 5 [(0, 10, 13, 15)] 7 104 spL_record := by
  refine qMetH_of (p0 := 5) (f := FL_record) false (by decide +kernel) va_AOA_words.1 va_AOA_words.2 ?_ ?_ ?_
  · intro p e s m args below meth c D cA B Q lo' lj st μ cs hF hZ htb h
    exact qc_VX (C := RX8) (T := TX8) (N := 5) hF hZ htb hokL_record (mX8_record hl) (by exact (qm_c (qT_in (List.mem_of_getElem? (i := 859) (by decide +kernel)) (by decide +kernel)) (qm_c (qT_in (List.mem_of_getElem? (i := 860) (by decide +kernel)) (by decide +kernel)) (qm_c (qT_in (List.mem_of_getElem? (i := 861) (by decide +kernel)) (by decide +kernel)) (qm_c (qT_in (List.mem_of_getElem? (i := 51) (by decide +kernel)) (by decide +kernel)) (qm_c (qT_in (List.mem_of_getElem? (i := 862) (by decide +kernel)) (by decide +kernel)) qm_0)))))) rfl (by decide +kernel) (by decide) sg_rii_i_recv dL_record_5 h
  · rintro av μ ⟨x1, x2, x3, x4, rfl, hp⟩
    exact Nat.le_of_ble_eq_true rfl
  · rintro av μ ⟨x1, x2, x3, x4, rfl, hp⟩
    have h := xL_record x1 x2 x3 x4 μ hp
    rw [← sg_saiia_i_R (P := PL_record)] at h
    exact h
theorem hokL_numberFor : ∀ E h, hndL_numberFor E = some h → qHnd (tableOf [(0, 9, 12, 15)]) "HeaderSqueezerLaw" 4 E h := by
  intro E h z
  unfold hndL_numberFor at z
  split at z
  · rename_i g
    cases z
    subst g
    exact ⟨[], ⟨0, 9, 12, 15⟩, [], rfl, rfl, by decide, by decide, qT_in (List.mem_of_getElem? (i := 626) (by decide +kernel)) (by decide +kernel), by decide, fun z h => nomatch h⟩
  · cases z
theorem mL_numberFor {l : Launch} (hl : l.stackTraces = false) : qMetH l yL_numberFor cL_numberFor 4 [(0, 9, 12, 15)] 7 103 spL_numberFor := by
  refine qMetH_of (p0 := 4) (f := FL_numberFor) false (by decide +kernel) va_AOA_words.1 va_AOA_words.2 ?_ ?_ ?_
  · intro p e s m args below meth c D cA B Q lo' lj st μ cs hF hZ htb h
    exact qc_VX (C := RX8) (T := TX8) (N := 5) hF hZ htb hokL_numberFor (mX8_numberFor hl) (by exact (qm_c (qT_in (List.mem_of_getElem? (i := 868) (by decide +kernel)) (by decide +kernel)) (qm_c (qT_in (List.mem_of_getElem? (i := 869) (by decide +kernel)) (by decide +kernel)) (qm_c (qT_in (List.mem_of_getElem? (i := 870) (by decide +kernel)) (by decide +kernel)) (qm_c (qT_in (List.mem_of_getElem? (i := 51) (by decide +kernel)) (by decide +kernel)) (qm_c (qT_in (List.mem_of_getElem? (i := 871) (by decide +kernel)) (by decide +kernel)) qm_0)))))) rfl (by decide +kernel) (by decide) sg_ri_i_recv dL_numberFor_4 h
  · rintro av μ ⟨x1, x2, x3, rfl, hp⟩
    exact Nat.le_of_ble_eq_true rfl
  · rintro av μ ⟨x1, x2, x3, rfl, hp⟩
    have h := xL_numberFor x1 x2 x3 μ hp
    rw [← sg_saia_i_R (P := PL_numberFor)] at h
    exact h
theorem hokL_count : ∀ E h, hndL_count E = some h → qHnd (tableOf [(0, 9, 12, 15)]) "HeaderSqueezerLaw" 4 E h := by
  intro E h z
  unfold hndL_count at z
  split at z
  · rename_i g
    cases z
    subst g
    exact ⟨[], ⟨0, 9, 12, 15⟩, [], rfl, rfl, by decide, by decide, qT_in (List.mem_of_getElem? (i := 626) (by decide +kernel)) (by decide +kernel), by decide, fun z h => nomatch h⟩
  · cases z
theorem mL_count {l : Launch} (hl : l.stackTraces = false) : qMetH l yL_count cL_count 4 [(0, 9, 12, 15)] 7 103 spL_count := by
  refine qMetH_of (p0 := 4) (f := FL_count) false (by decide +kernel) va_AOA_words.1 va_AOA_words.2 ?_ ?_ ?_
  · intro p e s m args below meth c D cA B Q lo' lj st μ cs hF hZ htb h
    exact qc_VX (C := RX8) (T := TX8) (N := 5) hF hZ htb hokL_count (mX8_count hl) (by exact (qm_c (qT_in (List.mem_of_getElem? (i := 877) (by decide +kernel)) (by decide +kernel)) (qm_c (qT_in (List.mem_of_getElem? (i := 878) (by decide +kernel)) (by decide +kernel)) (qm_c (qT_in (List.mem_of_getElem? (i := 879) (by decide +kernel)) (by decide +kernel)) (qm_c (qT_in (List.mem_of_getElem? (i := 51) (by decide +kernel)) (by decide +kernel)) (qm_c (qT_in (List.mem_of_getElem? (i := 880) (by decide +kernel)) (by decide +kernel)) qm_0)))))) rfl (by decide +kernel) (by decide) sg_ri_i_recv dL_count_4 h
  · rintro av μ ⟨x1, x2, x3, rfl, hp⟩
    exact Nat.le_of_ble_eq_true rfl
  · rintro av μ ⟨x1, x2, x3, rfl, hp⟩
    have h := xL_count x1 x2 x3 μ hp
    rw [← sg_saia_i_R (P := PL_count)] at h
    exact h
theorem hokL_append : ∀ E h, hndL_append E = some h → qHnd (tableOf [(0, 9, 12, 15), (0, 9, 15, 27)]) "HeaderSqueezerLaw" 4 E h := by
  intro E h z
  unfold hndL_append at z
  split at z
  · rename_i g
    cases z
    subst g
    exact ⟨[], ⟨0, 9, 12, 15⟩, [⟨0, 9, 15, 27⟩], rfl, rfl, by decide, by decide, qT_in (List.mem_of_getElem? (i := 626) (by decide +kernel)) (by decide +kernel), by decide, fun z h => nomatch h⟩
  · split at z
    · rename_i g
      cases z
      subst g
      exact ⟨[⟨0, 9, 12, 15⟩], ⟨0, 9, 15, 27⟩, [], rfl, rfl, by decide, by decide, qT_in (List.mem_of_getElem? (i := 739) (by decide +kernel)) (by decide +kernel), by decide, fun z h => by
        rw [List.mem_singleton.mp h]
        exact ⟨by decide, eA, qT_in (List.mem_of_getElem? (i := 626) (by decide +kernel)) (by decide +kernel), by decide⟩⟩
    · cases z
theorem mL_append {l : Launch} (hl : l.stackTraces = false) : qMetH l yL_append cL_append 4 [(0, 9, 12, 15), (0, 9, 15, 27)] 7 103 spL_append := by
  refine qMetH_of (p0 := 4) (f := FL_append) false (by decide +kernel) va_AOA_words.1 va_AOA_words.2 ?_ ?_ ?_
  · intro p e s m args below meth c D cA B Q lo' lj st μ cs hF hZ htb h
    exact qc_VX (C := RX8) (T := TX8) (N := 5) hF hZ htb hokL_append (mX8_append hl) (by exact (qm_c (qT_in (List.mem_of_getElem? (i := 884) (by decide +kernel)) (by decide +kernel)) (qm_c (qT_in (List.mem_of_getElem? (i := 885) (by decide +kernel)) (by decide +kernel)) (qm_c (qT_in (List.mem_of_getElem? (i := 886) (by decide +kernel)) (by decide +kernel)) (qm_c (qT_in (List.mem_of_getElem? (i := 51) (by decide +kernel)) (by decide +kernel)) (qm_c (qT_in (List.mem_of_getElem? (i := 887) (by decide +kernel)) (by decide +kernel)) qm_0)))))) rfl (by decide +kernel) (by decide) sg_ri_i_recv dL_append_4 h
  · rintro av μ ⟨x1, x2, x3, rfl, hp⟩
    exact Nat.le_of_ble_eq_true rfl
  · rintro av μ ⟨x1, x2, x3, rfl, hp⟩
    have h := xL_append x1 x2 x3 μ hp
    rw [← sg_saia_i_R (P := PL_append)] at h
    exact h
theorem hokL_undo : ∀ E h, hndL_undo E = some h → qHnd (tableOf [(0, 8, 11, 27)]) "HeaderSqueezerLaw" 3 E h := by
  intro E h z
  unfold hndL_undo at z
  split at z
  · rename_i g
    cases z
    subst g
    exact ⟨[], ⟨0, 8, 11, 27⟩, [], rfl, rfl, by decide, by decide, qT_in (List.mem_of_getElem? (i := 739) (by decide +kernel)) (by decide +kernel), by decide, fun z h => nomatch h⟩
  · cases z
theorem mL_undo {l : Launch} (hl : l.stackTraces = false) : qMetH l yL_undo cL_undo 3 [(0, 8, 11, 27)] 7 131 spL_undo := by
  refine qMetH_of (p0 := 3) (f := FL_undo) false (by decide +kernel) va_AOA_words.1 va_AOA_words.2 ?_ ?_ ?_
  · intro p e s m args below meth c D cA B Q lo' lj st μ cs hF hZ htb h
    exact qc_VX (C := RX8) (T := TX8) (N := 5) hF hZ htb hokL_undo (mX8_undo hl) (by exact (qm_c (qT_in (List.mem_of_getElem? (i := 892) (by decide +kernel)) (by decide +kernel)) (qm_c (qT_in (List.mem_of_getElem? (i := 893) (by decide +kernel)) (by decide +kernel)) (qm_c (qT_in (List.mem_of_getElem? (i := 894) (by decide +kernel)) (by decide +kernel)) (qm_c (qT_in (List.mem_of_getElem? (i := 51) (by decide +kernel)) (by decide +kernel)) (qm_c (qT_in (List.mem_of_getElem? (i := 895) (by decide +kernel)) (by decide +kernel)) qm_0)))))) rfl (by decide +kernel) (by decide) sg_r_i_recv dL_undo_3 h
  · rintro av μ ⟨x1, x2, rfl, hp⟩
    exact Nat.le_of_ble_eq_true rfl
  · rintro av μ ⟨x1, x2, rfl, hp⟩
    have h := xL_undo x1 x2 μ hp
    rw [← sg_saa_i_R (P := PL_undo)] at h
    exact h
