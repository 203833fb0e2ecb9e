/-! ===== contracts of methods that may throw (by program) ===== -/
theorem mX8_setField {l : Launch} (hl : l.stackTraces = false) : qMetX l yX8_setField cX8_setField 4 (some .int) 6 131 spX8_setField tvX8_setField := by
  refine qMetX_of hl (cal := calX8_setField) (fld := fX8) (cst := kX8) (csl := jX8) (nwo := nX8) (thr := thrX8_setField) false (by decide +kernel) rfl tabX8 va_AOA_words.1 va_AOA_words.2 (by decide) (by decide) ?_ ?_ ?_ ?_ ?_
  · intro pc E h
    unfold thrX8_setField at h
    split at h
    · cases h
      exact ⟨36, 38, 40, "no such field", kI_w.1, kI_w.2, by decide, kI_in, kI_ot, by decide +kernel, dX8_setField_12, dX8_setField_13, dX8_setField_15, dX8_setField_18, dX8_setField_9⟩
    · cases h
      exact ⟨47, 49, 51, "value out of range", kA_w.1, kA_w.2, by decide, kA_in, kA_ot, by decide +kernel, dX8_setField_34, dX8_setField_35, dX8_setField_37, dX8_setField_40, dX8_setField_31⟩
    · cases h
  · intro idx kd q' h p e s m args below meth c D cA B Q hF
    unfold calX8_setField at h
    split at h
    · cases h
      exact qc_S hF mX8_inRange (by exact (qm_c qw426 (qm_c qw427 (qm_c qw10 (qm_c qw428 qm_0))))) rfl (by decide +kernel) (by decide)
    · cases h
      exact qc_S hF mX8_fieldMost (by exact (qm_c qw497 (qm_c qw498 (qm_c qw10 (qm_c qw499 qm_0))))) rfl (by decide +kernel) (by decide)
    · cases h
      exact qc_V (C := RX8) (T := TX8) (N := 5) hF mX8_saveState (by exact (qm_c qw264 (qm_c qw266 (qm_c qw0 (qm_c qw10 (qm_c qw267 qm_0)))))) rfl (by decide +kernel) (by decide) sg_r_v_recv
    · cases h
  · rintro av μ ⟨o, x1, x2, rfl, ht, hp⟩
    exact Nat.le_of_ble_eq_true rfl
  · rintro av μ ⟨o, x1, x2, rfl, ht, hp⟩
    obtain ⟨H, m, hP⟩ := hp
    exact hP.2.1
  · rintro av μ ⟨o, x1, x2, rfl, ht, hp⟩
    have h := xX8_setField o x1 x2 μ ht hp
    rw [← sg_rii_i_R (P := PX8_setField)] at h
    have e : thX μ (TX8_setField o x1 x2 μ) = fun E μ' (cs : Nat × Nat) => tvX8_setField [.ref o, .int x1, .int x2] μ E ∧ μ' = μ ∧ cs.1 + 1 ≤ 1 ∧ cs.2 + 6 ≤ 6 := by
      funext E μ' cs
      exact propext ⟨fun h => ⟨fun _ _ _ e => by cases e; exact h.1, h.2⟩, fun h => ⟨h.1 o x1 x2 rfl, h.2⟩⟩
    rw [e] at h
    exact h
theorem mX8_setStrides {l : Launch} (hl : l.stackTraces = false) : qMetX l yX8_setStrides cX8_setStrides 4 (some .int) 6 131 spX8_setStrides tvX8_setStrides := by
  refine qMetX_of hl (cal := calX8_setStrides) (fld := fX8) (cst := kX8) (csl := jX8) (nwo := nX8) (thr := thrX8_setStrides) false (by decide +kernel) rfl tabX8 va_AOA_words.1 va_AOA_words.2 (by decide) (by decide) ?_ ?_ ?_ ?_ ?_
  · intro pc E h
    unfold thrX8_setStrides at h
    split at h
    · cases h
      exact ⟨47, 65, 51, "stride out of range", kA_w.1, kA_w.2, by decide, kA_in, kA_ot, by decide +kernel, dX8_setStrides_25, dX8_setStrides_26, dX8_setStrides_28, dX8_setStrides_31, dX8_setStrides_22⟩
    · cases h
  · intro idx kd q' h p e s m args below meth c D cA B Q hF
    unfold calX8_setStrides at h
    split at h
    · cases h
      exact qc_S hF mX8_inRange (by exact (qm_c qw426 (qm_c qw427 (qm_c qw10 (qm_c qw428 qm_0))))) rfl (by decide +kernel) (by decide)
    · cases h
      exact qc_V (C := RX8) (T := TX8) (N := 5) hF mX8_saveState (by exact (qm_c qw264 (qm_c qw266 (qm_c qw0 (qm_c qw10 (qm_c qw267 qm_0)))))) rfl (by decide +kernel) (by decide) sg_r_v_recv
    · cases h
  · rintro av μ ⟨o, x1, x2, rfl, ht, hp⟩
    exact Nat.le_of_ble_eq_true rfl
  · rintro av μ ⟨o, x1, x2, rfl, ht, hp⟩
    obtain ⟨H, m, hP⟩ := hp
    exact hP.2.1
  · rintro av μ ⟨o, x1, x2, rfl, ht, hp⟩
    have h := xX8_setStrides o x1 x2 μ ht hp
    rw [← sg_rii_i_R (P := PX8_setStrides)] at h
    have e : thX μ (TX8_setStrides o x1 x2 μ) = fun E μ' (cs : Nat × Nat) => tvX8_setStrides [.ref o, .int x1, .int x2] μ E ∧ μ' = μ ∧ cs.1 + 1 ≤ 1 ∧ cs.2 + 6 ≤ 6 := by
      funext E μ' cs
      exact propext ⟨fun h => ⟨fun _ _ _ e => by cases e; exact h.1, h.2⟩, fun h => ⟨h.1 o x1 x2 rfl, h.2⟩⟩
    rw [e] at h
    exact h
theorem mX8_setPolicy {l : Launch} (hl : l.stackTraces = false) : qMetX l yX8_setPolicy cX8_setPolicy 4 (some .int) 6 131 spX8_setPolicy tvX8_setPolicy := by
  refine qMetX_of hl (cal := calX8_setPolicy) (fld := fX8) (cst := kX8) (csl := jX8) (nwo := nX8) (thr := thrX8_setPolicy) false (by decide +kernel) rfl tabX8 va_AOA_words.1 va_AOA_words.2 (by decide) (by decide) ?_ ?_ ?_ ?_ ?_
  · intro pc E h
    unfold thrX8_setPolicy at h
    split at h
    · cases h
      exact ⟨47, 67, 51, "policy or confidence out of range", kA_w.1, kA_w.2, by decide, kA_in, kA_ot, by decide +kernel, dX8_setPolicy_22, dX8_setPolicy_23, dX8_setPolicy_25, dX8_setPolicy_28, dX8_setPolicy_19⟩
    · cases h
  · intro idx kd q' h p e s m args below meth c D cA B Q hF
    unfold calX8_setPolicy at h
    split at h
    · cases h
      exact qc_S hF mX8_inRange (by exact (qm_c qw426 (qm_c qw427 (qm_c qw10 (qm_c qw428 qm_0))))) rfl (by decide +kernel) (by decide)
    · cases h
      exact qc_V (C := RX8) (T := TX8) (N := 5) hF mX8_saveState (by exact (qm_c qw264 (qm_c qw266 (qm_c qw0 (qm_c qw10 (qm_c qw267 qm_0)))))) rfl (by decide +kernel) (by decide) sg_r_v_recv
    · cases h
  · rintro av μ ⟨o, x1, x2, rfl, ht, hp⟩
    exact Nat.le_of_ble_eq_true rfl
  · rintro av μ ⟨o, x1, x2, rfl, ht, hp⟩
    obtain ⟨H, m, hP⟩ := hp
    exact hP.2.1
  · rintro av μ ⟨o, x1, x2, rfl, ht, hp⟩
    have h := xX8_setPolicy o x1 x2 μ ht hp
    rw [← sg_rii_i_R (P := PX8_setPolicy)] at h
    have e : thX μ (TX8_setPolicy o x1 x2 μ) = fun E μ' (cs : Nat × Nat) => tvX8_setPolicy [.ref o, .int x1, .int x2] μ E ∧ μ' = μ ∧ cs.1 + 1 ≤ 1 ∧ cs.2 + 6 ≤ 6 := by
      funext E μ' cs
      exact propext ⟨fun h => ⟨fun _ _ _ e => by cases e; exact h.1, h.2⟩, fun h => ⟨h.1 o x1 x2 rfl, h.2⟩⟩
    rw [e] at h
    exact h
theorem mX8_send {l : Launch} (hl : l.stackTraces = false) : qMetX l yX8_send cX8_send 1 (some .int) 6 131 spX8_send tvX8_send := by
  refine qMetX_of hl (cal := calX8_send) (fld := fX8) (cst := kX8) (csl := jX8) (nwo := nX8) (thr := thrX8_send) false (by decide +kernel) rfl tabX8 va_AOA_words.1 va_AOA_words.2 (by decide) (by decide) ?_ ?_ ?_ ?_ ?_
  · intro pc E h
    unfold thrX8_send at h
    split at h
    · cases h
      exact ⟨83, 85, 87, "no packet can be sent", kS_w.1, kS_w.2, by decide, kS_in, kS_ot, by decide +kernel, dX8_send_14, dX8_send_15, dX8_send_17, dX8_send_20, dX8_send_11⟩
    · cases h
  · intro idx kd q' h p e s m args below meth c D cA B Q hF
    unfold calX8_send at h
    split at h
    · cases h
      exact qc_V (C := RX8) (T := TX8) (N := 5) hF mX8_saveState (by exact (qm_c qw264 (qm_c qw266 (qm_c qw0 (qm_c qw10 (qm_c qw267 qm_0)))))) rfl (by decide +kernel) (by decide) sg_r_v_recv
    · cases h
      exact qc_V (C := RX6) (T := TX6) (N := 4) hF mX6_hasRoomFor (by exact (qm_c qw543 (qm_c qw544 (qm_c qw545 (qm_c qw12 (qm_c qw546 qm_0)))))) rfl (by decide +kernel) (by decide) sg_ri_i_recv
    · cases h
      exact qc_V (C := RX6) (T := TX6) (N := 4) hF mX6_sendNext (by exact (qm_c qw563 (qm_c qw564 (qm_c qw565 (qm_c qw12 (qm_c qw566 qm_0)))))) rfl (by decide +kernel) (by decide) sg_r_i_recv
    · cases h
  · rintro av μ ⟨o, rfl, ht, hp⟩
    exact Nat.le_of_ble_eq_true rfl
  · rintro av μ ⟨o, rfl, ht, hp⟩
    obtain ⟨H, m, hP⟩ := hp
    exact hP.2.1
  · rintro av μ ⟨o, rfl, ht, hp⟩
    have h := xX8_send o μ ht hp
    rw [← sg_r_i_R (P := PX8_send)] at h
    have e : thX μ (TX8_send o μ) = fun E μ' (cs : Nat × Nat) => tvX8_send [.ref o] μ E ∧ μ' = μ ∧ cs.1 + 1 ≤ 1 ∧ cs.2 + 6 ≤ 6 := by
      funext E μ' cs
      exact propext ⟨fun h => ⟨fun _ e => by cases e; exact h.1, h.2⟩, fun h => ⟨h.1 o rfl, h.2⟩⟩
    rw [e] at h
    exact h
theorem mX8_stream {l : Launch} (hl : l.stackTraces = false) : qMetX l yX8_stream cX8_stream 3 (some .int) 6 131 spX8_stream tvX8_stream := by
  refine qMetX_of hl (cal := calX8_stream) (fld := fX8) (cst := kX8) (csl := jX8) (nwo := nX8) (thr := thrX8_stream) false (by decide +kernel) rfl tabX8 va_AOA_words.1 va_AOA_words.2 (by decide) (by decide) ?_ ?_ ?_ ?_ ?_
  · intro pc E h
    unfold thrX8_stream at h
    split at h
    · cases h
      exact ⟨47, 92, 51, "times out of range", kA_w.1, kA_w.2, by decide, kA_in, kA_ot, by decide +kernel, dX8_stream_13, dX8_stream_14, dX8_stream_16, dX8_stream_19, dX8_stream_10⟩
    · cases h
      exact ⟨83, 94, 87, "so many packets cannot be sent", kS_w.1, kS_w.2, by decide, kS_in, kS_ot, by decide +kernel, dX8_stream_34, dX8_stream_35, dX8_stream_37, dX8_stream_40, dX8_stream_31⟩
    · cases h
  · intro idx kd q' h p e s m args below meth c D cA B Q hF
    unfold calX8_stream at h
    split at h
    · cases h
      exact qc_S hF mX8_inRange (by exact (qm_c qw426 (qm_c qw427 (qm_c qw10 (qm_c qw428 qm_0))))) rfl (by decide +kernel) (by decide)
    · cases h
      exact qc_V (C := RX8) (T := TX8) (N := 5) hF mX8_saveState (by exact (qm_c qw264 (qm_c qw266 (qm_c qw0 (qm_c qw10 (qm_c qw267 qm_0)))))) rfl (by decide +kernel) (by decide) sg_r_v_recv
    · cases h
      exact qc_V (C := RX5) (T := TX5) (N := 11) hF mX5_step (by exact (qm_c qw310 (qm_c qw311 (qm_c qw312 (qm_c qw14 (qm_c qw313 qm_0)))))) rfl (by decide +kernel) (by decide) sg_r_v_recv
    · cases h
      exact qc_V (C := RX6) (T := TX6) (N := 4) hF mX6_hasRoomFor (by exact (qm_c qw543 (qm_c qw544 (qm_c qw545 (qm_c qw12 (qm_c qw546 qm_0)))))) rfl (by decide +kernel) (by decide) sg_ri_i_recv
    · cases h
      exact qc_V (C := RX6) (T := TX6) (N := 4) hF mX6_sendNext (by exact (qm_c qw563 (qm_c qw564 (qm_c qw565 (qm_c qw12 (qm_c qw566 qm_0)))))) rfl (by decide +kernel) (by decide) sg_r_i_recv
    · cases h
  · rintro av μ ⟨o, x1, rfl, ht, hp⟩
    exact Nat.le_of_ble_eq_true rfl
  · rintro av μ ⟨o, x1, rfl, ht, hp⟩
    obtain ⟨H, m, hP⟩ := hp
    exact hP.2.1
  · rintro av μ ⟨o, x1, rfl, ht, hp⟩
    have h := xX8_stream o x1 μ ht hp
    rw [← sg_ri_i_R (P := PX8_stream)] at h
    have e : thX μ (TX8_stream o x1 μ) = fun E μ' (cs : Nat × Nat) => tvX8_stream [.ref o, .int x1] μ E ∧ μ' = μ ∧ cs.1 + 1 ≤ 1 ∧ cs.2 + 6 ≤ 6 := by
      funext E μ' cs
      exact propext ⟨fun h => ⟨fun _ _ e => by cases e; exact h.1, h.2⟩, fun h => ⟨h.1 o x1 rfl, h.2⟩⟩
    rw [e] at h
    exact h
theorem mX8_field {l : Launch} (hl : l.stackTraces = false) : qMetX l yX8_field cX8_field 2 (some .int) 6 82 spX8_field tvX8_field := by
  refine qMetX_of hl (cal := calX8_field) (fld := fX8) (cst := kX8) (csl := jX8) (nwo := nX8) (thr := thrX8_field) false (by decide +kernel) rfl tabX8 va_AOA_words.1 va_AOA_words.2 (by decide) (by decide) ?_ ?_ ?_ ?_ ?_
  · intro pc E h
    unfold thrX8_field at h
    split at h
    · cases h
      exact ⟨36, 38, 40, "no such field", kI_w.1, kI_w.2, by decide, kI_in, kI_ot, by decide +kernel, dX8_field_12, dX8_field_13, dX8_field_15, dX8_field_18, dX8_field_9⟩
    · cases h
  · intro idx kd q' h p e s m args below meth c D cA B Q hF
    unfold calX8_field at h
    split at h
    · cases h
      exact qc_S hF mX8_inRange (by exact (qm_c qw426 (qm_c qw427 (qm_c qw10 (qm_c qw428 qm_0))))) rfl (by decide +kernel) (by decide)
    · cases h
  · rintro av μ ⟨o, x1, rfl, ht, hp⟩
    exact Nat.le_of_ble_eq_true rfl
  · rintro av μ ⟨o, x1, rfl, ht, hp⟩
    obtain ⟨H, m, hP⟩ := hp
    exact hP.2.1
  · rintro av μ ⟨o, x1, rfl, ht, hp⟩
    have h := xX8_field o x1 μ ht hp
    rw [← sg_ri_i_R (P := PX8_field)] at h
    have e : thX μ (TX8_field o x1 μ) = fun E μ' (cs : Nat × Nat) => tvX8_field [.ref o, .int x1] μ E ∧ μ' = μ ∧ cs.1 + 1 ≤ 1 ∧ cs.2 + 6 ≤ 6 := by
      funext E μ' cs
      exact propext ⟨fun h => ⟨fun _ _ e => by cases e; exact h.1, h.2⟩, fun h => ⟨h.1 o x1 rfl, h.2⟩⟩
    rw [e] at h
    exact h
theorem mX8_sizeWith {l : Launch} (hl : l.stackTraces = false) : qMetX l yX8_sizeWith cX8_sizeWith 3 (some .int) 6 85 spX8_sizeWith tvX8_sizeWith := by
  refine qMetX_of hl (cal := calX8_sizeWith) (fld := fX8) (cst := kX8) (csl := jX8) (nwo := nX8) (thr := thrX8_sizeWith) false (by decide +kernel) rfl tabX8 va_AOA_words.1 va_AOA_words.2 (by decide) (by decide) ?_ ?_ ?_ ?_ ?_
  · intro pc E h
    unfold thrX8_sizeWith at h
    split at h
    · cases h
      exact ⟨47, 67, 51, "policy or confidence out of range", kA_w.1, kA_w.2, by decide, kA_in, kA_ot, by decide +kernel, dX8_sizeWith_22, dX8_sizeWith_23, dX8_sizeWith_25, dX8_sizeWith_28, dX8_sizeWith_19⟩
    · cases h
  · intro idx kd q' h p e s m args below meth c D cA B Q hF
    unfold calX8_sizeWith at h
    split at h
    · cases h
      exact qc_S hF mX8_inRange (by exact (qm_c qw426 (qm_c qw427 (qm_c qw10 (qm_c qw428 qm_0))))) rfl (by decide +kernel) (by decide)
    · cases h
      exact qc_V (C := RX5) (T := TX5) (N := 11) hF mX5_usedReference (by exact (qm_c qw612 (qm_c qw572 (qm_c qw573 (qm_c qw14 (qm_c qw574 qm_0)))))) rfl (by decide +kernel) (by decide) sg_rii_i_recv
    · cases h
      exact qc_V (C := RX5) (T := TX5) (N := 11) hF mX5_sizeFrom (by exact (qm_c qw613 (qm_c qw577 (qm_c qw578 (qm_c qw14 (qm_c qw579 qm_0)))))) rfl (by decide +kernel) (by decide) sg_rii_i_recv
    · cases h
  · rintro av μ ⟨o, x1, x2, rfl, ht, hp⟩
    exact Nat.le_of_ble_eq_true rfl
  · rintro av μ ⟨o, x1, x2, rfl, ht, hp⟩
    obtain ⟨H, m, hP⟩ := hp
    exact hP.2.1
  · rintro av μ ⟨o, x1, x2, rfl, ht, hp⟩
    have h := xX8_sizeWith o x1 x2 μ ht hp
    rw [← sg_rii_i_R (P := PX8_sizeWith)] at h
    have e : thX μ (TX8_sizeWith o x1 x2 μ) = fun E μ' (cs : Nat × Nat) => tvX8_sizeWith [.ref o, .int x1, .int x2] μ E ∧ μ' = μ ∧ cs.1 + 1 ≤ 1 ∧ cs.2 + 6 ≤ 6 := by
      funext E μ' cs
      exact propext ⟨fun h => ⟨fun _ _ _ e => by cases e; exact h.1, h.2⟩, fun h => ⟨h.1 o x1 x2 rfl, h.2⟩⟩
    rw [e] at h
    exact h
theorem mX8_sent {l : Launch} (hl : l.stackTraces = false) : qMetX l yX8_sent cX8_sent 3 (some .int) 6 82 spX8_sent tvX8_sent := by
  refine qMetX_of hl (cal := calX8_sent) (fld := fX8) (cst := kX8) (csl := jX8) (nwo := nX8) (thr := thrX8_sent) false (by decide +kernel) rfl tabX8 va_AOA_words.1 va_AOA_words.2 (by decide) (by decide) ?_ ?_ ?_ ?_ ?_
  · intro pc E h
    unfold thrX8_sent at h
    split at h
    · cases h
      exact ⟨36, 118, 40, "no such packet has been sent", kI_w.1, kI_w.2, by decide, kI_in, kI_ot, by decide +kernel, dX8_sent_23, dX8_sent_24, dX8_sent_26, dX8_sent_29, dX8_sent_20⟩
    · cases h
      exact ⟨47, 120, 51, "what out of range", kA_w.1, kA_w.2, by decide, kA_in, kA_ot, by decide +kernel, dX8_sent_43, dX8_sent_44, dX8_sent_46, dX8_sent_49, dX8_sent_40⟩
    · cases h
  · intro idx kd q' h p e s m args below meth c D cA B Q hF
    unfold calX8_sent at h
    split at h
    · cases h
      exact qc_S hF mX8_inRange (by exact (qm_c qw426 (qm_c qw427 (qm_c qw10 (qm_c qw428 qm_0))))) rfl (by decide +kernel) (by decide)
    · cases h
      exact qc_V (C := RX5) (T := TX5) (N := 11) hF mX5_sentValue (by exact (qm_c qw795 (qm_c qw796 (qm_c qw797 (qm_c qw14 (qm_c qw798 qm_0)))))) rfl (by decide +kernel) (by decide) sg_rii_i_recv
    · cases h
  · rintro av μ ⟨o, x1, x2, rfl, ht, hp⟩
    exact Nat.le_of_ble_eq_true rfl
  · rintro av μ ⟨o, x1, x2, rfl, ht, hp⟩
    obtain ⟨H, m, hP⟩ := hp
    exact hP.2.1
  · rintro av μ ⟨o, x1, x2, rfl, ht, hp⟩
    have h := xX8_sent o x1 x2 μ ht hp
    rw [← sg_rii_i_R (P := PX8_sent)] at h
    have e : thX μ (TX8_sent o x1 x2 μ) = fun E μ' (cs : Nat × Nat) => tvX8_sent [.ref o, .int x1, .int x2] μ E ∧ μ' = μ ∧ cs.1 + 1 ≤ 1 ∧ cs.2 + 6 ≤ 6 := by
      funext E μ' cs
      exact propext ⟨fun h => ⟨fun _ _ _ e => by cases e; exact h.1, h.2⟩, fun h => ⟨h.1 o x1 x2 rfl, h.2⟩⟩
    rw [e] at h
    exact h
theorem mX8_deliver {l : Launch} (hl : l.stackTraces = false) : qMetX l yX8_deliver cX8_deliver 2 (some .int) 6 137 spX8_deliver tvX8_deliver := by
  refine qMetX_of hl (cal := calX8_deliver) (fld := fX8) (cst := kX8) (csl := jX8) (nwo := nX8) (thr := thrX8_deliver) false (by decide +kernel) rfl tabX8 va_AOA_words.1 va_AOA_words.2 (by decide) (by decide) ?_ ?_ ?_ ?_ ?_
  · intro pc E h
    unfold thrX8_deliver at h
    split at h
    · cases h
      exact ⟨36, 128, 40, "no such packet in the link", kI_w.1, kI_w.2, by decide, kI_in, kI_ot, by decide +kernel, dX8_deliver_17, dX8_deliver_18, dX8_deliver_20, dX8_deliver_23, dX8_deliver_14⟩
    · cases h
  · intro idx kd q' h p e s m args below meth c D cA B Q hF
    unfold calX8_deliver at h
    split at h
    · cases h
      exact qc_V (C := RX8) (T := TX8) (N := 5) hF mX8_saveState (by exact (qm_c qw264 (qm_c qw266 (qm_c qw0 (qm_c qw10 (qm_c qw267 qm_0)))))) rfl (by decide +kernel) (by decide) sg_r_v_recv
    · cases h
      exact qc_V (C := RX0) (T := TX0) (N := 2) hF mX0_has (by exact (qm_c qw621 (qm_c qw622 (qm_c qw623 (qm_c qw13 (qm_c qw624 qm_0)))))) rfl (by decide +kernel) (by decide) sg_ri_i_recv
    · cases h
      exact qc_V (C := RX6) (T := TX6) (N := 4) hF mX6_deliverPacket (by exact (qm_c qw333 (qm_c qw334 (qm_c qw335 (qm_c qw12 (qm_c qw336 qm_0)))))) rfl (by decide +kernel) (by decide) sg_ri_i_recv
    · cases h
  · rintro av μ ⟨o, x1, rfl, ht, hp⟩
    exact Nat.le_of_ble_eq_true rfl
  · rintro av μ ⟨o, x1, rfl, ht, hp⟩
    obtain ⟨H, m, hP⟩ := hp
    exact hP.2.1
  · rintro av μ ⟨o, x1, rfl, ht, hp⟩
    have h := xX8_deliver o x1 μ ht hp
    rw [← sg_ri_i_R (P := PX8_deliver)] at h
    have e : thX μ (TX8_deliver o x1 μ) = fun E μ' (cs : Nat × Nat) => tvX8_deliver [.ref o, .int x1] μ E ∧ μ' = μ ∧ cs.1 + 1 ≤ 1 ∧ cs.2 + 6 ≤ 6 := by
      funext E μ' cs
      exact propext ⟨fun h => ⟨fun _ _ e => by cases e; exact h.1, h.2⟩, fun h => ⟨h.1 o x1 rfl, h.2⟩⟩
    rw [e] at h
    exact h
theorem mX8_lose {l : Launch} (hl : l.stackTraces = false) : qMetX l yX8_lose cX8_lose 2 (some .int) 6 131 spX8_lose tvX8_lose := by
  refine qMetX_of hl (cal := calX8_lose) (fld := fX8) (cst := kX8) (csl := jX8) (nwo := nX8) (thr := thrX8_lose) false (by decide +kernel) rfl tabX8 va_AOA_words.1 va_AOA_words.2 (by decide) (by decide) ?_ ?_ ?_ ?_ ?_
  · intro pc E h
    unfold thrX8_lose at h
    split at h
    · cases h
      exact ⟨36, 128, 40, "no such packet in the link", kI_w.1, kI_w.2, by decide, kI_in, kI_ot, by decide +kernel, dX8_lose_17, dX8_lose_18, dX8_lose_20, dX8_lose_23, dX8_lose_14⟩
    · cases h
  · intro idx kd q' h p e s m args below meth c D cA B Q hF
    unfold calX8_lose at h
    split at h
    · cases h
      exact qc_V (C := RX8) (T := TX8) (N := 5) hF mX8_saveState (by exact (qm_c qw264 (qm_c qw266 (qm_c qw0 (qm_c qw10 (qm_c qw267 qm_0)))))) rfl (by decide +kernel) (by decide) sg_r_v_recv
    · cases h
      exact qc_V (C := RX0) (T := TX0) (N := 2) hF mX0_has (by exact (qm_c qw621 (qm_c qw622 (qm_c qw623 (qm_c qw13 (qm_c qw624 qm_0)))))) rfl (by decide +kernel) (by decide) sg_ri_i_recv
    · cases h
      exact qc_V (C := RX0) (T := TX0) (N := 2) hF mX0_takeOut (by exact (qm_c qw634 (qm_c qw338 (qm_c qw339 (qm_c qw13 (qm_c qw340 qm_0)))))) rfl (by decide +kernel) (by decide) sg_ri_i_recv
    · cases h
  · rintro av μ ⟨o, x1, rfl, ht, hp⟩
    exact Nat.le_of_ble_eq_true rfl
  · rintro av μ ⟨o, x1, rfl, ht, hp⟩
    obtain ⟨H, m, hP⟩ := hp
    exact hP.2.1
  · rintro av μ ⟨o, x1, rfl, ht, hp⟩
    have h := xX8_lose o x1 μ ht hp
    rw [← sg_ri_i_R (P := PX8_lose)] at h
    have e : thX μ (TX8_lose o x1 μ) = fun E μ' (cs : Nat × Nat) => tvX8_lose [.ref o, .int x1] μ E ∧ μ' = μ ∧ cs.1 + 1 ≤ 1 ∧ cs.2 + 6 ≤ 6 := by
      funext E μ' cs
      exact propext ⟨fun h => ⟨fun _ _ e => by cases e; exact h.1, h.2⟩, fun h => ⟨h.1 o x1 rfl, h.2⟩⟩
    rw [e] at h
    exact h
theorem mX8_copy {l : Launch} (hl : l.stackTraces = false) : qMetX l yX8_copy cX8_copy 2 (some .int) 6 131 spX8_copy tvX8_copy := by
  refine qMetX_of hl (cal := calX8_copy) (fld := fX8) (cst := kX8) (csl := jX8) (nwo := nX8) (thr := thrX8_copy) false (by decide +kernel) rfl tabX8 va_AOA_words.1 va_AOA_words.2 (by decide) (by decide) ?_ ?_ ?_ ?_ ?_
  · intro pc E h
    unfold thrX8_copy at h
    split at h
    · cases h
      exact ⟨36, 128, 40, "no such packet in the link", kI_w.1, kI_w.2, by decide, kI_in, kI_ot, by decide +kernel, dX8_copy_17, dX8_copy_18, dX8_copy_20, dX8_copy_23, dX8_copy_14⟩
    · cases h
      exact ⟨83, 140, 87, "the link is full", kS_w.1, kS_w.2, by decide, kS_in, kS_ot, by decide +kernel, dX8_copy_40, dX8_copy_41, dX8_copy_43, dX8_copy_46, dX8_copy_37⟩
    · cases h
  · intro idx kd q' h p e s m args below meth c D cA B Q hF
    unfold calX8_copy at h
    split at h
    · cases h
      exact qc_V (C := RX8) (T := TX8) (N := 5) hF mX8_saveState (by exact (qm_c qw264 (qm_c qw266 (qm_c qw0 (qm_c qw10 (qm_c qw267 qm_0)))))) rfl (by decide +kernel) (by decide) sg_r_v_recv
    · cases h
      exact qc_V (C := RX0) (T := TX0) (N := 2) hF mX0_has (by exact (qm_c qw621 (qm_c qw622 (qm_c qw623 (qm_c qw13 (qm_c qw624 qm_0)))))) rfl (by decide +kernel) (by decide) sg_ri_i_recv
    · cases h
      exact qc_V (C := RX0) (T := TX0) (N := 2) hF mX0_isFull (by exact (qm_c qw642 (qm_c qw390 (qm_c qw391 (qm_c qw13 (qm_c qw392 qm_0)))))) rfl (by decide +kernel) (by decide) sg_r_i_recv
    · cases h
      exact qc_V (C := RX0) (T := TX0) (N := 2) hF mX0_put (by exact (qm_c qw644 (qm_c qw386 (qm_c qw387 (qm_c qw13 (qm_c qw388 qm_0)))))) rfl (by decide +kernel) (by decide) sg_ri_v_recv
    · cases h
  · rintro av μ ⟨o, x1, rfl, ht, hp⟩
    exact Nat.le_of_ble_eq_true rfl
  · rintro av μ ⟨o, x1, rfl, ht, hp⟩
    obtain ⟨H, m, hP⟩ := hp
    exact hP.2.1
  · rintro av μ ⟨o, x1, rfl, ht, hp⟩
    have h := xX8_copy o x1 μ ht hp
    rw [← sg_ri_i_R (P := PX8_copy)] at h
    have e : thX μ (TX8_copy o x1 μ) = fun E μ' (cs : Nat × Nat) => tvX8_copy [.ref o, .int x1] μ E ∧ μ' = μ ∧ cs.1 + 1 ≤ 1 ∧ cs.2 + 6 ≤ 6 := by
      funext E μ' cs
      exact propext ⟨fun h => ⟨fun _ _ e => by cases e; exact h.1, h.2⟩, fun h => ⟨h.1 o x1 rfl, h.2⟩⟩
    rw [e] at h
    exact h
theorem mX8_deliverBack {l : Launch} (hl : l.stackTraces = false) : qMetX l yX8_deliverBack cX8_deliverBack 2 (some .int) 6 131 spX8_deliverBack tvX8_deliverBack := by
  refine qMetX_of hl (cal := calX8_deliverBack) (fld := fX8) (cst := kX8) (csl := jX8) (nwo := nX8) (thr := thrX8_deliverBack) false (by decide +kernel) rfl tabX8 va_AOA_words.1 va_AOA_words.2 (by decide) (by decide) ?_ ?_ ?_ ?_ ?_
  · intro pc E h
    unfold thrX8_deliverBack at h
    split at h
    · cases h
      exact ⟨36, 152, 40, "no such message in the link", kI_w.1, kI_w.2, by decide, kI_in, kI_ot, by decide +kernel, dX8_deliverBack_17, dX8_deliverBack_18, dX8_deliverBack_20, dX8_deliverBack_23, dX8_deliverBack_14⟩
    · cases h
  · intro idx kd q' h p e s m args below meth c D cA B Q hF
    unfold calX8_deliverBack at h
    split at h
    · cases h
      exact qc_V (C := RX8) (T := TX8) (N := 5) hF mX8_saveState (by exact (qm_c qw264 (qm_c qw266 (qm_c qw0 (qm_c qw10 (qm_c qw267 qm_0)))))) rfl (by decide +kernel) (by decide) sg_r_v_recv
    · cases h
      exact qc_V (C := RX0) (T := TX0) (N := 2) hF mX0_has (by exact (qm_c qw621 (qm_c qw622 (qm_c qw623 (qm_c qw13 (qm_c qw624 qm_0)))))) rfl (by decide +kernel) (by decide) sg_ri_i_recv
    · cases h
      exact qc_V (C := RX6) (T := TX6) (N := 4) hF mX6_deliverMessage (by exact (qm_c qw653 (qm_c qw654 (qm_c qw655 (qm_c qw12 (qm_c qw656 qm_0)))))) rfl (by decide +kernel) (by decide) sg_ri_i_recv
    · cases h
  · rintro av μ ⟨o, x1, rfl, ht, hp⟩
    exact Nat.le_of_ble_eq_true rfl
  · rintro av μ ⟨o, x1, rfl, ht, hp⟩
    obtain ⟨H, m, hP⟩ := hp
    exact hP.2.1
  · rintro av μ ⟨o, x1, rfl, ht, hp⟩
    have h := xX8_deliverBack o x1 μ ht hp
    rw [← sg_ri_i_R (P := PX8_deliverBack)] at h
    have e : thX μ (TX8_deliverBack o x1 μ) = fun E μ' (cs : Nat × Nat) => tvX8_deliverBack [.ref o, .int x1] μ E ∧ μ' = μ ∧ cs.1 + 1 ≤ 1 ∧ cs.2 + 6 ≤ 6 := by
      funext E μ' cs
      exact propext ⟨fun h => ⟨fun _ _ e => by cases e; exact h.1, h.2⟩, fun h => ⟨h.1 o x1 rfl, h.2⟩⟩
    rw [e] at h
    exact h
theorem mX8_loseBack {l : Launch} (hl : l.stackTraces = false) : qMetX l yX8_loseBack cX8_loseBack 2 (some .int) 6 131 spX8_loseBack tvX8_loseBack := by
  refine qMetX_of hl (cal := calX8_loseBack) (fld := fX8) (cst := kX8) (csl := jX8) (nwo := nX8) (thr := thrX8_loseBack) false (by decide +kernel) rfl tabX8 va_AOA_words.1 va_AOA_words.2 (by decide) (by decide) ?_ ?_ ?_ ?_ ?_
  · intro pc E h
    unfold thrX8_loseBack at h
    split at h
    · cases h
      exact ⟨36, 152, 40, "no such message in the link", kI_w.1, kI_w.2, by decide, kI_in, kI_ot, by decide +kernel, dX8_loseBack_17, dX8_loseBack_18, dX8_loseBack_20, dX8_loseBack_23, dX8_loseBack_14⟩
    · cases h
  · intro idx kd q' h p e s m args below meth c D cA B Q hF
    unfold calX8_loseBack at h
    split at h
    · cases h
      exact qc_V (C := RX8) (T := TX8) (N := 5) hF mX8_saveState (by exact (qm_c qw264 (qm_c qw266 (qm_c qw0 (qm_c qw10 (qm_c qw267 qm_0)))))) rfl (by decide +kernel) (by decide) sg_r_v_recv
    · cases h
      exact qc_V (C := RX0) (T := TX0) (N := 2) hF mX0_has (by exact (qm_c qw621 (qm_c qw622 (qm_c qw623 (qm_c qw13 (qm_c qw624 qm_0)))))) rfl (by decide +kernel) (by decide) sg_ri_i_recv
    · cases h
      exact qc_V (C := RX0) (T := TX0) (N := 2) hF mX0_takeOut (by exact (qm_c qw634 (qm_c qw338 (qm_c qw339 (qm_c qw13 (qm_c qw340 qm_0)))))) rfl (by decide +kernel) (by decide) sg_ri_i_recv
    · cases h
  · rintro av μ ⟨o, x1, rfl, ht, hp⟩
    exact Nat.le_of_ble_eq_true rfl
  · rintro av μ ⟨o, x1, rfl, ht, hp⟩
    obtain ⟨H, m, hP⟩ := hp
    exact hP.2.1
  · rintro av μ ⟨o, x1, rfl, ht, hp⟩
    have h := xX8_loseBack o x1 μ ht hp
    rw [← sg_ri_i_R (P := PX8_loseBack)] at h
    have e : thX μ (TX8_loseBack o x1 μ) = fun E μ' (cs : Nat × Nat) => tvX8_loseBack [.ref o, .int x1] μ E ∧ μ' = μ ∧ cs.1 + 1 ≤ 1 ∧ cs.2 + 6 ≤ 6 := by
      funext E μ' cs
      exact propext ⟨fun h => ⟨fun _ _ e => by cases e; exact h.1, h.2⟩, fun h => ⟨h.1 o x1 rfl, h.2⟩⟩
    rw [e] at h
    exact h
theorem mX8_waitingAt {l : Launch} (hl : l.stackTraces = false) : qMetX l yX8_waitingAt cX8_waitingAt 4 (some .int) 6 82 spX8_waitingAt tvX8_waitingAt := by
  refine qMetX_of hl (cal := calX8_waitingAt) (fld := fX8) (cst := kX8) (csl := jX8) (nwo := nX8) (thr := thrX8_waitingAt) false (by decide +kernel) rfl tabX8 va_AOA_words.1 va_AOA_words.2 (by decide) (by decide) ?_ ?_ ?_ ?_ ?_
  · intro pc E h
    unfold thrX8_waitingAt at h
    split at h
    · cases h
      exact ⟨36, 161, 40, "the link has no such index", kI_w.1, kI_w.2, by decide, kI_in, kI_ot, by decide +kernel, dX8_waitingAt_17, dX8_waitingAt_18, dX8_waitingAt_20, dX8_waitingAt_23, dX8_waitingAt_14⟩
    · cases h
  · intro idx kd q' h p e s m args below meth c D cA B Q hF
    unfold calX8_waitingAt at h
    split at h
    · cases h
      exact qc_V (C := RX0) (T := TX0) (N := 2) hF mX0_has (by exact (qm_c qw621 (qm_c qw622 (qm_c qw623 (qm_c qw13 (qm_c qw624 qm_0)))))) rfl (by decide +kernel) (by decide) sg_ri_i_recv
    · cases h
      exact qc_V (C := RX8) (T := TX8) (N := 5) hF mX8_linkOf (by exact (qm_c qw744 (qm_c qw746 (qm_c qw8 (qm_c qw10 (qm_c qw747 qm_0)))))) rfl (by decide +kernel) (by decide) sg_ri_a_recv
    · cases h
  · rintro av μ ⟨o, x1, x2, rfl, ht, hp⟩
    exact Nat.le_of_ble_eq_true rfl
  · rintro av μ ⟨o, x1, x2, rfl, ht, hp⟩
    obtain ⟨H, m, hP⟩ := hp
    exact hP.2.1
  · rintro av μ ⟨o, x1, x2, rfl, ht, hp⟩
    have h := xX8_waitingAt o x1 x2 μ ht hp
    rw [← sg_rii_i_R (P := PX8_waitingAt)] at h
    have e : thX μ (TX8_waitingAt o x1 x2 μ) = fun E μ' (cs : Nat × Nat) => tvX8_waitingAt [.ref o, .int x1, .int x2] μ E ∧ μ' = μ ∧ cs.1 + 1 ≤ 1 ∧ cs.2 + 6 ≤ 6 := by
      funext E μ' cs
      exact propext ⟨fun h => ⟨fun _ _ _ e => by cases e; exact h.1, h.2⟩, fun h => ⟨h.1 o x1 x2 rfl, h.2⟩⟩
    rw [e] at h
    exact h
theorem mX8_setReceiver {l : Launch} (hl : l.stackTraces = false) : qMetX l yX8_setReceiver cX8_setReceiver 5 (some .int) 6 131 spX8_setReceiver tvX8_setReceiver := by
  refine qMetX_of hl (cal := calX8_setReceiver) (fld := fX8) (cst := kX8) (csl := jX8) (nwo := nX8) (thr := thrX8_setReceiver) false (by decide +kernel) rfl tabX8 va_AOA_words.1 va_AOA_words.2 (by decide) (by decide) ?_ ?_ ?_ ?_ ?_
  · intro pc E h
    unfold thrX8_setReceiver at h
    split at h
    · cases h
      exact ⟨47, 163, 51, "depth, interval or patience out of range", kA_w.1, kA_w.2, by decide, kA_in, kA_ot, by decide +kernel, dX8_setReceiver_33, dX8_setReceiver_34, dX8_setReceiver_36, dX8_setReceiver_39, dX8_setReceiver_30⟩
    · cases h
  · intro idx kd q' h p e s m args below meth c D cA B Q hF
    unfold calX8_setReceiver at h
    split at h
    · cases h
      exact qc_S hF mX8_inRange (by exact (qm_c qw426 (qm_c qw427 (qm_c qw10 (qm_c qw428 qm_0))))) rfl (by decide +kernel) (by decide)
    · cases h
      exact qc_V (C := RX8) (T := TX8) (N := 5) hF mX8_saveState (by exact (qm_c qw264 (qm_c qw266 (qm_c qw0 (qm_c qw10 (qm_c qw267 qm_0)))))) rfl (by decide +kernel) (by decide) sg_r_v_recv
    · cases h
  · rintro av μ ⟨o, x1, x2, x3, rfl, ht, hp⟩
    exact Nat.le_of_ble_eq_true rfl
  · rintro av μ ⟨o, x1, x2, x3, rfl, ht, hp⟩
    obtain ⟨H, m, hP⟩ := hp
    exact hP.2.1
  · rintro av μ ⟨o, x1, x2, x3, rfl, ht, hp⟩
    have h := xX8_setReceiver o x1 x2 x3 μ ht hp
    rw [← sg_riii_i_R (P := PX8_setReceiver)] at h
    have e : thX μ (TX8_setReceiver o x1 x2 x3 μ) = fun E μ' (cs : Nat × Nat) => tvX8_setReceiver [.ref o, .int x1, .int x2, .int x3] μ E ∧ μ' = μ ∧ cs.1 + 1 ≤ 1 ∧ cs.2 + 6 ≤ 6 := by
      funext E μ' cs
      exact propext ⟨fun h => ⟨fun _ _ _ _ e => by cases e; exact h.1, h.2⟩, fun h => ⟨h.1 o x1 x2 x3 rfl, h.2⟩⟩
    rw [e] at h
    exact h
theorem mX8_record {l : Launch} (hl : l.stackTraces = false) : qMetX l yX8_record cX8_record 3 (some .int) 6 82 spX8_record tvX8_record := by
  refine qMetX_of hl (cal := calX8_record) (fld := fX8) (cst := kX8) (csl := jX8) (nwo := nX8) (thr := thrX8_record) false (by decide +kernel) rfl tabX8 va_AOA_words.1 va_AOA_words.2 (by decide) (by decide) ?_ ?_ ?_ ?_ ?_
  · intro pc E h
    unfold thrX8_record at h
    split at h
    · cases h
      exact ⟨47, 183, 51, "number or what out of range", kA_w.1, kA_w.2, by decide, kA_in, kA_ot, by decide +kernel, dX8_record_23, dX8_record_24, dX8_record_26, dX8_record_29, dX8_record_20⟩
    · cases h
  · intro idx kd q' h p e s m args below meth c D cA B Q hF
    unfold calX8_record at h
    split at h
    · cases h
      exact qc_S hF mX8_inRange (by exact (qm_c qw426 (qm_c qw427 (qm_c qw10 (qm_c qw428 qm_0))))) rfl (by decide +kernel) (by decide)
    · cases h
      exact qc_V (C := RX7) (T := TX7) (N := 2) hF mX7_valueOf (by exact (qm_c qw781 (qm_c qw782 (qm_c qw783 (qm_c qw16 (qm_c qw784 qm_0)))))) rfl (by decide +kernel) (by decide) sg_rii_i_recv
    · cases h
  · rintro av μ ⟨o, x1, x2, rfl, ht, hp⟩
    exact Nat.le_of_ble_eq_true rfl
  · rintro av μ ⟨o, x1, x2, rfl, ht, hp⟩
    obtain ⟨H, m, hP⟩ := hp
    exact hP.2.1
  · rintro av μ ⟨o, x1, x2, rfl, ht, hp⟩
    have h := xX8_record o x1 x2 μ ht hp
    rw [← sg_rii_i_R (P := PX8_record)] at h
    have e : thX μ (TX8_record o x1 x2 μ) = fun E μ' (cs : Nat × Nat) => tvX8_record [.ref o, .int x1, .int x2] μ E ∧ μ' = μ ∧ cs.1 + 1 ≤ 1 ∧ cs.2 + 6 ≤ 6 := by
      funext E μ' cs
      exact propext ⟨fun h => ⟨fun _ _ _ e => by cases e; exact h.1, h.2⟩, fun h => ⟨h.1 o x1 x2 rfl, h.2⟩⟩
    rw [e] at h
    exact h
theorem mX8_numberFor {l : Launch} (hl : l.stackTraces = false) : qMetX l yX8_numberFor cX8_numberFor 2 (some .int) 6 82 spX8_numberFor tvX8_numberFor := by
  refine qMetX_of hl (cal := calX8_numberFor) (fld := fX8) (cst := kX8) (csl := jX8) (nwo := nX8) (thr := thrX8_numberFor) false (by decide +kernel) rfl tabX8 va_AOA_words.1 va_AOA_words.2 (by decide) (by decide) ?_ ?_ ?_ ?_ ?_
  · intro pc E h
    unfold thrX8_numberFor at h
    split at h
    · cases h
      exact ⟨47, 197, 51, "told out of range", kA_w.1, kA_w.2, by decide, kA_in, kA_ot, by decide +kernel, dX8_numberFor_13, dX8_numberFor_14, dX8_numberFor_16, dX8_numberFor_19, dX8_numberFor_10⟩
    · cases h
  · intro idx kd q' h p e s m args below meth c D cA B Q hF
    unfold calX8_numberFor at h
    split at h
    · cases h
      exact qc_S hF mX8_inRange (by exact (qm_c qw426 (qm_c qw427 (qm_c qw10 (qm_c qw428 qm_0))))) rfl (by decide +kernel) (by decide)
    · cases h
      exact qc_V (C := RX2) (T := TX2) (N := 11) hF mX2_numberOf (by exact (qm_c qw822 (qm_c qw347 (qm_c qw348 (qm_c qw15 (qm_c qw349 qm_0)))))) rfl (by decide +kernel) (by decide) sg_ri_i_recv
    · cases h
  · rintro av μ ⟨o, x1, rfl, ht, hp⟩
    exact Nat.le_of_ble_eq_true rfl
  · rintro av μ ⟨o, x1, rfl, ht, hp⟩
    obtain ⟨H, m, hP⟩ := hp
    exact hP.2.1
  · rintro av μ ⟨o, x1, rfl, ht, hp⟩
    have h := xX8_numberFor o x1 μ ht hp
    rw [← sg_ri_i_R (P := PX8_numberFor)] at h
    have e : thX μ (TX8_numberFor o x1 μ) = fun E μ' (cs : Nat × Nat) => tvX8_numberFor [.ref o, .int x1] μ E ∧ μ' = μ ∧ cs.1 + 1 ≤ 1 ∧ cs.2 + 6 ≤ 6 := by
      funext E μ' cs
      exact propext ⟨fun h => ⟨fun _ _ e => by cases e; exact h.1, h.2⟩, fun h => ⟨h.1 o x1 rfl, h.2⟩⟩
    rw [e] at h
    exact h
theorem mX8_count {l : Launch} (hl : l.stackTraces = false) : qMetX l yX8_count cX8_count 2 (some .int) 6 82 spX8_count tvX8_count := by
  refine qMetX_of hl (cal := calX8_count) (fld := fX8) (cst := kX8) (csl := jX8) (nwo := nX8) (thr := thrX8_count) false (by decide +kernel) rfl tabX8 va_AOA_words.1 va_AOA_words.2 (by decide) (by decide) ?_ ?_ ?_ ?_ ?_
  · intro pc E h
    unfold thrX8_count at h
    split at h
    · cases h
      exact ⟨47, 120, 51, "what out of range", kA_w.1, kA_w.2, by decide, kA_in, kA_ot, by decide +kernel, dX8_count_13, dX8_count_14, dX8_count_16, dX8_count_19, dX8_count_10⟩
    · cases h
  · intro idx kd q' h p e s m args below meth c D cA B Q hF
    unfold calX8_count at h
    split at h
    · cases h
      exact qc_S hF mX8_inRange (by exact (qm_c qw426 (qm_c qw427 (qm_c qw10 (qm_c qw428 qm_0))))) rfl (by decide +kernel) (by decide)
    · cases h
      exact qc_V (C := RX6) (T := TX6) (N := 4) hF mX6_countOf (by exact (qm_c qw756 (qm_c qw757 (qm_c qw758 (qm_c qw12 (qm_c qw759 qm_0)))))) rfl (by decide +kernel) (by decide) sg_ri_i_recv
    · cases h
  · rintro av μ ⟨o, x1, rfl, ht, hp⟩
    exact Nat.le_of_ble_eq_true rfl
  · rintro av μ ⟨o, x1, rfl, ht, hp⟩
    obtain ⟨H, m, hP⟩ := hp
    exact hP.2.1
  · rintro av μ ⟨o, x1, rfl, ht, hp⟩
    have h := xX8_count o x1 μ ht hp
    rw [← sg_ri_i_R (P := PX8_count)] at h
    have e : thX μ (TX8_count o x1 μ) = fun E μ' (cs : Nat × Nat) => tvX8_count [.ref o, .int x1] μ E ∧ μ' = μ ∧ cs.1 + 1 ≤ 1 ∧ cs.2 + 6 ≤ 6 := by
      funext E μ' cs
      exact propext ⟨fun h => ⟨fun _ _ e => by cases e; exact h.1, h.2⟩, fun h => ⟨h.1 o x1 rfl, h.2⟩⟩
    rw [e] at h
    exact h
