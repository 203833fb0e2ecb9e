/-! ===== what holds at the law's entry (by program: wip/gen/start.py) ===== -/
theorem arr_of {s : State} {args : Array Value} {ty : FieldType} (h : (Cond.arrayClass ty).before args s = true) : ∃ cA, ArrOfT s cA ty ∧ s.vm.findClass ("[" ++ ty.toString) = some cA := by
  obtain ⟨c, k, comp, h1, h2, h3⟩ := Cond.arrayClass_spec h
  exact ⟨c, fun n z => ⟨fun k h => (by cases h), k, h2, comp, h3⟩, h1⟩
theorem arr_ofA {s : State} {args : Array Value} {t : FieldType} (h : (Cond.arrayOver (.array t)).before args s = true) : ∃ cA, ArrOfT s cA (.array t) ∧ s.vm.findClass ("[" ++ (FieldType.array t).toString) = some cA := by
  obtain ⟨comp, c, k, h1, h2, h3, h4, h5⟩ := Jvm.Stand.arrayOver_specB h
  exact ⟨c, fun n z => ⟨fun k h => (by cases h), k, h3, comp, h4⟩, h5⟩
theorem arr_ofO {s : State} {args : Array Value} {n : String} (h : (Cond.arrayOver (.object n)).before args s = true) : ∃ cA, ArrOfT s cA (.object n) ∧ va_RA s cA (.object n) := by
  obtain ⟨comp, c, k, h1, h2, h3, h4, h5⟩ := Cond.arrayOver_spec h
  exact ⟨c, fun n z => ⟨fun k h => (by cases h), k, h3, comp, h4⟩, k, comp, h3, h4, h1, h5⟩
theorem qF_start {s : State} {args : Array Value} (hts : ∀ w ∈ lw_tbl, w.before args s = true) : ∃ D cA, qF D cA s := by
  obtain ⟨cX0, iX0, kX0⟩ := u_known (C := RX0) (T := TX0) (N := 2) (n := 2) hts inX0 (hts (.instantiable RX0 2) (List.mem_of_getElem? (i := 77) (by decide +kernel)))
  obtain ⟨cX1, iX1, kX1⟩ := u_known (C := RX1) (T := TX1) (N := 5) (n := 5) hts inX1 (hts (.instantiable RX1 5) (List.mem_of_getElem? (i := 37) (by decide +kernel)))
  obtain ⟨cX2, iX2, kX2⟩ := u_known (C := RX2) (T := TX2) (N := 11) (n := 11) hts inX2 (hts (.instantiable RX2 11) (List.mem_of_getElem? (i := 140) (by decide +kernel)))
  obtain ⟨cX4, iX4, kX4⟩ := u_known (C := RX4) (T := TX4) (N := 5) (n := 5) hts inX4 (hts (.instantiable RX4 5) (List.mem_of_getElem? (i := 223) (by decide +kernel)))
  obtain ⟨cX5, iX5, kX5⟩ := u_known (C := RX5) (T := TX5) (N := 11) (n := 11) hts inX5 (hts (.instantiable RX5 11) (List.mem_of_getElem? (i := 93) (by decide +kernel)))
  obtain ⟨cX6, iX6, kX6⟩ := u_known (C := RX6) (T := TX6) (N := 4) (n := 4) hts inX6 (hts (.instantiable RX6 4) (List.mem_of_getElem? (i := 71) (by decide +kernel)))
  obtain ⟨cX7, iX7, kX7⟩ := u_known (C := RX7) (T := TX7) (N := 2) (n := 2) hts inX7 (hts (.instantiable RX7 2) (List.mem_of_getElem? (i := 146) (by decide +kernel)))
  obtain ⟨cX8, iX8, kX8⟩ := u_known (C := RX8) (T := TX8) (N := 5) (n := 5) hts inX8 (hts (.instantiable RX8 5) (List.mem_of_getElem? (i := 29) (by decide +kernel)))
  obtain ⟨a0, g0, e0⟩ := arr_of (hts (.arrayClass .int) (List.mem_of_getElem? (i := 69) (by decide +kernel)))
  obtain ⟨a1, g1, e1⟩ := arr_of (hts (.arrayClass .long) (List.mem_of_getElem? (i := 824) (by decide +kernel)))
  have hA := hts (.arrayOver (.array .int)) (List.mem_of_getElem? (i := 43) (by decide +kernel))
  have hO := hts (.arrayOver (.object "HeaderSqueezer$State")) (List.mem_of_getElem? (i := 221) (by decide +kernel))
  obtain ⟨a2, g2, e2⟩ := arr_ofA hA
  obtain ⟨a3, g3, e3⟩ := arr_ofO hO
  refine ⟨(fun k => match k with
    | 0 => cX0
    | 1 => cX1
    | 2 => cX2
    | 3 => cX4
    | 4 => cX5
    | 5 => cX6
    | 6 => cX7
    | _ => cX8, fun k => match k with
    | 0 => iX0
    | 1 => iX1
    | 2 => iX2
    | 3 => iX4
    | 4 => iX5
    | 5 => iX6
    | 6 => iX7
    | _ => iX8), fun k => match k with
    | 0 => a0
    | 1 => a1
    | 2 => a2
    | _ => a3, ⟨fun k q hq => ?_, fun k q hq => ?_⟩, hA, hO, fun q hq => ?_⟩
  · match k, hq with
    | 0, hq => cases hq; exact kX0
    | 1, hq => cases hq; exact kX1
    | 2, hq => cases hq; exact kX2
    | 3, hq => cases hq; exact kX4
    | 4, hq => cases hq; exact kX5
    | 5, hq => cases hq; exact kX6
    | 6, hq => cases hq; exact kX7
    | 7, hq => cases hq; exact kX8
    | k + 8, hq => simp [vwCl] at hq
  · match k, hq with
    | 0, hq => cases hq; exact ⟨g0, e0⟩
    | 1, hq => cases hq; exact ⟨g1, e1⟩
    | 2, hq => cases hq; exact ⟨g2, e2⟩
    | 3, hq => cases hq; exact ⟨g3, e3⟩
    | k + 4, hq => simp [qTys] at hq
  · unfold qNest at hq
    simp only [List.mem_cons, List.not_mem_nil, or_false] at hq
    rcases hq with rfl | rfl | rfl | rfl | rfl | rfl
    · exact va_Nw.of rfl (hts (.methodLinkNest "HeaderSqueezer" 9 ⟨"HeaderSqueezer$PacketLog", "<init>", "()V"⟩ "HeaderSqueezer") (List.mem_of_getElem? (i := 38) (by decide +kernel)))
    · exact va_Nw.of rfl (hts (.methodLinkNest "HeaderSqueezer$State" 11 ⟨"HeaderSqueezer$Link", "<init>", "()V"⟩ "HeaderSqueezer") (List.mem_of_getElem? (i := 78) (by decide +kernel)))
    · exact va_Nw.of rfl (hts (.methodLinkNest "HeaderSqueezer" 27 ⟨"HeaderSqueezer$Script", "<init>", "()V"⟩ "HeaderSqueezer") (List.mem_of_getElem? (i := 224) (by decide +kernel)))
    · exact va_Nw.of rfl (hts (.methodLinkNest "HeaderSqueezer$Rows" 29 ⟨"HeaderSqueezer", "inRange", "(III)Z"⟩ "HeaderSqueezer") (List.mem_of_getElem? (i := 593) (by decide +kernel)))
    · exact va_Nw.of rfl (hts (.methodLinkNest "HeaderSqueezer$Link" 25 ⟨"HeaderSqueezer", "inRange", "(III)Z"⟩ "HeaderSqueezer") (List.mem_of_getElem? (i := 625) (by decide +kernel)))
    · exact va_Nw.of rfl (hts (.methodLinkNest "HeaderSqueezer$Sender" 109 ⟨"HeaderSqueezer", "inRange", "(III)Z"⟩ "HeaderSqueezer") (List.mem_of_getElem? (i := 661) (by decide +kernel)))
theorem qZ_start {s : State} {args : Array Value} (hts : ∀ w ∈ lw_tbl, w.before args s = true) (hgv : (Jvm.Cond.and given_1 narrow_1).before args s = true) : qZ s.heap.size s := by
  have hA : ∀ a : Nat, a < s.heap.size → ¬ s.heap.size ≤ a := fun a h => Nat.not_le.mpr h
  have fl := flat_of_before _ hgv
  have hi := hts (.initialized Bundle.tN) (List.mem_of_getElem? (i := 19) (by decide +kernel))
  refine ⟨vx_Zqof (hts _ (List.mem_of_getElem? (i := 456) (by decide +kernel))) hi (fl (.isRef (.static Bundle.tN "UNASSIGNED_STACK" Bundle.steD)) (by decide +kernel)) hA, vx_Zqof (hts _ (List.mem_of_getElem? (i := 458) (by decide +kernel))) hi (fl (.isRef (.static Bundle.tN "SUPPRESSED_SENTINEL" Bundle.listD)) (by decide +kernel)) hA, fun w hw => ?_, fun q hq => ?_, fun q hq => ?_⟩
  · unfold qNG at hw
    simp only [List.mem_cons, List.not_mem_nil, or_false] at hw
    rcases hw with rfl | rfl | rfl | rfl | rfl | rfl
    · exact va_Nw.of rfl (hts _ (List.mem_of_getElem? (i := 431) (by decide +kernel)))
    · exact va_Nw.of rfl (hts _ (List.mem_of_getElem? (i := 503) (by decide +kernel)))
    · exact va_Nw.of rfl (hts _ (List.mem_of_getElem? (i := 549) (by decide +kernel)))
    · exact va_Nw.of rfl (hts _ (List.mem_of_getElem? (i := 433) (by decide +kernel)))
    · exact va_Nw.of rfl (hts _ (List.mem_of_getElem? (i := 435) (by decide +kernel)))
    · exact va_Nw.of rfl (hts _ (List.mem_of_getElem? (i := 437) (by decide +kernel)))
  · unfold qNc at hq
    simp only [List.mem_cons, List.not_mem_nil, or_false] at hq
    rcases hq with rfl | rfl | rfl
    · exact va_Nc.of (args := args) (fl (.not (.castable eA eI)) (by decide +kernel))
    · exact va_Nc.of (args := args) (fl (.not (.castable eS eA)) (by decide +kernel))
    · exact va_Nc.of (args := args) (fl (.not (.castable eS eI)) (by decide +kernel))
  · obtain ⟨cX8, iX8, kX8⟩ := u_known (C := RX8) (T := TX8) (N := 5) (n := 5) hts inX8 (hts (.instantiable RX8 5) (List.mem_of_getElem? (i := 29) (by decide +kernel)))
    have st : ∀ (k : Nat) (tx : String), (Cond.stringRef "HeaderSqueezer" k tx).before args s = true → ∃ a, vk_R "HeaderSqueezer" k tx a s := fun k tx h => by
      obtain ⟨_, _, _, a, _, _, _, _, _, h6⟩ := Cond.stringRef_spec kX8.2.1 h
      exact ⟨a, vk_R.of h h6⟩
    unfold qStr at hq
    simp only [List.mem_cons, List.not_mem_nil, or_false] at hq
    rcases hq with rfl | rfl | rfl | rfl | rfl | rfl | rfl | rfl | rfl | rfl | rfl | rfl | rfl | rfl | rfl | rfl
    · exact st _ _ (hts _ (List.mem_of_getElem? (i := 470) (by decide +kernel)))
    · exact st _ _ (hts _ (List.mem_of_getElem? (i := 510) (by decide +kernel)))
    · exact st _ _ (hts _ (List.mem_of_getElem? (i := 526) (by decide +kernel)))
    · exact st _ _ (hts _ (List.mem_of_getElem? (i := 534) (by decide +kernel)))
    · exact st _ _ (hts _ (List.mem_of_getElem? (i := 556) (by decide +kernel)))
    · exact st _ _ (hts _ (List.mem_of_getElem? (i := 603) (by decide +kernel)))
    · exact st _ _ (hts _ (List.mem_of_getElem? (i := 604) (by decide +kernel)))
    · exact st _ _ (hts _ (List.mem_of_getElem? (i := 794) (by decide +kernel)))
    · exact st _ _ (hts _ (List.mem_of_getElem? (i := 755) (by decide +kernel)))
    · exact st _ _ (hts _ (List.mem_of_getElem? (i := 626) (by decide +kernel)))
    · exact st _ _ (hts _ (List.mem_of_getElem? (i := 643) (by decide +kernel)))
    · exact st _ _ (hts _ (List.mem_of_getElem? (i := 652) (by decide +kernel)))
    · exact st _ _ (hts _ (List.mem_of_getElem? (i := 772) (by decide +kernel)))
    · exact st _ _ (hts _ (List.mem_of_getElem? (i := 676) (by decide +kernel)))
    · exact st _ _ (hts _ (List.mem_of_getElem? (i := 780) (by decide +kernel)))
    · exact st _ _ (hts _ (List.mem_of_getElem? (i := 821) (by decide +kernel)))
