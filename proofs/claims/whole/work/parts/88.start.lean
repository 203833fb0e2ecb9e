/-! ===== what holds at the law's entry (by program: wip/gen/start.py) ===== -/
theorem arr_of {s : State} {args : Array Value} {ty : FieldType} (h : (Cond.arrayClass ty).before args s = true) : ∃ cA, ArrOfT s cA ty ∧ s.vm.findClass ("[" ++ ty.toString) = some cA := by
  obtain ⟨c, k, comp, h1, h2, h3⟩ := Cond.arrayClass_spec h
  exact ⟨c, fun n z => ⟨fun k h => (by cases h), k, h2, comp, h3⟩, h1⟩
theorem arr_ofA {s : State} {args : Array Value} {t : FieldType} (h : (Cond.arrayOver (.array t)).before args s = true) : ∃ cA, ArrOfT s cA (.array t) ∧ s.vm.findClass ("[" ++ (FieldType.array t).toString) = some cA := by
  obtain ⟨comp, c, k, h1, h2, h3, h4, h5⟩ := Jvm.Stand.arrayOver_specB h
  exact ⟨c, fun n z => ⟨fun k h => (by cases h), k, h3, comp, h4⟩, h5⟩
theorem arr_ofO {s : State} {args : Array Value} {n : String} (h : (Cond.arrayOver (.object n)).before args s = true) : ∃ cA, ArrOfT s cA (.object n) ∧ va_RA s cA (.object n) := by
  obtain ⟨comp, c, k, h1, h2, h3, h4, h5⟩ := Cond.arrayOver_spec h
  exact ⟨c, fun n z => ⟨fun k h => (by cases h), k, h3, comp, h4⟩, k, comp, h3, h4, h1, h5⟩
theorem qF_start {s : State} {args : Array Value} (hts : ∀ w ∈ lw_tbl, w.before args s = true) : ∃ D cA, qF D cA s := by
  obtain ⟨cX0, iX0, kX0⟩ := u_known (C := RX0) (T := TX0) (N := 2) (n := 2) hts inX0 (hts (.instantiable RX0 2) (List.mem_of_getElem? (i := 119) (by decide +kernel)))
  obtain ⟨cX1, iX1, kX1⟩ := u_known (C := RX1) (T := TX1) (N := 5) (n := 5) hts inX1 (hts (.instantiable RX1 5) (List.mem_of_getElem? (i := 79) (by decide +kernel)))
  obtain ⟨cX2, iX2, kX2⟩ := u_known (C := RX2) (T := TX2) (N := 11) (n := 11) hts inX2 (hts (.instantiable RX2 11) (List.mem_of_getElem? (i := 183) (by decide +kernel)))
  obtain ⟨cX4, iX4, kX4⟩ := u_known (C := RX4) (T := TX4) (N := 5) (n := 5) hts inX4 (hts (.instantiable RX4 5) (List.mem_of_getElem? (i := 266) (by decide +kernel)))
  obtain ⟨cX5, iX5, kX5⟩ := u_known (C := RX5) (T := TX5) (N := 11) (n := 11) hts inX5 (hts (.instantiable RX5 11) (List.mem_of_getElem? (i := 136) (by decide +kernel)))
  obtain ⟨cX6, iX6, kX6⟩ := u_known (C := RX6) (T := TX6) (N := 4) (n := 4) hts inX6 (hts (.instantiable RX6 4) (List.mem_of_getElem? (i := 113) (by decide +kernel)))
  obtain ⟨cX7, iX7, kX7⟩ := u_known (C := RX7) (T := TX7) (N := 2) (n := 2) hts inX7 (hts (.instantiable RX7 2) (List.mem_of_getElem? (i := 189) (by decide +kernel)))
  obtain ⟨cX8, iX8, kX8⟩ := u_known (C := RX8) (T := TX8) (N := 5) (n := 5) hts inX8 (hts (.instantiable RX8 5) (List.mem_of_getElem? (i := 71) (by decide +kernel)))
  obtain ⟨cX9, iX9, kX9⟩ := u_known (C := RX9) (T := TX9) (N := 13) (n := 13) hts inX9 (hts (.instantiable RX9 13) (List.mem_of_getElem? (i := 898) (by decide +kernel)))
  obtain ⟨a0, g0, e0⟩ := arr_of (hts (.arrayClass .int) (List.mem_of_getElem? (i := 111) (by decide +kernel)))
  obtain ⟨a1, g1, e1⟩ := arr_of (hts (.arrayClass .long) (List.mem_of_getElem? (i := 1256) (by decide +kernel)))
  have hA := hts (.arrayOver (.array .int)) (List.mem_of_getElem? (i := 85) (by decide +kernel))
  have hO := hts (.arrayOver (.object "HeaderSqueezer$State")) (List.mem_of_getElem? (i := 264) (by decide +kernel))
  obtain ⟨a2, g2, e2⟩ := arr_ofA hA
  obtain ⟨a3, g3, e3⟩ := arr_ofO hO
  refine ⟨(fun k => match k with
    | 0 => cX0
    | 1 => cX1
    | 2 => cX2
    | 3 => cX4
    | 4 => cX5
    | 5 => cX6
    | 6 => cX7
    | 7 => cX8
    | _ => cX9, fun k => match k with
    | 0 => iX0
    | 1 => iX1
    | 2 => iX2
    | 3 => iX4
    | 4 => iX5
    | 5 => iX6
    | 6 => iX7
    | 7 => iX8
    | _ => iX9), fun k => match k with
    | 0 => a0
    | 1 => a1
    | 2 => a2
    | _ => a3, ⟨fun k q hq => ?_, fun k q hq => ?_⟩, hA, hO, fun q hq => ?_⟩
  · match k, hq with
    | 0, hq => cases hq; exact kX0
    | 1, hq => cases hq; exact kX1
    | 2, hq => cases hq; exact kX2
    | 3, hq => cases hq; exact kX4
    | 4, hq => cases hq; exact kX5
    | 5, hq => cases hq; exact kX6
    | 6, hq => cases hq; exact kX7
    | 7, hq => cases hq; exact kX8
    | 8, hq => cases hq; exact kX9
    | k + 9, hq => simp [vwCl] at hq
  · match k, hq with
    | 0, hq => cases hq; exact ⟨g0, e0⟩
    | 1, hq => cases hq; exact ⟨g1, e1⟩
    | 2, hq => cases hq; exact ⟨g2, e2⟩
    | 3, hq => cases hq; exact ⟨g3, e3⟩
    | k + 4, hq => simp [qTys] at hq
  · unfold qNest at hq
    simp only [List.mem_cons, List.not_mem_nil, or_false] at hq
    rcases hq with rfl | rfl | rfl | rfl | rfl | rfl | rfl | rfl | rfl | rfl
    · exact va_Nw.of rfl (hts (.methodLinkNest "HeaderSqueezer" 9 ⟨"HeaderSqueezer$PacketLog", "<init>", "()V"⟩ "HeaderSqueezer") (List.mem_of_getElem? (i := 80) (by decide +kernel)))
    · exact va_Nw.of rfl (hts (.methodLinkNest "HeaderSqueezer$State" 11 ⟨"HeaderSqueezer$Link", "<init>", "()V"⟩ "HeaderSqueezer") (List.mem_of_getElem? (i := 120) (by decide +kernel)))
    · exact va_Nw.of rfl (hts (.methodLinkNest "HeaderSqueezer" 27 ⟨"HeaderSqueezer$Script", "<init>", "()V"⟩ "HeaderSqueezer") (List.mem_of_getElem? (i := 267) (by decide +kernel)))
    · exact va_Nw.of rfl (hts (.methodLinkNest "HeaderSqueezer$Script" 42 ⟨"HeaderSqueezer", "inRange", "(III)Z"⟩ "HeaderSqueezer") (List.mem_of_getElem? (i := 514) (by decide +kernel)))
    · exact va_Nw.of rfl (hts (.methodLinkNest "HeaderSqueezer$Link" 25 ⟨"HeaderSqueezer", "inRange", "(III)Z"⟩ "HeaderSqueezer") (List.mem_of_getElem? (i := 537) (by decide +kernel)))
    · exact va_Nw.of rfl (hts (.methodLinkNest "HeaderSqueezer$Rows" 29 ⟨"HeaderSqueezer", "inRange", "(III)Z"⟩ "HeaderSqueezer") (List.mem_of_getElem? (i := 570) (by decide +kernel)))
    · exact va_Nw.of rfl (hts (.methodLinkNest "HeaderSqueezer$Sender" 109 ⟨"HeaderSqueezer", "inRange", "(III)Z"⟩ "HeaderSqueezer") (List.mem_of_getElem? (i := 581) (by decide +kernel)))
    · exact va_Nw.of rfl (hts (.methodLinkNest "HeaderSqueezer$Sender" 113 ⟨"HeaderSqueezer", "mixed", "(JJ)J"⟩ "HeaderSqueezer") (List.mem_of_getElem? (i := 595) (by decide +kernel)))
    · exact va_Nw.of rfl (hts (.methodLinkNest "HeaderSqueezer$Link" 33 ⟨"HeaderSqueezer", "mixed", "(JJ)J"⟩ "HeaderSqueezer") (List.mem_of_getElem? (i := 604) (by decide +kernel)))
    · exact va_Nw.of rfl (hts (.methodLinkNest "HeaderSqueezer$Receiver" 146 ⟨"HeaderSqueezer", "mixed", "(JJ)J"⟩ "HeaderSqueezer") (List.mem_of_getElem? (i := 609) (by decide +kernel)))
theorem qZ_start {s : State} {args : Array Value} (hts : ∀ w ∈ lw_tbl, w.before args s = true) (hgv : (Jvm.Cond.and given_1 narrow_1).before args s = true) : qZ s.heap.size s := by
  have hA : ∀ a : Nat, a < s.heap.size → ¬ s.heap.size ≤ a := fun a h => Nat.not_le.mpr h
  have fl := flat_of_before _ hgv
  have hi := hts (.initialized Bundle.tN) (List.mem_of_getElem? (i := 61) (by decide +kernel))
  refine ⟨vx_Zqof (hts _ (List.mem_of_getElem? (i := 659) (by decide +kernel))) hi (fl (.isRef (.static Bundle.tN "UNASSIGNED_STACK" Bundle.steD)) (by decide +kernel)) hA, vx_Zqof (hts _ (List.mem_of_getElem? (i := 661) (by decide +kernel))) hi (fl (.isRef (.static Bundle.tN "SUPPRESSED_SENTINEL" Bundle.listD)) (by decide +kernel)) hA, fun w hw => ?_, fun q hq => ?_, fun q hq => ?_⟩
  · unfold qNG at hw
    simp only [List.mem_cons, List.not_mem_nil, or_false] at hw
    rcases hw with rfl | rfl | rfl | rfl | rfl | rfl
    · exact va_Nw.of rfl (hts _ (List.mem_of_getElem? (i := 634) (by decide +kernel)))
    · exact va_Nw.of rfl (hts _ (List.mem_of_getElem? (i := 706) (by decide +kernel)))
    · exact va_Nw.of rfl (hts _ (List.mem_of_getElem? (i := 747) (by decide +kernel)))
    · exact va_Nw.of rfl (hts _ (List.mem_of_getElem? (i := 636) (by decide +kernel)))
    · exact va_Nw.of rfl (hts _ (List.mem_of_getElem? (i := 638) (by decide +kernel)))
    · exact va_Nw.of rfl (hts _ (List.mem_of_getElem? (i := 640) (by decide +kernel)))
  · unfold qNc at hq
    simp only [List.mem_cons, List.not_mem_nil, or_false] at hq
    rcases hq with rfl | rfl | rfl
    · exact va_Nc.of (args := args) (fl (.not (.castable eA eI)) (by decide +kernel))
    · exact va_Nc.of (args := args) (fl (.not (.castable eS eA)) (by decide +kernel))
    · exact va_Nc.of (args := args) (fl (.not (.castable eS eI)) (by decide +kernel))
  · obtain ⟨cX8, iX8, kX8⟩ := u_known (C := RX8) (T := TX8) (N := 5) (n := 5) hts inX8 (hts (.instantiable RX8 5) (List.mem_of_getElem? (i := 71) (by decide +kernel)))
    have st : ∀ (k : Nat) (tx : String), (Cond.stringRef "HeaderSqueezer" k tx).before args s = true → ∃ a, vk_R "HeaderSqueezer" k tx a s := fun k tx h => by
      obtain ⟨_, _, _, a, _, _, _, _, _, h6⟩ := Cond.stringRef_spec kX8.2.1 h
      exact ⟨a, vk_R.of h h6⟩
    unfold qStr at hq
    simp only [List.mem_cons, List.not_mem_nil, or_false] at hq
    rcases hq with rfl | rfl | rfl | rfl | rfl | rfl | rfl | rfl | rfl | rfl | rfl | rfl | rfl | rfl | rfl | rfl | rfl | rfl
    · exact st _ _ (hts _ (List.mem_of_getElem? (i := 673) (by decide +kernel)))
    · exact st _ _ (hts _ (List.mem_of_getElem? (i := 713) (by decide +kernel)))
    · exact st _ _ (hts _ (List.mem_of_getElem? (i := 727) (by decide +kernel)))
    · exact st _ _ (hts _ (List.mem_of_getElem? (i := 735) (by decide +kernel)))
    · exact st _ _ (hts _ (List.mem_of_getElem? (i := 754) (by decide +kernel)))
    · exact st _ _ (hts _ (List.mem_of_getElem? (i := 769) (by decide +kernel)))
    · exact st _ _ (hts _ (List.mem_of_getElem? (i := 770) (by decide +kernel)))
    · exact st _ _ (hts _ (List.mem_of_getElem? (i := 794) (by decide +kernel)))
    · exact st _ _ (hts _ (List.mem_of_getElem? (i := 795) (by decide +kernel)))
    · exact st _ _ (hts _ (List.mem_of_getElem? (i := 805) (by decide +kernel)))
    · exact st _ _ (hts _ (List.mem_of_getElem? (i := 822) (by decide +kernel)))
    · exact st _ _ (hts _ (List.mem_of_getElem? (i := 831) (by decide +kernel)))
    · exact st _ _ (hts _ (List.mem_of_getElem? (i := 847) (by decide +kernel)))
    · exact st _ _ (hts _ (List.mem_of_getElem? (i := 855) (by decide +kernel)))
    · exact st _ _ (hts _ (List.mem_of_getElem? (i := 863) (by decide +kernel)))
    · exact st _ _ (hts _ (List.mem_of_getElem? (i := 872) (by decide +kernel)))
    · exact st _ _ (hts _ (List.mem_of_getElem? (i := 888) (by decide +kernel)))
    · exact st _ _ (hts _ (List.mem_of_getElem? (i := 896) (by decide +kernel)))
section
variable {p : Program} {l : Launch} {e : Env} {R : Room} {s : State} {m : MethodId} {args : Array Value} {below : List Frame} {meth : Method} {c : Code} {D : va_G} {cA : Nat → ClassId} {B nL : Nat} {Q : State → Prop} {cc : ByteArray} {pc : Nat} {lo lj : List (Option Value)} {st : List Value} {μ : qMM} {cs : Nat × Nat}
theorem qc_SH {own : String} (hF : qFix p s m args c D cA cc nL own) (hZ : qZ B s) {y : MethodName} {b : ByteArray} {maxL fr lo' n idx : Nat} {hh : List (Nat × Nat × Nat × Nat)} {q : qCS} (hM : qMetH l y b maxL hh fr lo' q) (hw : ∀ w ∈ [Cond.methodLink own idx y, .static y, .initialized y.cls, .codeWith y b maxL (some .int) hh], w ∈ qT) (hn : q.1 = n) (hd : y.cls ≠ "java/lang/invoke/MethodHandle" ∧ y.cls ≠ "java/lang/invoke/VarHandle" ∧ (parseMethodDescriptor y.desc).map (fun d => d.parameters.length) = some n) (hR : fr + 1 ≤ R.frames ∧ 8 + (maxL + 11) + lo' ≤ R.locals) : qCOK p l e R s m args below meth c D cA B nL Q cc idx 1 q := by
  intro pc lo lj st μ cs hdg h H locs ls hW hS hL
  obtain ⟨h1, h2, h3, h4, h5, h6⟩ := h
  have e2 : (st.take q.1).reverse.length = n := by simp; omega
  generalize e1 : (st.take q.1).reverse = As at h5 h6 e2
  have hst := qStk e1
  generalize hre : st.drop q.1 = rest at *
  have hG : GoodIn qT (va_wsS own idx y (Cond.codeWith y b maxL (some .int) hh :: qT)) := qT_good fun w hw2 => by
    rcases List.mem_append.mp hw2 with z | z
    · exact hw w (List.mem_append_left [Cond.codeWith y b maxL (some .int) hh] z)
    · rcases List.mem_cons.mp z with rfl | z
      · exact hw _ (.tail _ (.tail _ (.tail _ (.head _))))
      · exact z
  have h7 := vx_runSW (e := e) (H := H) (locs := locs) (cells := cs.1) (slots := cs.2) (below := below) (meth := meth) (As := As) (rest := rest) (g := F0 m pc ls st) hF.1 (hM D cA B _ μ h5) (vx_cwSW n hF.1.2.2.2.2 hG rfl rfl rfl hd hR) ⟨qPcX_blind, fun U hU hWm => ⟨rfl, by rw [hU]; exact hW, hF.2.warm hWm, hZ.warm hWm (fun a a1 a2 => by rw [hU]; exact hS.2.1 a a1 a2)⟩⟩ rfl e2 hL.1 hst (by show 2 * 0 + _ ≤ 8; have := qRest h2; omega) hdg ⟨h3, h4⟩
  exact qs_run h7 hS hL h6
end
