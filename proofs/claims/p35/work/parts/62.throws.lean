/-! ===== methods that may throw: contracts, out of their bodies ===== -/
def eI : String := "java/lang/IndexOutOfBoundsException"
def eA : String := "java/lang/IllegalArgumentException"
def eS : String := "java/lang/IllegalStateException"
def qChain : List String := ["java/lang/RuntimeException", "java/lang/Exception"]
def qStr : List (Nat × String) := [(38, "no such field"), (49, "value out of range"), (65, "stride out of range"), (67, "policy or confidence out of range"), (85, "no packet can be sent"), (92, "times out of range"), (94, "so many packets cannot be sent"), (118, "no such packet has been sent"), (120, "what out of range"), (128, "no such packet in the link"), (140, "the link is full"), (152, "no such message in the link"), (161, "the link has no such index"), (163, "depth, interval or patience out of range"), (183, "number or what out of range"), (197, "told out of range")]
/-- the words of a throw that are no good words, but the tables' -/
def qNG : List Cond := [.castable eI eI, .castable eA eA, .castable eS eS, .declares (Bundle.initS "java/lang/RuntimeException"), .declares (Bundle.initS "java/lang/Exception"), .declares (Bundle.initS "java/lang/Throwable")]
def qNc : List (String × String) := [(eA, eI), (eS, eA), (eS, eI)]
/-- what a frame that throws asks of the world -/
def qZ (B : Nat) (U : State) : Prop :=
  vx_Zq Bundle.tN "UNASSIGNED_STACK" Bundle.steD (fun q => B ≤ q) U U.heap ∧ vx_Zq Bundle.tN "SUPPRESSED_SENTINEL" Bundle.listD (fun q => B ≤ q) U U.heap ∧ (∀ w ∈ qNG, va_Nw w U) ∧ (∀ q ∈ qNc, va_Nc q.1 q.2 U) ∧ ∀ q ∈ qStr, ∃ a, vk_R "HeaderSqueezer" q.1 q.2 a U
theorem qNG_tab : ∀ w ∈ qNG, w.onTables = true := by decide +kernel
theorem qNG_warm {s U : State} (hW : s.WarmedH U.vm) (h : ∀ w ∈ qNG, va_Nw w s) : ∀ w ∈ qNG, va_Nw w U := by
  intro w hw
  have hs := h w hw
  unfold qNG at hw
  simp only [List.mem_cons, List.not_mem_nil, or_false] at hw
  rcases hw with rfl | rfl | rfl | rfl | rfl | rfl
  · exact va_Nw.warmC hW hs
  · exact va_Nw.warmC hW hs
  · exact va_Nw.warmC hW hs
  · exact va_Nw.warmD hW hs
  · exact va_Nw.warmD hW hs
  · exact va_Nw.warmD hW hs
theorem qZ.warm {B : Nat} {s U : State} (hW : s.WarmedH U.vm) (hH : ∀ a : Nat, a < s.heap.size → ¬ B ≤ a → U.heap[a]? = s.heap[a]?) (h : qZ B s) : qZ B U :=
  ⟨vx_Zq.moved hW.alike (h.1.kept hH), vx_Zq.moved hW.alike (h.2.1.kept hH), qNG_warm hW h.2.2.1, fun q hq => va_Nc.moved hW.alike (h.2.2.2.1 q hq), fun q hq => (h.2.2.2.2 q hq).elim fun a ha => ⟨a, vk_R.warm hW ha⟩⟩
theorem qZ.same {B : Nat} {s U : State} (h : qZ B s) (hv : s.vm = U.vm) (hh : s.heap = U.heap) : qZ B U := by
  have hal : s.vm.Alike U.vm := by rw [hv]; exact Vm.Alike.refl _
  obtain ⟨h1, h2, h3, h4, h5⟩ := h
  exact ⟨by rw [← hh]; exact vx_Zq.moved hal h1, by rw [← hh]; exact vx_Zq.moved hal h2, fun w hw => va_Nw.same (qNG_tab w hw) hv (h3 w hw), fun q hq => va_Nc.moved hal (h4 q hq), fun q hq => (h5 q hq).elim fun a ha => ⟨a, vk_R.same hv.symm ha⟩⟩
def qPcX (D : va_G) (cA : Nat → ClassId) (B : Nat) (av : List Value) (μ : qMM) : Array Value → State → Prop := va_Pc av (fun U => qW D cA B μ U.heap ∧ qF D cA U ∧ qZ B U)
def qXC (D : va_G) (cA : Nat → ClassId) (B : Nat) (T : String → Prop) (μ : qMM) : String → State → State → Prop := fun E st t => (T E ∧ qW D cA B μ t.heap) ∧ va_F (fun q => B ≤ q) st t
theorem qPcX_blind {D : va_G} {cA : Nat → ClassId} {B : Nat} {av : List Value} {μ : qMM} : FrameBlind (qPcX D cA B av μ) := fun _ _ _ _ h => ⟨h.1, h.2.1, h.2.2.1.same rfl, h.2.2.2.same rfl rfl⟩
/-- the contract of a method that may throw -/
def qMetX (l : Launch) (y : MethodName) (b : ByteArray) (maxL : Nat) (ret : Option FieldType) (fr lo : Nat) (q : qCS) (T : List Value → qMM → String → Prop) : Prop :=
  ∀ (D : va_G) (cA : Nat → ClassId) (B : Nat) (av : List Value) (μ : qMM), q.2.1 av μ → vx_Met l y (qWs y b maxL ret) { frames := fr, cells := q.2.2.2.1, slots := q.2.2.2.2, locals := lo } (qPcX D cA B av μ) (qQc D cA B (q.2.2.1 av μ)) (qXC D cA B (T av μ) μ) q.2.2.2.1 q.2.2.2.2 (fun a => B ≤ a)
/-- a memory with no next address bears a larger heap -/
theorem qW_grow {D : va_G} {cA : Nat → ClassId} {B : Nat} {μ : qMM} {H H1 : Heap} (hN : mN μ = none) (h : qW D cA B μ H) (hz : H.size ≤ H1.size) (hq : ∀ q : Nat, q < H.size → H1[q]? = H[q]?) : qW D cA B μ H1 := by
  obtain ⟨h1, h2, h3, h4⟩ := h
  refine ⟨h1, fun a t ht => ⟨(h2 a t ht).1, (h2 a t ht).2.kept (hq a (h2 a t ht).2.lt)⟩, by omega, fun n hn => by rw [hN] at hn; cases hn⟩
/-- what stands at a throw -/
def qSite (b : ByteArray) (pc : Nat) (E : String) : Prop := ∃ (ik is ic : Nat) (text : String), Cond.classLink "HeaderSqueezer" ik E ∈ qT ∧ Cond.initialized E ∈ qT ∧ (is, text) ∈ qStr ∧ (∀ w ∈ vx_atS "HeaderSqueezer" ic E qChain, w ∈ qT ∨ w ∈ qNG) ∧ (∀ w ∈ Cond.classLink "HeaderSqueezer" ik E :: Cond.initialized E :: vx_atS "HeaderSqueezer" ic E qChain, vx_ot w = true) ∧ Bundle.fit E = true ∧
  decode b (pc + 3) = .ok (.dup, 1) ∧ decode b (pc + 4) = .ok (.ldc is, 2) ∧ decode b (pc + 6) = .ok (.invokespecial ic, 3) ∧ decode b (pc + 9) = .ok (.athrow, 1) ∧ decode b pc = .ok (.new ik, 3)
theorem qMetX_of {l : Launch} (hl : l.stackTraces = false) {y : MethodName} {b : ByteArray} {maxL : Nat} {ret : Option FieldType} {fr lo : Nat} {q : qCS} {T : List Value → qMM → String → Prop} {fld : Nat → Option (Nat × Nat × FieldType × Bool)} {cal : Nat → Option (Nat × qCS)} {cst : Nat → Option Int32} {csl : Nat → Option Int64} {nwo : Nat → Option (Nat × Nat × List Value)} {thr : Nat → Option String} (j : Bool)
    (hy : plainName y.cls = true) (hcls : y.cls = "HeaderSqueezer") (htab : qTab y.cls fld cst csl nwo) (har1 : Cond.arrayClass .int ∈ qT) (har2 : Cond.arrayClass .long ∈ qT) (hfr : 5 < fr) (hlo : 82 ≤ lo)
    (hsite : ∀ pc E, thr pc = some E → qSite b pc E)
    (hcal : ∀ idx kd q', cal idx = some (kd, q') → ∀ (p : Program) (e : Env) (s : State) (m : MethodId) (args : Array Value) (below : List Frame) (meth : Method) (c : Code) (D : va_G) (cA : Nat → ClassId) (B : Nat) (Q : State → Prop), qFix p s m args c D cA b maxL y.cls → qCOK p l e { frames := fr, cells := q.2.2.2.1, slots := q.2.2.2.2, locals := lo } s m args below meth c D cA B maxL Q b idx kd q')
    (hav : ∀ av μ, q.2.1 av μ → (lg_sl av).length ≤ maxL) (hN : ∀ av μ, q.2.1 av μ → mN μ = none)
    (hEX : ∀ av μ, q.2.1 av μ → EX (stepOf b fld cal cst csl nwo thr (fun _ => none) false ret q.2.2.2.1 q.2.2.2.2 (fun v μ' cs => q.2.2.1 av μ v μ' ∧ cs.1 ≤ q.2.2.2.1 ∧ cs.2 ≤ q.2.2.2.2) (fun E μ' cs => T av μ E ∧ μ' = μ ∧ cs.1 + 1 ≤ q.2.2.2.1 ∧ cs.2 + 6 ≤ q.2.2.2.2)) 0 (qPd (qL0 av) maxL) (bif j then qPd (qJ0 av) maxL else []) [] μ (0, 0)) : qMetX l y b maxL ret fr lo q T := by
  intro D cA B av μ hpre
  refine vx_ofW (cc := b) (maxL := maxL) (ret := ret) hy rfl ?_
  intro p e s m args below meth c s₁ Bd hml htbl hv
  obtain ⟨rfl, hW, hF, hZ⟩ := hv
  have hx := Bd.exec
  have hb := Bd.bytes
  have hr := Bd.returns
  have hts := atoms_spec (ws := qWs y b maxL ret) Bd.pre
  have hts' : ∀ w ∈ qT, w.before av.toArray s = true := fun w hw => hts w (List.mem_cons_of_mem _ hw)
  have hown : s.vm.findClass y.cls = some m.cls := findClass_of_methodNamed Bd.named
  have hlocks := Bd.notSynchronized
  have hFx : qFix p s m av.toArray c D cA b maxL y.cls := ⟨⟨hx, hb, hml, hown, hts'⟩, hF⟩
  have h0 := hEX av μ hpre
  have h1 := h0 (qG p l e { frames := fr, cells := q.2.2.2.1, slots := q.2.2.2.2, locals := lo } s m av.toArray below meth c D cA B maxL (vx_MQ below (qQc D cA B (q.2.2.1 av μ)) (qXC D cA B (T av μ) μ) av.toArray s q.2.2.2.1 q.2.2.2.2 (fun a => B ≤ a))) (fun pc lo' lj st μ' cs hs => by
    obtain ⟨i, len, hd, hlen, hs⟩ := hs
    exact qG_step hx hb hts' hown hF.1 (fun z => by cases z) htab.1 (fun n v z => hts' _ (htab.2.1 n v z)) (fun n v z => hts' _ (htab.2.2.1 n v z))
      (fun idx ci N t z => (htab.2.2.2 idx ci N t z).elim (fun w => Or.inl ⟨w.1, hts' _ w.2⟩) Or.inr)
      (va_AO.use hF.2.2.1) (va_AOA.use hF.2.1) (hts' _ har1) (hts' _ har2)
      (fun idx kd q' z => hcal idx kd q' z p e s m av.toArray below meth c D cA B _ hFx)
      (fun pc idx E lo1 lj1 μ1 cs1 z hdn hX => by
        obtain ⟨hT, rfl, hc1, hs1⟩ := hX
        obtain ⟨ik, is, ic, text, g1, g2, g3, g4, g5, g6, g7, g8, g9, g10, g11⟩ := hsite _ _ z
        intro H locs ls hW1 hS hL
        obtain ⟨sa, hsa⟩ := hZ.2.2.2.2 _ g3
        have hN1 := hN _ _ hpre
        rw [hcls] at hown
        exact vx_throwS hx hb hl (own := "HeaderSqueezer") (cls := E) (text := text) (names := qChain) (ik := ik) (is := is) (ic := ic) (sa := sa) (A := fun q => B ≤ q) hown g6 (by decide +kernel) (hts' _ g1) (hts' _ g2) hsa
          (fun w hw => (g4 w hw).elim (hts' w) (fun z => va_Nw.use (qNG_tab w z) (hZ.2.2.1 w z))) g5 hZ.1 hZ.2.1 hS (hL.1.trans hml.symm) g11 g7 g8 g9 g10 (fun x hx => (htbl x hx).elim) hfr
          (by show 0 + (13 * (2 + 1) + 43) ≤ lo; omega) hc1 hs1 hlocks
          (fun t ha hz hq => ⟨⟨hT, qW_grow hN1 hW1 hz hq⟩, Nat.le_trans hS.1 hz, fun q h1 h2 => by rw [hq q (Nat.lt_of_lt_of_le h1 hS.1)]; exact hS.2.1 q h1 h2⟩) hS.2.2 hc1 hs1)
      (fun _ _ _ z => by cases z)
      (fun pc lo lj st μ cs v hq hR => fun H locs ls hW hS hL => vx_ret (qs_ret hx hb hr hlocks hq hR.1 hR.2.1 hR.2.2 H locs ls hW hS hL)) hd hlen hs)
  rw [lg_entry_eq]
  exact h1 s.heap [] _ hW va_S.rf (qLV_entry (hav av μ hpre) j)
theorem kI_in : ∀ w ∈ vx_atS "HeaderSqueezer" 40 eI qChain, w ∈ qT ∨ w ∈ qNG := by
  have h : (vx_atS "HeaderSqueezer" 40 eI qChain).all (fun w => decide (w ∈ lw_tbl ∧ goodWord w = true ∨ w ∈ qNG)) = true := by decide +kernel
  intro w hw
  exact (of_decide_eq_true (List.all_eq_true.mp h w hw)).imp (fun z => qT_in z.1 z.2) id
theorem kA_in : ∀ w ∈ vx_atS "HeaderSqueezer" 51 eA qChain, w ∈ qT ∨ w ∈ qNG := by
  have h : (vx_atS "HeaderSqueezer" 51 eA qChain).all (fun w => decide (w ∈ lw_tbl ∧ goodWord w = true ∨ w ∈ qNG)) = true := by decide +kernel
  intro w hw
  exact (of_decide_eq_true (List.all_eq_true.mp h w hw)).imp (fun z => qT_in z.1 z.2) id
theorem kS_in : ∀ w ∈ vx_atS "HeaderSqueezer" 87 eS qChain, w ∈ qT ∨ w ∈ qNG := by
  have h : (vx_atS "HeaderSqueezer" 87 eS qChain).all (fun w => decide (w ∈ lw_tbl ∧ goodWord w = true ∨ w ∈ qNG)) = true := by decide +kernel
  intro w hw
  exact (of_decide_eq_true (List.all_eq_true.mp h w hw)).imp (fun z => qT_in z.1 z.2) id
theorem kI_ot : ∀ w ∈ Cond.classLink "HeaderSqueezer" 36 eI :: Cond.initialized eI :: vx_atS "HeaderSqueezer" 40 eI qChain, vx_ot w = true := List.all_eq_true.mp (by decide +kernel)
theorem kA_ot : ∀ w ∈ Cond.classLink "HeaderSqueezer" 47 eA :: Cond.initialized eA :: vx_atS "HeaderSqueezer" 51 eA qChain, vx_ot w = true := List.all_eq_true.mp (by decide +kernel)
theorem kS_ot : ∀ w ∈ Cond.classLink "HeaderSqueezer" 83 eS :: Cond.initialized eS :: vx_atS "HeaderSqueezer" 87 eS qChain, vx_ot w = true := List.all_eq_true.mp (by decide +kernel)
theorem kI_w : Cond.classLink "HeaderSqueezer" 36 eI ∈ qT ∧ Cond.initialized eI ∈ qT := ⟨qT_in (by decide +kernel) (by decide +kernel), qT_in (by decide +kernel) (by decide +kernel)⟩
theorem kA_w : Cond.classLink "HeaderSqueezer" 47 eA ∈ qT ∧ Cond.initialized eA ∈ qT := ⟨qT_in (by decide +kernel) (by decide +kernel), qT_in (by decide +kernel) (by decide +kernel)⟩
theorem kS_w : Cond.classLink "HeaderSqueezer" 83 eS ∈ qT ∧ Cond.initialized eS ∈ qT := ⟨qT_in (by decide +kernel) (by decide +kernel), qT_in (by decide +kernel) (by decide +kernel)⟩
