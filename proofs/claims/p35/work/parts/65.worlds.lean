/-! ===== worlds with the script: contracts of the law's own methods that throw inside, or read the script; a step with places of its own ===== -/
def qX (B : Nat) (sc : Nat → Option (Nat × (Nat → Int32))) (U : State) : Prop := ∀ a n xs, sc a = some (n, xs) → a < U.heap.size ∧ ¬ B ≤ a ∧ va_X a n xs U U.heap
theorem qX.same {B : Nat} {sc : Nat → Option (Nat × (Nat → Int32))} {s U : State} (h : qX B sc s) (hv : s.vm = U.vm) (hh : s.heap = U.heap) : qX B sc U := by
  have hal : s.vm.Alike U.vm := by rw [hv]; exact Vm.Alike.refl _
  intro a n xs z
  obtain ⟨h1, h2, h3⟩ := h a n xs z
  exact ⟨by rw [← hh]; exact h1, h2, by rw [← hh]; exact va_X.moved hal h3⟩
theorem qX.warm {B : Nat} {sc : Nat → Option (Nat × (Nat → Int32))} {s U : State} (hW : s.WarmedH U.vm) (hz : s.heap.size ≤ U.heap.size) (hH : ∀ a : Nat, a < s.heap.size → ¬ B ≤ a → U.heap[a]? = s.heap[a]?) (h : qX B sc s) : qX B sc U := by
  intro a n xs z
  obtain ⟨h1, h2, h3⟩ := h a n xs z
  exact ⟨Nat.lt_of_lt_of_le h1 hz, h2, va_X.moved hW.alike (h3.kept (hH a h1 h2))⟩
def qPcZ (D : va_G) (cA : Nat → ClassId) (B : Nat) (sc : Nat → Option (Nat × (Nat → Int32))) (av : List Value) (μ : qMM) : Array Value → State → Prop := va_Pc av (fun U => qW D cA B μ U.heap ∧ qF D cA U ∧ qZ B U ∧ qX B sc U)
theorem qPcZ_blind {D : va_G} {cA : Nat → ClassId} {B : Nat} {sc : Nat → Option (Nat × (Nat → Int32))} {av : List Value} {μ : qMM} : FrameBlind (qPcZ D cA B sc av μ) := fun _ _ _ _ h => ⟨h.1, h.2.1, h.2.2.1.same rfl, h.2.2.2.1.same rfl rfl, h.2.2.2.2.same rfl rfl⟩
/-- the contract of a method of the law that stands in a world with throws and the script -/
def qMetZ (l : Launch) (y : MethodName) (b : ByteArray) (maxL : Nat) (ret : Option FieldType) (fr lo : Nat) (sc : Nat → Option (Nat × (Nat → Int32))) (q : qCS) : Prop :=
  ∀ (D : va_G) (cA : Nat → ClassId) (B : Nat) (av : List Value) (μ : qMM), q.2.1 av μ → Met l y (qWs y b maxL ret) { frames := fr, cells := q.2.2.2.1, slots := q.2.2.2.2, locals := lo } (qPcZ D cA B sc av μ) (qQc D cA B (q.2.2.1 av μ)) q.2.2.2.1 q.2.2.2.2 (fun a => B ≤ a)
theorem qMetZ_of {l : Launch} {y : MethodName} {b : ByteArray} {maxL : Nat} {ret : Option FieldType} {fr lo : Nat} {sc : Nat → Option (Nat × (Nat → Int32))} {q : qCS} {fld : Nat → Option (Nat × Nat × FieldType × Bool)} {cal : Nat → Option (Nat × qCS)} {cst : Nat → Option Int32} {csl : Nat → Option Int64} {nwo : Nat → Option (Nat × Nat × List Value)} (j : Bool)
    (hy : plainFor y = true) (htab : qTab y.cls fld cst csl nwo) (har1 : Cond.arrayClass .int ∈ qT) (har2 : Cond.arrayClass .long ∈ qT)
    (hcal : ∀ idx kd q', cal idx = some (kd, q') → ∀ (p : Program) (e : Env) (s : State) (m : MethodId) (args : Array Value) (below : List Frame) (meth : Method) (c : Code) (D : va_G) (cA : Nat → ClassId) (B : Nat) (Q : State → Prop), qFix p s m args c D cA b maxL y.cls → qZ B s → qX B sc s → qCOK p l e { frames := fr, cells := q.2.2.2.1, slots := q.2.2.2.2, locals := lo } s m args below meth c D cA B maxL Q b idx kd q')
    (hav : ∀ av μ, q.2.1 av μ → (lg_sl av).length ≤ maxL)
    (hEX : ∀ av μ, q.2.1 av μ → EX (stepOf b fld cal cst csl nwo (fun _ => none) sc false ret q.2.2.2.1 q.2.2.2.2 (fun v μ' cs => q.2.2.1 av μ v μ' ∧ cs.1 ≤ q.2.2.2.1 ∧ cs.2 ≤ q.2.2.2.2) (fun _ _ _ => False)) 0 (qPd (qL0 av) maxL) (bif j then qPd (qJ0 av) maxL else []) [] μ (0, 0)) : qMetZ l y b maxL ret fr lo sc q := by
  intro D cA B av μ hpre
  refine qMet_ofW (cc := b) (maxL := maxL) (ret := ret) hy rfl ?_
  intro p e s m args below meth c s₁ Bd hml hv
  obtain ⟨rfl, hW, hF, hZ, hX⟩ := hv
  have hx := Bd.exec
  have hb := Bd.bytes
  have hr := Bd.returns
  have hts := atoms_spec (ws := qWs y b maxL ret) Bd.pre
  have hts' : ∀ w ∈ qT, w.before av.toArray s = true := fun w hw => hts w (List.mem_cons_of_mem _ hw)
  have hown : s.vm.findClass y.cls = some m.cls := findClass_of_methodNamed Bd.named
  have hlocks := Bd.notSynchronized
  have hFx : qFix p s m av.toArray c D cA b maxL y.cls := ⟨⟨hx, hb, hml, hown, hts'⟩, hF⟩
  have h0 := hEX av μ hpre
  have h1 := h0 (qG p l e { frames := fr, cells := q.2.2.2.1, slots := q.2.2.2.2, locals := lo } s m av.toArray below meth c D cA B maxL (MQ below (qQc D cA B (q.2.2.1 av μ)) av.toArray s q.2.2.2.1 q.2.2.2.2 (fun a => B ≤ a))) (fun pc lo' lj st μ' cs hs => by
    obtain ⟨i, len, hd, hl, hs⟩ := hs
    exact qG_step hx hb hts' hown hF.1 (fun z => by cases z) htab.1 (fun n v z => hts' _ (htab.2.1 n v z)) (fun n v z => hts' _ (htab.2.2.1 n v z))
      (fun idx ci N t z => (htab.2.2.2 idx ci N t z).elim (fun w => Or.inl ⟨w.1, hts' _ w.2⟩) Or.inr)
      (va_AO.use hF.2.2.1) (va_AOA.use hF.2.1) (hts' _ har1) (hts' _ har2)
      (fun idx kd q' z => hcal idx kd q' z p e s m av.toArray below meth c D cA B _ hFx hZ hX)
      (fun _ _ _ _ _ _ _ z => by cases z) (fun a n xs z => hX a n xs z)
      (fun pc lo lj st μ cs v hq hR => qs_ret hx hb hr hlocks hq hR.1 hR.2.1 hR.2.2) hd hl hs)
  rw [lg_entry_eq]
  exact h1 s.heap [] _ hW va_S.rf (qLV_entry (hav av μ hpre) j)
section
variable {p : Program} {l : Launch} {e : Env} {R : Room} {s : State} {m : MethodId} {args : Array Value} {below : List Frame} {meth : Method} {c : Code} {D : va_G} {cA : Nat → ClassId} {B nL : Nat} {Q : State → Prop} {cc : ByteArray} {pc : Nat} {lo lj : List (Option Value)} {st : List Value} {μ : qMM} {cs : Nat × Nat}
theorem qc_SZ {own : String} {sc : Nat → Option (Nat × (Nat → Int32))} (hF : qFix p s m args c D cA cc nL own) (hZ : qZ B s) (hX : qX B sc s) {y : MethodName} {b : ByteArray} {maxL fr lo' n idx : Nat} {ret : Option FieldType} {q : qCS} (hM : qMetZ l y b maxL ret fr lo' sc q) (hw : ∀ w ∈ [Cond.methodLink own idx y, .static y, .initialized y.cls, .code y b maxL ret], w ∈ qT) (hn : q.1 = n) (hd : y.cls ≠ "java/lang/invoke/MethodHandle" ∧ y.cls ≠ "java/lang/invoke/VarHandle" ∧ (parseMethodDescriptor y.desc).map (fun d => d.parameters.length) = some n) (hR : fr + 1 ≤ R.frames ∧ 8 + (maxL + 11) + lo' ≤ R.locals) : qCOK p l e R s m args below meth c D cA B nL Q cc idx 1 q := by
  intro pc lo lj st μ cs hdg h H locs ls hW hS hL
  obtain ⟨h1, h2, h3, h4, h5, h6⟩ := h
  have e2 : (st.take q.1).reverse.length = n := by simp; omega
  generalize e1 : (st.take q.1).reverse = As at h5 h6 e2
  have hst := qStk e1
  generalize hre : st.drop q.1 = rest at *
  have hG : GoodIn qT (va_wsS own idx y (qWs y b maxL ret)) := qT_good fun w hw2 => by
    rcases List.mem_append.mp hw2 with z | z
    · exact hw w (List.mem_append_left [Cond.code y b maxL ret] z)
    · rcases List.mem_cons.mp z with rfl | z
      · exact hw _ (.tail _ (.tail _ (.tail _ (.head _))))
      · exact z
  have h7 := va_runS (e := e) (H := H) (locs := locs) (cells := cs.1) (slots := cs.2) (below := below) (meth := meth) (As := As) (rest := rest) (g := F0 m pc ls st) hF.1 (hM D cA B _ μ h5) (va_cwS n hF.1.2.2.2.2 hG rfl rfl rfl hd hR) ⟨qPcZ_blind, fun U hU hWm => ⟨rfl, by rw [hU]; exact hW, hF.2.warm hWm, hZ.warm hWm (fun a a1 a2 => by rw [hU]; exact hS.2.1 a a1 a2), hX.warm hWm (by rw [hU]; exact hS.1) (fun a a1 a2 => by rw [hU]; exact hS.2.1 a a1 a2)⟩⟩ rfl e2 hL.1 hst (by show 2 * 0 + _ ≤ 8; have := qRest h2; omega) hdg ⟨h3, h4⟩
  exact qs_run h7 hS hL h6
/-- a call with up to eight words left below its arguments -/
def qCal8 (q : qCS) (st : List Value) (μ : qMM) (cs : Nat × Nat) (rc rs : Nat) (k : List Value → qMM → Nat × Nat → Prop) : Prop :=
  q.1 ≤ st.length ∧ ((st.drop q.1).map fun v => v.category).sum ≤ 8 ∧ cs.1 + q.2.2.2.1 ≤ rc ∧ cs.2 + q.2.2.2.2 ≤ rs ∧ q.2.1 (st.take q.1).reverse μ ∧ ∀ v μ', q.2.2.1 (st.take q.1).reverse μ v μ' → k (v.toList ++ st.drop q.1) μ' (cs.1 + q.2.2.2.1, cs.2 + q.2.2.2.2)
theorem qc_S8 {own : String} (hF : qFix p s m args c D cA cc nL own) {y : MethodName} {b : ByteArray} {maxL fr lo' n idx : Nat} {ret : Option FieldType} {q : qCS} (hM : qMet l y b maxL ret fr lo' q) (hw : ∀ w ∈ [Cond.methodLink own idx y, .static y, .initialized y.cls, .code y b maxL ret], w ∈ qT) (hn : q.1 = n) (hd : y.cls ≠ "java/lang/invoke/MethodHandle" ∧ y.cls ≠ "java/lang/invoke/VarHandle" ∧ (parseMethodDescriptor y.desc).map (fun d => d.parameters.length) = some n) (hR : fr + 1 ≤ R.frames ∧ 8 + (maxL + 11) + lo' ≤ R.locals) (hdg : decode cc pc = .ok (qIns 1 idx, 3)) (h : qCal8 q st μ cs R.cells R.slots (fun st' μ' cs' => qG p l e R s m args below meth c D cA B nL Q (pc + 3) lo lj st' μ' cs')) : qG p l e R s m args below meth c D cA B nL Q pc lo lj st μ cs := by
  intro H locs ls hW hS hL
  obtain ⟨h1, h2, h3, h4, h5, h6⟩ := h
  have e2 : (st.take q.1).reverse.length = n := by simp; omega
  generalize e1 : (st.take q.1).reverse = As at h5 h6 e2
  have hst := qStk e1
  generalize hre : st.drop q.1 = rest at *
  have hG : GoodIn qT (va_wsS own idx y (qWs y b maxL ret)) := qT_good fun w hw2 => by
    rcases List.mem_append.mp hw2 with z | z
    · exact hw w (List.mem_append_left [Cond.code y b maxL ret] z)
    · rcases List.mem_cons.mp z with rfl | z
      · exact hw _ (.tail _ (.tail _ (.tail _ (.head _))))
      · exact z
  have h7 := va_runS (e := e) (H := H) (locs := locs) (cells := cs.1) (slots := cs.2) (below := below) (meth := meth) (As := As) (rest := rest) (g := F0 m pc ls st) hF.1 (hM D cA B _ μ h5) (va_cwS n hF.1.2.2.2.2 hG rfl rfl rfl hd hR) ⟨qPc_blind, fun U hU hWm => ⟨rfl, by rw [hU]; exact hW, hF.2.warm hWm⟩⟩ rfl e2 hL.1 hst (by show 2 * 0 + _ ≤ 8; omega) hdg ⟨h3, h4⟩
  exact qs_run h7 hS hL h6
theorem qc_SH {own : String} (hF : qFix p s m args c D cA cc nL own) (hZ : qZ B s) {y : MethodName} {b : ByteArray} {maxL fr lo' n idx : Nat} {hh : List (Nat × Nat × Nat × Nat)} {q : qCS} (hM : qMetH l y b maxL hh fr lo' q) (hw : ∀ w ∈ [Cond.methodLink own idx y, .static y, .initialized y.cls, .codeWith y b maxL (some .int) hh], w ∈ qT) (hn : q.1 = n) (hd : y.cls ≠ "java/lang/invoke/MethodHandle" ∧ y.cls ≠ "java/lang/invoke/VarHandle" ∧ (parseMethodDescriptor y.desc).map (fun d => d.parameters.length) = some n) (hR : fr + 1 ≤ R.frames ∧ 8 + (maxL + 11) + lo' ≤ R.locals) : qCOK p l e R s m args below meth c D cA B nL Q cc idx 1 q := by
  intro pc lo lj st μ cs hdg h H locs ls hW hS hL
  obtain ⟨h1, h2, h3, h4, h5, h6⟩ := h
  have e2 : (st.take q.1).reverse.length = n := by simp; omega
  generalize e1 : (st.take q.1).reverse = As at h5 h6 e2
  have hst := qStk e1
  generalize hre : st.drop q.1 = rest at *
  have hG : GoodIn qT (va_wsS own idx y (Cond.codeWith y b maxL (some .int) hh :: qT)) := qT_good fun w hw2 => by
    rcases List.mem_append.mp hw2 with z | z
    · exact hw w (List.mem_append_left [Cond.codeWith y b maxL (some .int) hh] z)
    · rcases List.mem_cons.mp z with rfl | z
      · exact hw _ (.tail _ (.tail _ (.tail _ (.head _))))
      · exact z
  have h7 := vx_runSW (e := e) (H := H) (locs := locs) (cells := cs.1) (slots := cs.2) (below := below) (meth := meth) (As := As) (rest := rest) (g := F0 m pc ls st) hF.1 (hM D cA B _ μ h5) (vx_cwSW n hF.1.2.2.2.2 hG rfl rfl rfl hd hR) ⟨qPcX_blind, fun U hU hWm => ⟨rfl, by rw [hU]; exact hW, hF.2.warm hWm, hZ.warm hWm (fun a a1 a2 => by rw [hU]; exact hS.2.1 a a1 a2)⟩⟩ rfl e2 hL.1 hst (by show 2 * 0 + _ ≤ 8; have := qRest h2; omega) hdg ⟨h3, h4⟩
  exact qs_run h7 hS hL h6
end
/-! a step with places of its own -/
def stepS (base : qST) (sp : Nat → Option qCl) : qST := fun pc l lj st μ cs k => match sp pc with
  | some f => f l lj st μ cs k
  | none => base pc l lj st μ cs k
theorem stepS_mono {base : qST} {sp : Nat → Option qCl} (hb : qMono base) (hf : ∀ pc f, sp pc = some f → qClM f) : qMono (stepS base sp) := by
  intro pc l lj st μ cs k k' h z
  unfold stepS at z ⊢
  cases e : sp pc with
  | none =>
    simp only [e] at z ⊢
    exact hb _ _ _ _ _ _ _ _ h z
  | some f =>
    simp only [e] at z ⊢
    exact hf pc f e _ _ _ _ _ _ _ h z
theorem EX_sF {base : qST} {sp : Nat → Option qCl} {pc : Nat} {f : qCl} (hb : qMono base) (hf : ∀ pc f, sp pc = some f → qClM f) (h : sp pc = some f) (l lj : List (Option Value)) (st : List Value) (μ : qMM) (cs : Nat × Nat) : EX (stepS base sp) pc l lj st μ cs = f l lj st μ cs (EX (stepS base sp)) := by
  rw [EX_fix (stepS_mono hb hf)]
  unfold stepS
  simp only [h]
theorem EX_sX {code : ByteArray} {fld : Nat → Option (Nat × Nat × FieldType × Bool)} {cal : Nat → Option (Nat × qCS)} {cst : Nat → Option Int32} {csl : Nat → Option Int64} {nwo : Nat → Option (Nat × Nat × List Value)} {thr : Nat → Option String} {sc : Nat → Option (Nat × (Nat → Int32))} {ini : Bool} {rt : Option FieldType} {rc rs : Nat} {R : Option Value → qMM → Nat × Nat → Prop} {X : String → qMM → Nat × Nat → Prop} {sp : Nat → Option qCl} {i : Instr} {len pc : Nat} (hf : ∀ pc f, sp pc = some f → qClM f) (hp : sp pc = none) (hd : decode code pc = .ok (i, len)) (hl : qLn i len = true) (l lj : List (Option Value)) (st : List Value) (μ : qMM) (cs : Nat × Nat) :
    EX (stepS (stepOf code fld cal cst csl nwo thr sc ini rt rc rs R X) sp) pc l lj st μ cs = stepI fld cal cst csl nwo thr sc ini rt rc rs R X i pc l lj st μ cs (EX (stepS (stepOf code fld cal cst csl nwo thr sc ini rt rc rs R X) sp)) := by
  have hb : qMono (stepOf code fld cal cst csl nwo thr sc ini rt rc rs R X) := fun _ _ _ _ _ _ _ _ h => stepOf_mono h
  rw [EX_fix (stepS_mono hb hf)]
  unfold stepS
  simp only [hp]
  apply propext
  constructor
  · rintro ⟨i', len', h1, -, h3⟩
    rw [hd] at h1
    cases h1
    exact h3
  · intro h
    exact ⟨i, len, hd, hl, h⟩
/-- as qMetH_of, with constants -/
theorem qMetHk_of {l : Launch} {y : MethodName} {b : ByteArray} {maxL : Nat} {hh : List (Nat × Nat × Nat × Nat)} {fr lo : Nat} {q : qCS} {p0 : Nat} {f : qCl} {cst : Nat → Option Int32} (j : Bool)
    (hy : plainName y.cls = true) (hcst : ∀ n v, cst n = some v → Cond.constant y.cls n v ∈ qT) (har1 : Cond.arrayClass .int ∈ qT) (har2 : Cond.arrayClass .long ∈ qT)
    (hcl : ∀ (p : Program) (e : Env) (s : State) (m : MethodId) (args : Array Value) (below : List Frame) (meth : Method) (c : Code) (D : va_G) (cA : Nat → ClassId) (B : Nat) (Q : State → Prop) (lo' lj : List (Option Value)) (st : List Value) (μ : qMM) (cs : Nat × Nat), qFix p s m args c D cA b maxL y.cls → qZ B s → c.exceptionTable.toList = tableOf hh → f lo' lj st μ cs (qG p l e { frames := fr, cells := q.2.2.2.1, slots := q.2.2.2.2, locals := lo } s m args below meth c D cA B maxL Q) → qG p l e { frames := fr, cells := q.2.2.2.1, slots := q.2.2.2.2, locals := lo } s m args below meth c D cA B maxL Q p0 lo' lj st μ cs)
    (hav : ∀ av μ, q.2.1 av μ → (lg_sl av).length ≤ maxL)
    (hEX : ∀ av μ, q.2.1 av μ → EX (stepX (stepOf b (fun _ => none) (fun _ => none) cst (fun _ => none) (fun _ => none) (fun _ => none) (fun _ => none) false (some .int) q.2.2.2.1 q.2.2.2.2 (fun v μ' cs => q.2.2.1 av μ v μ' ∧ cs.1 ≤ q.2.2.2.1 ∧ cs.2 ≤ q.2.2.2.2) (fun _ _ _ => False)) p0 f) 0 (qPd (qL0 av) maxL) (bif j then qPd (qJ0 av) maxL else []) [] μ (0, 0)) : qMetH l y b maxL hh fr lo q := by
  intro D cA B av μ hpre
  refine MetFree.of_bodyS (code := b) (maxLocals := maxL) (ret := some .int) hy ?_ ?_
  · intro args s m h hn
    obtain ⟨m9, meth, c, hn9, h1, h2, h3, h4, -, h5, h6, -⟩ := Cond.codeWith_spec (atoms_spec h _ List.mem_cons_self)
    cases hn.symm.trans hn9
    exact ⟨meth, c, h1, h2, h3, h4, h5, h6⟩
  · intro p e s m args below meth c s₁ Bd hml hv _
    have hh0 : s₁.heap = s.heap := by rw [Bd.state]; rfl
    obtain ⟨rfl, hW, hF, hZ⟩ := hv
    have hx := Bd.exec
    have hb := Bd.bytes
    have hr := Bd.returns
    have hts := atoms_spec Bd.pre
    have hts' : ∀ w ∈ qT, w.before av.toArray s = true := fun w hw => hts w (List.mem_cons_of_mem _ hw)
    have htb : c.exceptionTable.toList = tableOf hh := vx_table (x := y) Bd (hts _ List.mem_cons_self)
    have hown : s.vm.findClass y.cls = some m.cls := findClass_of_methodNamed Bd.named
    have hlocks := Bd.notSynchronized
    have hFx : qFix p s m av.toArray c D cA b maxL y.cls := ⟨⟨hx, hb, hml, hown, hts'⟩, hF⟩
    have h0 := hEX av μ hpre
    have h1 := h0 (qG p l e { frames := fr, cells := q.2.2.2.1, slots := q.2.2.2.2, locals := lo } s m av.toArray below meth c D cA B maxL (MQ below (qQc D cA B (q.2.2.1 av μ)) av.toArray s q.2.2.2.1 q.2.2.2.2 (fun a => B ≤ a))) (fun pc lo' lj st μ' cs hs => by
      rcases hs with ⟨rfl, hs⟩ | ⟨-, i, len, hd, hlen, hs⟩
      · exact hcl p e s m av.toArray below meth c D cA B _ lo' lj st μ' cs hFx hZ htb hs
      · exact qG_step hx hb hts' hown hF.1 (fun z => by cases z) (fun _ _ _ _ _ z => by cases z) (fun n v z => hts' _ (hcst n v z)) (fun n v z => by cases z)
          (fun idx ci N t z => by cases z)
          (va_AO.use hF.2.2.1) (va_AOA.use hF.2.1) (hts' _ har1) (hts' _ har2)
          (fun idx kd q' z => by cases z)
          (fun _ _ _ _ _ _ _ z => by cases z) (fun _ _ _ z => by cases z)
          (fun pc lo lj st μ cs v hq hR => qs_ret hx hb hr hlocks hq hR.1 hR.2.1 hR.2.2) hd hlen hs)
    have h2 : W p l e { frames := fr, cells := q.2.2.2.1, slots := q.2.2.2.2, locals := lo } s m av.toArray below meth c s.heap [] 0 0 (MQ below (qQc D cA B (q.2.2.1 av μ)) av.toArray s q.2.2.2.1 q.2.2.2.2 (fun a => B ≤ a)) (entryFrame m av.toArray maxL) := by
      rw [lg_entry_eq]
      exact h1 s.heap [] _ hW va_S.rf (qLV_entry (hav av μ hpre) j)
    obtain ⟨t, a1, o, b1, b2, b3⟩ := h2 s₁ hh0 (Stand.of_body Bd)
    exact ⟨t, o, a1, b1, b2, ⟨b3.1, b3.2⟩⟩
