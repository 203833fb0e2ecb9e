/-! ===== a step with one place of its own; calls that may throw, and their catching ===== -/
theorem stepOf_mono {code : ByteArray} {fld : Nat → Option (Nat × Nat × FieldType × Bool)} {cal : Nat → Option (Nat × qCS)} {cst : Nat → Option Int32} {csl : Nat → Option Int64} {nwo : Nat → Option (Nat × Nat × List Value)} {thr : Nat → Option String} {sc : Nat → Option (Nat × (Nat → Int32))} {ini : Bool} {rt : Option FieldType} {rc rs : Nat} {R : Option Value → qMM → Nat × Nat → Prop} {X : String → qMM → Nat × Nat → Prop} {pc : Nat} {l lj : List (Option Value)} {st : List Value} {μ : qMM} {cs : Nat × Nat} {k k' : qKT} (h : ∀ a b c d e f, k a b c d e f → k' a b c d e f) : stepOf code fld cal cst csl nwo thr sc ini rt rc rs R X pc l lj st μ cs k → stepOf code fld cal cst csl nwo thr sc ini rt rc rs R X pc l lj st μ cs k' := by
  rintro ⟨i, len, h1, h3, h2⟩
  exact ⟨i, len, h1, h3, stepI_mono h h2⟩
def qMono (S : qST) : Prop := ∀ (pc : Nat) (l lj : List (Option Value)) (st : List Value) (μ : qMM) (cs : Nat × Nat) (k k' : qKT), (∀ a b c d e f, k a b c d e f → k' a b c d e f) → S pc l lj st μ cs k → S pc l lj st μ cs k'
theorem EX_fix {S : qST} (mono : qMono S) (pc : Nat) (l lj : List (Option Value)) (st : List Value) (μ : qMM) (cs : Nat × Nat) : EX S pc l lj st μ cs = S pc l lj st μ cs (EX S) := by
  have fold : ∀ pc l lj st μ cs, S pc l lj st μ cs (EX S) → EX S pc l lj st μ cs := by
    intro pc l lj st μ cs h Y hY
    exact hY _ _ _ _ _ _ (mono _ _ _ _ _ _ _ _ (fun _ _ _ _ _ _ z => z Y hY) h)
  apply propext
  constructor
  · intro h
    exact h (fun pc l lj st μ cs => S pc l lj st μ cs (EX S)) (fun pc l lj st μ cs z => mono _ _ _ _ _ _ _ _ (fun a b c d e f w => fold a b c d e f w) z)
  · exact fold pc l lj st μ cs
abbrev qCl : Type := List (Option Value) → List (Option Value) → List Value → qMM → Nat × Nat → qKT → Prop
def qClM (f : qCl) : Prop := ∀ (l lj : List (Option Value)) (st : List Value) (μ : qMM) (cs : Nat × Nat) (k k' : qKT), (∀ a b c d e f, k a b c d e f → k' a b c d e f) → f l lj st μ cs k → f l lj st μ cs k'
def stepX (base : qST) (p0 : Nat) (f : qCl) : qST := fun pc l lj st μ cs k => (pc = p0 ∧ f l lj st μ cs k) ∨ (¬ pc = p0 ∧ base pc l lj st μ cs k)
theorem stepX_mono {base : qST} {p0 : Nat} {f : qCl} (hb : qMono base) (hf : qClM f) : qMono (stepX base p0 f) := by
  intro pc l lj st μ cs k k' h z
  rcases z with ⟨z1, z2⟩ | ⟨z1, z2⟩
  · exact Or.inl ⟨z1, hf _ _ _ _ _ _ _ h z2⟩
  · exact Or.inr ⟨z1, hb _ _ _ _ _ _ _ _ h z2⟩
theorem EX_atF {base : qST} {p0 : Nat} {f : qCl} (hb : qMono base) (hf : qClM f) (l lj : List (Option Value)) (st : List Value) (μ : qMM) (cs : Nat × Nat) : EX (stepX base p0 f) p0 l lj st μ cs = f l lj st μ cs (EX (stepX base p0 f)) := by
  rw [EX_fix (stepX_mono hb hf)]
  exact propext ⟨fun z => z.elim (fun w => w.2) (fun w => absurd rfl w.1), fun z => Or.inl ⟨rfl, z⟩⟩
theorem EX_atX {code : ByteArray} {fld : Nat → Option (Nat × Nat × FieldType × Bool)} {cal : Nat → Option (Nat × qCS)} {cst : Nat → Option Int32} {csl : Nat → Option Int64} {nwo : Nat → Option (Nat × Nat × List Value)} {thr : Nat → Option String} {sc : Nat → Option (Nat × (Nat → Int32))} {ini : Bool} {rt : Option FieldType} {rc rs : Nat} {R : Option Value → qMM → Nat × Nat → Prop} {X : String → qMM → Nat × Nat → Prop} {p0 : Nat} {f : qCl} {i : Instr} {len pc : Nat} (hf : qClM f) (hp : ¬ pc = p0) (hd : decode code pc = .ok (i, len)) (hl : qLn i len = true) (l lj : List (Option Value)) (st : List Value) (μ : qMM) (cs : Nat × Nat) :
    EX (stepX (stepOf code fld cal cst csl nwo thr sc ini rt rc rs R X) p0 f) pc l lj st μ cs = stepI fld cal cst csl nwo thr sc ini rt rc rs R X i pc l lj st μ cs (EX (stepX (stepOf code fld cal cst csl nwo thr sc ini rt rc rs R X) p0 f)) := by
  rw [EX_fix (S := stepX (stepOf code fld cal cst csl nwo thr sc ini rt rc rs R X) p0 f) (stepX_mono (fun _ _ _ _ _ _ _ _ h => stepOf_mono h) hf)]
  apply propext
  constructor
  · rintro (⟨z, -⟩ | ⟨-, i', len', h1, -, h3⟩)
    · exact absurd z hp
    · rw [hd] at h1
      cases h1
      exact h3
  · exact fun h => Or.inr ⟨hp, i, len, hd, hl, h⟩
/-- a call that may throw: behind it, or where its exception is caught -/
def clX (q : qCS) (T : List Value → qMM → String → Prop) (hnd : String → Option Nat) (p0 rc rs : Nat) : qCl := fun l lj st μ cs k =>
  qCal q st μ cs rc rs (fun st' μ' cs' => k (p0 + 3) l lj st' μ' cs') ∧ ∀ E, T (st.take q.1).reverse μ E → ∃ h, hnd E = some h ∧ ∀ a : Nat, k h l lj [.ref a] μ (cs.1 + q.2.2.2.1, cs.2 + q.2.2.2.2)
theorem clX_mono {q : qCS} {T : List Value → qMM → String → Prop} {hnd : String → Option Nat} {p0 rc rs : Nat} : qClM (clX q T hnd p0 rc rs) := by
  intro l lj st μ cs k k' h z
  obtain ⟨z1, z2⟩ := z
  exact ⟨⟨z1.1, z1.2.1, z1.2.2.1, z1.2.2.2.1, z1.2.2.2.2.1, fun v μ' hp => h _ _ _ _ _ _ (z1.2.2.2.2.2 v μ' hp)⟩, fun E hE => (z2 E hE).elim fun hh hw => ⟨hh, hw.1, fun a => h _ _ _ _ _ _ (hw.2 a)⟩⟩
section
variable {p : Program} {l : Launch} {e : Env} {R : Room} {s : State} {m : MethodId} {args : Array Value} {below : List Frame} {meth : Method} {c : Code} {D : va_G} {cA : Nat → ClassId} {B nL : Nat} {Q : State → Prop} {cc : ByteArray} {pc : Nat} {lo lj : List (Option Value)} {st : List Value} {μ : qMM} {cs : Nat × Nat}
/-- where an exception goes -/
def qHnd (tb : List ExceptionTableEntry) (own : String) (pc : Nat) (E : String) (h : Nat) : Prop :=
  ∃ (pre : List ExceptionTableEntry) (x : ExceptionTableEntry) (suf : List ExceptionTableEntry), tb = pre ++ x :: suf ∧ x.handlerPc = h ∧ covers x pc = true ∧ x.catchType ≠ 0 ∧ Cond.classLink own x.catchType E ∈ qT ∧ Cond.castable E E ∈ qNG ∧ ∀ z ∈ pre, z.catchType ≠ 0 ∧ ∃ nm : String, Cond.classLink own z.catchType nm ∈ qT ∧ (E, nm) ∈ qNc
theorem qs_runX {own : String} (hF : qFix p s m args c D cA cc nL own) (hZ : qZ B s) {H : Heap} {locs : List Loc} {ls : Array Slot} {st0 rest : List Value} {a : Array Value} {mc ms : Nat} {post : Option Value → qMM → Prop} {T : String → Prop} {tb : List ExceptionTableEntry} {hnd : String → Option Nat} (htb : c.exceptionTable.toList = tb) (hH : ∀ E h, hnd E = some h → qHnd tb own pc E h)
    (hr : vx_Run p l e R s m args below meth c H locs cs.1 cs.2 mc ms (F0 m pc ls st0) rest (qQc D cA B post a) (qXC D cA B T μ) (fun q => B ≤ q)) (hS : va_S (fun q => B ≤ q) s.heap H locs) (hL : qLV nL lo lj ls)
    (kk : ∀ v μ', post v μ' → qG p l e R s m args below meth c D cA B nL Q (pc + 3) lo lj (v.toList ++ rest) μ' (cs.1 + mc, cs.2 + ms))
    (kx : ∀ E, T E → ∃ h, hnd E = some h ∧ ∀ a : Nat, qG p l e R s m args below meth c D cA B nL Q h lo lj [.ref a] μ (cs.1 + mc, cs.2 + ms)) : W p l e R s m args below meth c H locs cs.1 cs.2 Q (F0 m pc ls st0) := by
  intro T0 hT0 X
  rcases hr T0 hT0 X with ⟨v, st₀, t, T', L, h0, X', hL9, e1, e2, ⟨⟨v', μ', hv, hp, hw⟩, hz, hk⟩, stp⟩ | ⟨q, st₀, t, T', L, E, ce, h0, X', hL9, e1, e2, ⟨⟨hE, hw⟩, hz, hk⟩, hce, hcv, hcl, stp⟩
  · cases hv
    rw [h0] at hz hk
    obtain ⟨t2, a1, b1⟩ := kk v μ' hp T'.heap (locs ++ L) ls (by rw [e1]; exact hw)
      ⟨Nat.le_trans hS.1 (by rw [e1]; exact hz), fun q h1 h2 => by rw [e1, hk q (Nat.lt_of_lt_of_le h1 hS.1) h2]; exact hS.2.1 q h1 h2, fun q hq => by
        rcases List.mem_append.mp hq with h | h
        · exact hS.2.2 q h
        · exact hL9 q h⟩ hL T' rfl X'
    exact ⟨t2, stp t2 a1, b1⟩
  · rw [h0] at hz hk
    obtain ⟨h, hh, kh⟩ := kx E hE
    obtain ⟨pre, x, suf, g1, g2, g3, g4, g5, g6, g7⟩ := hH E h hh
    have hS' : va_S (fun q => B ≤ q) s.heap T'.heap (locs ++ L) := ⟨Nat.le_trans hS.1 (by rw [e1]; exact hz), fun q h1 h2 => by rw [e1, hk q (Nat.lt_of_lt_of_le h1 hS.1) h2]; exact hS.2.1 q h1 h2, fun q hq => by
      rcases List.mem_append.mp hq with h | h
      · exact hS.2.2 q h
      · exact hL9 q h⟩
    have hk1 := kh q T'.heap (locs ++ L) ls (by rw [e1]; exact hw) hS' hL
    have hts := hF.1.2.2.2.2
    have hcatch := vx_catch (H := T'.heap) (q := q) (E := E) (locs := locs ++ L) (cells := cs.1 + mc) (slots := cs.2 + ms) (pc := pc) (ls := ls) (rest := rest) (Q := Q) hF.1.2.2.2.1 pre x suf (htb.trans g1) (fun z hz => Or.inr ⟨(g7 z hz).1, (g7 z hz).2.elim fun nm hn => ⟨nm, hts _ hn.1, hZ.2.2.2.1 _ hn.2⟩⟩) g3 g4 (hts _ g5) (va_Nw.use rfl (hZ.2.2.1 _ g6)) (by rw [e1]; exact hce) hcv hcl (by rw [g2]; exact hk1)
    obtain ⟨t2, a1, b1⟩ := hcatch T' rfl X'
    exact ⟨t2, stp.trans a1, b1⟩
theorem qc_VX {own : String} (hF : qFix p s m args c D cA cc nL own) (hZ : qZ B s) {y : MethodName} {b : ByteArray} {maxL fr lo' n ci idx p0 : Nat} {ret : Option FieldType} {C : String} {T : u_T} {N : Nat} {q : qCS} {TX : List Value → qMM → String → Prop} {tb : List ExceptionTableEntry} {hnd : String → Option Nat} (htb : c.exceptionTable.toList = tb) (hH : ∀ E h, hnd E = some h → qHnd tb own p0 E h) (hM : qMetX l y b maxL ret fr lo' q TX) (hw : ∀ w ∈ [Cond.methodLink own idx y, .instanceMethod y, .selects C y y, .initialized C, .code y b maxL ret], w ∈ qT) (hci : vwCl[ci]? = some (C, T, N)) (hd : y.cls = C ∧ y.cls ≠ "java/lang/invoke/MethodHandle" ∧ y.cls ≠ "java/lang/invoke/VarHandle" ∧ (parseMethodDescriptor y.desc).map (fun d => d.parameters.length) = some n) (hR : fr + 1 ≤ R.frames ∧ 8 + (maxL + 11) + lo' ≤ R.locals) (hrc : qRecv q ci n)
    (hdg : decode cc p0 = .ok (.invokevirtual idx, 3)) (h : clX q TX hnd p0 R.cells R.slots lo lj st μ cs (qG p l e R s m args below meth c D cA B nL Q)) : qG p l e R s m args below meth c D cA B nL Q p0 lo lj st μ cs := by
  intro H locs ls hW hS hL
  obtain ⟨⟨h1, h2, h3, h4, h5, h6⟩, h7⟩ := h
  obtain ⟨o, As, t, e1, e2, e3⟩ := hrc _ _ h5
  have hst := qStk e1
  generalize hre : st.drop q.1 = rest at *
  rw [e1] at h5 h6 h7
  have hG : GoodIn qT (wsV own idx C y (qWs y b maxL ret)) := qT_good fun w hw2 => by
    rcases List.mem_append.mp hw2 with z | z
    · exact hw w (List.mem_append_left [Cond.code y b maxL ret] z)
    · rcases List.mem_cons.mp z with rfl | z
      · exact hw _ (.tail _ (.tail _ (.tail _ (.tail _ (.head _)))))
      · exact z
  have h8 := vx_runV (e := e) (H := H) (locs := locs) (cells := cs.1) (slots := cs.2) (below := below) (meth := meth) (As := As) (rest := rest) (b := o) (g := F0 m p0 ls st) hF.1 (hM D cA B _ μ h5) (cwV n hF.1.2.2.2.2 hG rfl rfl rfl hd hR) ⟨qPcX_blind, va_recv (q0 := 0) hF.2.1 (hW.one e3) hci rfl, fun U hU hWm => ⟨rfl, by rw [hU]; exact hW, hF.2.warm hWm, hZ.warm hWm (fun a a1 a2 => by rw [hU]; exact hS.2.1 a a1 a2)⟩⟩ rfl e2 hL.1 (by rw [hst]; simp) (by show 2 * 0 + _ ≤ 8; have := qRest h2; omega) hdg ⟨h3, h4⟩
  exact qs_runX hF hZ htb hH h8 hS hL h6 h7
end
/-- the contract of a method with handlers -/
def qMetH (l : Launch) (y : MethodName) (b : ByteArray) (maxL : Nat) (hh : List (Nat × Nat × Nat × Nat)) (fr lo : Nat) (q : qCS) : Prop :=
  ∀ (D : va_G) (cA : Nat → ClassId) (B : Nat) (av : List Value) (μ : qMM), q.2.1 av μ → Met l y (Cond.codeWith y b maxL (some .int) hh :: qT) { frames := fr, cells := q.2.2.2.1, slots := q.2.2.2.2, locals := lo } (qPcX D cA B av μ) (qQc D cA B (q.2.2.1 av μ)) q.2.2.2.1 q.2.2.2.2 (fun a => B ≤ a)
theorem qMetH_of {l : Launch} {y : MethodName} {b : ByteArray} {maxL : Nat} {hh : List (Nat × Nat × Nat × Nat)} {fr lo : Nat} {q : qCS} {p0 : Nat} {f : qCl} (j : Bool)
    (hy : plainName y.cls = true) (har1 : Cond.arrayClass .int ∈ qT) (har2 : Cond.arrayClass .long ∈ qT)
    (hcl : ∀ (p : Program) (e : Env) (s : State) (m : MethodId) (args : Array Value) (below : List Frame) (meth : Method) (c : Code) (D : va_G) (cA : Nat → ClassId) (B : Nat) (Q : State → Prop) (lo' lj : List (Option Value)) (st : List Value) (μ : qMM) (cs : Nat × Nat), qFix p s m args c D cA b maxL y.cls → qZ B s → c.exceptionTable.toList = tableOf hh → f lo' lj st μ cs (qG p l e { frames := fr, cells := q.2.2.2.1, slots := q.2.2.2.2, locals := lo } s m args below meth c D cA B maxL Q) → qG p l e { frames := fr, cells := q.2.2.2.1, slots := q.2.2.2.2, locals := lo } s m args below meth c D cA B maxL Q p0 lo' lj st μ cs)
    (hav : ∀ av μ, q.2.1 av μ → (lg_sl av).length ≤ maxL)
    (hEX : ∀ av μ, q.2.1 av μ → EX (stepX (stepOf b (fun _ => none) (fun _ => none) (fun _ => none) (fun _ => none) (fun _ => none) (fun _ => none) (fun _ => none) false (some .int) q.2.2.2.1 q.2.2.2.2 (fun v μ' cs => q.2.2.1 av μ v μ' ∧ cs.1 ≤ q.2.2.2.1 ∧ cs.2 ≤ q.2.2.2.2) (fun _ _ _ => False)) p0 f) 0 (qPd (qL0 av) maxL) (bif j then qPd (qJ0 av) maxL else []) [] μ (0, 0)) : qMetH l y b maxL hh fr lo q := by
  intro D cA B av μ hpre
  refine MetFree.of_bodyS (code := b) (maxLocals := maxL) (ret := some .int) hy ?_ ?_
  · intro args s m h hn
    obtain ⟨m9, meth, c, hn9, h1, h2, h3, h4, -, h5, h6, -⟩ := Cond.codeWith_spec (atoms_spec h _ List.mem_cons_self)
    cases hn.symm.trans hn9
    exact ⟨meth, c, h1, h2, h3, h4, h5, h6⟩
  · intro p e s m args below meth c s₁ Bd hml hv _
    have hh0 : s₁.heap = s.heap := by rw [Bd.state]; rfl
    obtain ⟨rfl, hW, hF, hZ⟩ := hv
    have hx := Bd.exec
    have hb := Bd.bytes
    have hr := Bd.returns
    have hts := atoms_spec Bd.pre
    have hts' : ∀ w ∈ qT, w.before av.toArray s = true := fun w hw => hts w (List.mem_cons_of_mem _ hw)
    have htb : c.exceptionTable.toList = tableOf hh := vx_table (x := y) Bd (hts _ List.mem_cons_self)
    have hown : s.vm.findClass y.cls = some m.cls := findClass_of_methodNamed Bd.named
    have hlocks := Bd.notSynchronized
    have hFx : qFix p s m av.toArray c D cA b maxL y.cls := ⟨⟨hx, hb, hml, hown, hts'⟩, hF⟩
    have h0 := hEX av μ hpre
    have h1 := h0 (qG p l e { frames := fr, cells := q.2.2.2.1, slots := q.2.2.2.2, locals := lo } s m av.toArray below meth c D cA B maxL (MQ below (qQc D cA B (q.2.2.1 av μ)) av.toArray s q.2.2.2.1 q.2.2.2.2 (fun a => B ≤ a))) (fun pc lo' lj st μ' cs hs => by
      rcases hs with ⟨rfl, hs⟩ | ⟨-, i, len, hd, hlen, hs⟩
      · exact hcl p e s m av.toArray below meth c D cA B _ lo' lj st μ' cs hFx hZ htb hs
      · exact qG_step hx hb hts' hown hF.1 (fun z => by cases z) (fun _ _ _ _ _ z => by cases z) (fun n v z => by cases z) (fun n v z => by cases z)
          (fun idx ci N t z => by cases z)
          (va_AO.use hF.2.2.1) (va_AOA.use hF.2.1) (hts' _ har1) (hts' _ har2)
          (fun idx kd q' z => by cases z)
          (fun _ _ _ _ _ _ _ z => by cases z) (fun _ _ _ z => by cases z)
          (fun pc lo lj st μ cs v hq hR => qs_ret hx hb hr hlocks hq hR.1 hR.2.1 hR.2.2) hd hlen hs)
    have h2 : W p l e { frames := fr, cells := q.2.2.2.1, slots := q.2.2.2.2, locals := lo } s m av.toArray below meth c s.heap [] 0 0 (MQ below (qQc D cA B (q.2.2.1 av μ)) av.toArray s q.2.2.2.1 q.2.2.2.2 (fun a => B ≤ a)) (entryFrame m av.toArray maxL) := by
      rw [lg_entry_eq]
      exact h1 s.heap [] _ hW va_S.rf (qLV_entry (hav av μ hpre) j)
    obtain ⟨t, a1, o, b1, b2, b3⟩ := h2 s₁ hh0 (Stand.of_body Bd)
    exact ⟨t, o, a1, b1, b2, ⟨b3.1, b3.2⟩⟩
