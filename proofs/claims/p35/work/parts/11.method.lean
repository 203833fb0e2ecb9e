/-! ===== arraycopy; a method by its body ===== -/
theorem qE_of {cA : Nat → ClassId} {μ : qMM} {a : Nat} {t : qTm} (h : mS μ a = some t) : qE cA μ a = qEn cA t (mI μ a) (mJ μ a) := by
  unfold qE
  rw [h]
theorem qW.list {D : va_G} {cA : Nat → ClassId} {B : Nat} {μ : qMM} {H : Heap} (h : qW D cA B μ H) : ∃ L : List Nat, (∀ a, a ∈ L ↔ mS μ a ≠ none) ∧ L.Nodup ∧ va_P D vwCl (va_pl L (qE cA μ)) H ∧ va_D (fun q => B ≤ q) (va_pl L (qE cA μ)) := by
  obtain ⟨⟨L, hn, hL⟩, hP, -, -⟩ := h
  have key : ∀ (k : Nat) (q : Nat × va_E), (va_pl L (qE cA μ))[k]? = some q → L[k]? = some q.1 ∧ ∃ t, mS μ q.1 = some t ∧ q.2 = qEn cA t (mI μ q.1) (mJ μ q.1) := by
    intro k q hk
    simp only [va_pl, List.getElem?_map] at hk
    cases hb : L[k]? with
    | none => rw [hb] at hk; cases hk
    | some b =>
      rw [hb] at hk
      cases hk
      refine ⟨rfl, ?_⟩
      cases hm : mS μ b with
      | none => exact absurd hm ((hL b).mp (List.mem_of_getElem? hb))
      | some t => exact ⟨t, rfl, qE_of hm⟩
  refine ⟨L, hL, hn, fun k q hk => ?_, fun i j x y hi hj hxy => ?_, fun k q hk => ?_⟩
  · obtain ⟨-, t, h1, h2⟩ := key k q hk
    have := (hP _ _ h1).2
    rw [← h2] at this
    exact this
  · have h1 := (key i x hi).1
    have h2 := (key j y hj).1
    rw [← hxy] at h2
    obtain ⟨g1, g2⟩ := List.getElem?_eq_some_iff.mp h1
    obtain ⟨g3, g4⟩ := List.getElem?_eq_some_iff.mp h2
    have hp := List.pairwise_iff_getElem.mp hn
    rcases Nat.lt_trichotomy i j with z | z | z
    · exact absurd (g2.trans g4.symm) (hp i j g1 g3 z)
    · exact z
    · exact absurd (g4.trans g2.symm) (hp j i g3 g1 z)
  · obtain ⟨-, t, h1, -⟩ := key k q hk
    exact (hP _ _ h1).1
theorem qW.unlist {D : va_G} {cA : Nat → ClassId} {B : Nat} {μ μ' : qMM} {H H1 : Heap} {L : List Nat} {a k : Nat} {t : qTm} (h : qW D cA B μ H) (hL : ∀ a, a ∈ L ↔ mS μ a ≠ none) (hn : L.Nodup) (hk : (va_pl L (qE cA μ))[k]? = some (a, qE cA μ a)) (ht : mS μ a = some t) (hP : va_P D vwCl ((va_pl L (qE cA μ)).set k (a, qEn cA t (mI μ' a) (mJ μ' a))) H1)
    (hS : ∀ b, mS μ' b = mS μ b) (hI : ∀ b, b ≠ a → mI μ' b = mI μ b) (hJ : ∀ b, b ≠ a → mJ μ' b = mJ μ b) (hN : mN μ' = none) : qW D cA B μ' H1 := by
  have hkl := (List.getElem?_eq_some_iff.mp hk).1
  have hka : L[k]? = some a := by
    simp only [va_pl, List.getElem?_map] at hk
    cases hb : L[k]? with
    | none => rw [hb] at hk; cases hk
    | some b => rw [hb] at hk; cases hk; rfl
  have ha : va_at D vwCl (a, qEn cA t (mI μ' a) (mJ μ' a)) H1 := hP k _ (by rw [List.getElem?_set_self hkl])
  refine ⟨⟨L, hn, fun b => by rw [hS, hL]⟩, fun b tb hb => ?_, Nat.le_trans (h.2.1 a t ht).1 (Nat.le_of_lt ha.lt), fun n h => by rw [hN] at h; cases h⟩
  rw [hS] at hb
  refine ⟨(h.2.1 b tb hb).1, ?_⟩
  by_cases e : b = a
  · subst e
    have : tb = t := Option.some.inj (hb.symm.trans ht)
    subst this
    exact ha
  · rw [hI b e, hJ b e]
    obtain ⟨j, hj⟩ := List.getElem?_of_mem ((hL b).mpr (by rw [hb]; exact fun q => by cases q))
    have hjk : j ≠ k := by
      rintro rfl
      rw [hka] at hj
      exact e (Option.some.inj hj).symm
    refine hP j (b, qEn cA tb (mI μ b) (mJ μ b)) ?_
    rw [List.getElem?_set_ne (Ne.symm hjk)]
    simp [va_pl, hj, qE_of hb]
section
variable {p : Program} {l : Launch} {e : Env} {R : Room} {s : State} {m : MethodId} {args : Array Value} {below : List Frame} {meth : Method} {c : Code} {D : va_G} {cA : Nat → ClassId} {B nL : Nat} {Q : State → Prop} {cc : ByteArray} {pc : Nat} {lo lj : List (Option Value)} {st : List Value} {μ : qMM} {cs : Nat × Nat}
theorem qc_acp {own : String} (hF : qFix p s m args c D cA cc nL own) {idx : Nat} (hw : ∀ w ∈ [Cond.methodLink own idx arraycopyName, .native arraycopyName, .static arraycopyName, .initialized "java/lang/System"], w ∈ qT) (hR : 1 ≤ R.frames ∧ 26 ≤ R.locals) : qCOK p l e R s m args below meth c D cA B nL Q cc idx 1 spAcp := by
  intro pc lo lj st μ cs hdg h H locs ls hW hS hL
  obtain ⟨h1, h2, h3, h4, ⟨a0, sp, a, dp, n, n0, n1, f0, f1, e1, g1, g2, g3, g4, g5, g6, g7, g8⟩, h6⟩ := h
  have hst : st = Value.int n :: Value.int dp :: Value.ref a :: Value.int sp :: Value.ref a0 :: st.drop spAcp.1 := qStk e1
  rw [e1] at h6
  generalize hre : st.drop spAcp.1 = rest at *
  have h7 := h6 none (wR μ a (va_cpy (mI μ a0) (mI μ a) sp.toNatClampNeg dp.toNatClampNeg n.toNatClampNeg)) (fun a0' sp' a' dp' n' e => by cases e; exact ⟨rfl, rfl⟩)
  rw [hst]
  obtain ⟨L, hL1, hn, hP, hD⟩ := hW.list
  obtain ⟨q0, hq0⟩ := va_pl_get (X := []) (f := qE cA μ) ((hL1 a0).mpr (by rw [g1]; exact fun q => by cases q))
  obtain ⟨q1, hq1⟩ := va_pl_get (X := []) (f := qE cA μ) ((hL1 a).mpr (by rw [g2]; exact fun q => by cases q))
  rw [List.nil_append] at hq0 hq1
  have e0 := qE_of (cA := cA) g1
  have e2 := qE_of (cA := cA) g2
  have hq0' := hq0
  have hq1' := hq1
  rw [e0] at hq0'
  rw [e2] at hq1'
  refine va_copyi hF.1.1 hF.1.2.1 (by rw [hF.1.2.2.1]; exact hL.1.symm) hF.1.2.2.2.1 (hF.1.2.2.2.2 _ (hw _ (.head _))) (hF.1.2.2.2.2 _ (hw _ (.tail _ (.head _)))) (hF.1.2.2.2.2 _ (hw _ (.tail _ (.tail _ (.head _))))) (hF.1.2.2.2.2 _ (hw _ (.tail _ (.tail _ (.tail _ (.head _)))))) hF.2.1 hP hD hS q0 q1 0 0 hq0' hq1' rfl rfl rfl g3 g4 g5 g6 g7 (fun _ _ => rfl) hR.1 ?_ hdg (fun H1 locs1 hP1 hD1 hS1 => ?_)
  · have := qRest h2
    show _ + (5 + 2 + 11) ≤ _
    omega
  · refine h7 H1 locs1 ls (hW.unlist hL1 hn hq1 g2 ?_ (fun _ => rfl) (fun b hb => if_neg hb) (fun _ _ => rfl) g8) hS1 hL
    have : mI (wR μ a (va_cpy (mI μ a0) (mI μ a) sp.toNatClampNeg dp.toNatClampNeg n.toNatClampNeg)) a = va_cpy (mI μ a0) (mI μ a) sp.toNatClampNeg dp.toNatClampNeg n.toNatClampNeg := if_pos rfl
    rw [this]
    exact hP1
/-- the end of a body -/
theorem qs_ret {rt : Option FieldType} {mc ms : Nat} {post : Option Value → qMM → Prop} (hx : p.tables.exec = Jvm.exec) (hb : c.code = cc) (hr : meth.sig.returnType = rt) (hlocks : meth.locks = false) {v : Option Value} (hq : qRet cc rt pc st v) (hp : post v μ) (h1 : cs.1 ≤ mc) (h2 : cs.2 ≤ ms) : qG p l e R s m args below meth c D cA B nL (MQ below (qQc D cA B post) args s mc ms (fun a => B ≤ a)) pc lo lj st μ cs := by
  intro H locs ls hW hS hL
  refine W.widen (k := mc) (n := ms) h1 h2 ?_
  have fin : ∀ t : State, t.heap = H → s.WarmedH t.vm → qQc D cA B post args s (.returned v) t := fun t ht hWm => ⟨⟨v, μ, rfl, hp, by rw [ht]; exact hW⟩, hS.F ht⟩
  rcases hq with ⟨x, ty, rfl, rfl, rfl, ho, hd⟩ | ⟨x, rfl, rfl, rfl, hd⟩ | ⟨x, rfl, rfl, rfl, hd⟩ | ⟨x, ty, rfl, rfl, rfl, ho, hd⟩ | ⟨rfl, rfl, rfl, hd⟩
  · refine W.zret hx hb hr ?_ fin hS.2.2 hd hlocks
    cases ty <;> first | rfl | exact ho.elim | (rcases ho with rfl | rfl <;> rfl)
  · exact W.lret hx hb hr fin hS.2.2 hd hlocks
  · exact W.dret hx hb hr fin hS.2.2 hd hlocks
  · refine W.aret hx hb hr ?_ (Or.inr ⟨x, rfl⟩) fin hS.2.2 hd hlocks
    cases ty with
    | object n => exact Or.inl ⟨n, rfl⟩
    | array t => exact Or.inr ⟨t, rfl⟩
    | _ => exact ho.elim
  · exact W.vret hx hb hr fin hS.2.2 hd hlocks
end
theorem qMet_ofW {l : Launch} {y : MethodName} {ws ws' : List Cond} {rm : Room} {Pc : Array Value → State → Prop} {Qc : Array Value → State → Outcome → State → Prop} {mc ms : Nat} {free : Addr → Prop} {cc : ByteArray} {maxL : Nat} {ret : Option FieldType}
    (hy : plainFor y = true) (hw : ws = Cond.code y cc maxL ret :: ws')
    (body : ∀ p e s m args below meth c s₁, BodyLoose p l y (headSpec ws rm) cc maxL ret e s m args below meth c s₁ → c.maxLocals = maxL → Pc args s →
      W p l e (headSpec ws rm).room s m args below meth c s.heap [] 0 0 (MQ below Qc args s mc ms free) (entryFrame m args maxL)) : Met l y ws rm Pc Qc mc ms free := by
  refine MetFree.of_bodySF (code := cc) (maxLocals := maxL) (ret := ret) hy ?_ ?_
  · intro args s m h hn
    obtain ⟨meth, c, h1, h2, h3, h4, h5, h6, -, -⟩ := Cond.code_spec hn (atoms_spec (ws := ws) h _ (by rw [hw]; exact List.mem_cons_self))
    exact ⟨meth, c, h1, h2, h3, h4, h5, h6⟩
  · intro p e s m args below meth c s₁ B hml hP _
    have hh0 : s₁.heap = s.heap := by rw [B.state]; rfl
    obtain ⟨t, a1, o, b1, b2, b3⟩ := body p e s m args below meth c s₁ B hml hP s₁ hh0 (Stand.of_body B)
    exact ⟨t, o, a1, b1, b2, ⟨b3.1, b3.2⟩⟩
/-- the tables of a method's body: fields, calls, constants, made classes -/
def qTab (own : String) (fld : Nat → Option (Nat × Nat × FieldType × Bool)) (cst : Nat → Option Int32) (csl : Nat → Option Int64) (nwo : Nat → Option (Nat × Nat × List Value)) : Prop :=
  (∀ idx ci j ty fin, fld idx = some (ci, j, ty, fin) → qFd qT own idx ci j ty fin) ∧ (∀ n v, cst n = some v → Cond.constant own n v ∈ qT) ∧ (∀ n v, csl n = some v → Cond.constantLong own n v ∈ qT) ∧ ∀ idx ci N t, nwo idx = some (ci, N, t) → (ci = 99 ∧ Cond.classLink own idx ("[" ++ (FieldType.array .int).toString) ∈ qT) ∨ qNw qT own idx ci N t
/-- a method that only returns, by its body -/
theorem qMet_of {l : Launch} {y : MethodName} {b : ByteArray} {maxL : Nat} {ret : Option FieldType} {fr lo : Nat} {q : qCS} {fld : Nat → Option (Nat × Nat × FieldType × Bool)} {cal : Nat → Option (Nat × qCS)} {cst : Nat → Option Int32} {csl : Nat → Option Int64} {nwo : Nat → Option (Nat × Nat × List Value)} {ini : Bool} (j : Bool)
    (hy : plainFor y = true) (htab : qTab y.cls fld cst csl nwo) (har1 : Cond.arrayClass .int ∈ qT) (har2 : Cond.arrayClass .long ∈ qT) (hini : ini = true → y.name = "<init>")
    (hcal : ∀ idx kd q', cal idx = some (kd, q') → ∀ (p : Program) (e : Env) (s : State) (m : MethodId) (args : Array Value) (below : List Frame) (meth : Method) (c : Code) (D : va_G) (cA : Nat → ClassId) (B : Nat) (Q : State → Prop), qFix p s m args c D cA b maxL y.cls → qCOK p l e { frames := fr, cells := q.2.2.2.1, slots := q.2.2.2.2, locals := lo } s m args below meth c D cA B maxL Q b idx kd q')
    (hav : ∀ av μ, q.2.1 av μ → (lg_sl av).length ≤ maxL)
    (hEX : ∀ av μ, q.2.1 av μ → EX (stepOf b fld cal cst csl nwo (fun _ => none) (fun _ => none) ini ret q.2.2.2.1 q.2.2.2.2 (fun v μ' cs => q.2.2.1 av μ v μ' ∧ cs.1 ≤ q.2.2.2.1 ∧ cs.2 ≤ q.2.2.2.2) (fun _ _ _ => False)) 0 (qPd (qL0 av) maxL) (bif j then qPd (qJ0 av) maxL else []) [] μ (0, 0)) : qMet l y b maxL ret fr lo q := by
  intro D cA B av μ hpre
  refine qMet_ofW (cc := b) (maxL := maxL) (ret := ret) hy rfl ?_
  intro p e s m args below meth c s₁ Bd hml hv
  obtain ⟨rfl, hW, hF⟩ := hv
  have hx := Bd.exec
  have hb := Bd.bytes
  have hr := Bd.returns
  have hts := atoms_spec (ws := qWs y b maxL ret) Bd.pre
  have hts' : ∀ w ∈ qT, w.before av.toArray s = true := fun w hw => hts w (List.mem_cons_of_mem _ hw)
  have hown : s.vm.findClass y.cls = some m.cls := findClass_of_methodNamed Bd.named
  have hlocks := Bd.notSynchronized
  have hname : meth.name = y.name := (name_of_methodNamed Bd.named Bd.method).1
  have hFx : qFix p s m av.toArray c D cA b maxL y.cls := ⟨⟨hx, hb, hml, hown, hts'⟩, hF⟩
  have h0 := hEX av μ hpre
  have h1 := h0 (qG p l e { frames := fr, cells := q.2.2.2.1, slots := q.2.2.2.2, locals := lo } s m av.toArray below meth c D cA B maxL (MQ below (qQc D cA B (q.2.2.1 av μ)) av.toArray s q.2.2.2.1 q.2.2.2.2 (fun a => B ≤ a))) (fun pc lo' lj st μ' cs hs => by
    obtain ⟨i, len, hd, hl, hs⟩ := hs
    exact qG_step hx hb hts' hown hF.1 (fun z => hname.trans (hini z)) htab.1 (fun n v z => hts' _ (htab.2.1 n v z)) (fun n v z => hts' _ (htab.2.2.1 n v z))
      (fun idx ci N t z => (htab.2.2.2 idx ci N t z).elim (fun w => Or.inl ⟨w.1, hts' _ w.2⟩) Or.inr)
      (va_AO.use hF.2.2.1) (va_AOA.use hF.2.1) (hts' _ har1) (hts' _ har2)
      (fun idx kd q' z => hcal idx kd q' z p e s m av.toArray below meth c D cA B _ hFx)
      (fun _ _ _ _ _ _ _ z => by cases z) (fun _ _ _ z => by cases z)
      (fun pc lo lj st μ cs v hq hR => qs_ret hx hb hr hlocks hq hR.1 hR.2.1 hR.2.2) hd hl hs)
  rw [lg_entry_eq]
  exact h1 s.heap [] _ hW va_S.rf (qLV_entry (hav av μ hpre) j)
