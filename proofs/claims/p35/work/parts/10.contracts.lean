/-! ===== contracts: a method's, over the abstract memory; calls by contract ===== -/
/-- the words that every method asks: all good ones of the tables -/
def qT : List Cond := lw_tbl.filter goodWord
theorem qT_in {w : Cond} (h : w ∈ lw_tbl) (hg : goodWord w = true) : w ∈ qT := List.mem_filter.mpr ⟨h, hg⟩
theorem qT_good {ws : List Cond} (h : ∀ w ∈ ws, w ∈ qT) : GoodIn qT ws := fun w hw => ⟨h w hw, good_of_word (List.mem_filter.mp (h w hw)).2⟩
/-- links to nest mates' private members: (class, entry, method) -/
def qNest : List (String × Nat × MethodName) := [("HeaderSqueezer", 9, ⟨"HeaderSqueezer$PacketLog", "<init>", "()V"⟩), ("HeaderSqueezer$State", 11, ⟨"HeaderSqueezer$Link", "<init>", "()V"⟩), ("HeaderSqueezer", 27, ⟨"HeaderSqueezer$Script", "<init>", "()V"⟩), ("HeaderSqueezer$Rows", 29, ⟨"HeaderSqueezer", "inRange", "(III)Z"⟩), ("HeaderSqueezer$Link", 25, ⟨"HeaderSqueezer", "inRange", "(III)Z"⟩), ("HeaderSqueezer$Sender", 109, ⟨"HeaderSqueezer", "inRange", "(III)Z"⟩)]
/-- what the tables say in every frame, beside the good words -/
def qF (D : va_G) (cA : Nat → ClassId) (U : State) : Prop :=
  va_K D vwCl (qTys cA) U ∧ va_AOA .int U ∧ va_AO "HeaderSqueezer$State" U ∧ ∀ q ∈ qNest, va_Nw (.methodLinkNest q.1 q.2.1 q.2.2 "HeaderSqueezer") U
theorem va_AOA.moved {t : FieldType} {u U : State} (hvm : u.vm.Alike U.vm) (h : va_AOA t u) : va_AOA t U := Jvm.Stand.arrayOver_alikeB hvm h
theorem qF.warm {D : va_G} {cA : Nat → ClassId} {s U : State} (hW : s.WarmedH U.vm) (h : qF D cA s) : qF D cA U :=
  ⟨va_K.moved hW.alike h.1, va_AOA.moved hW.alike h.2.1, va_AO.moved hW.alike h.2.2.1, fun q hq => va_Nw.warmM hW (h.2.2.2 q hq)⟩
theorem qF.same {D : va_G} {cA : Nat → ClassId} {s U : State} (he : s.vm = U.vm) (h : qF D cA s) : qF D cA U := by
  have hal : s.vm.Alike U.vm := by rw [he]; exact Vm.Alike.refl _
  exact ⟨va_K.moved hal h.1, va_AOA.moved hal h.2.1, va_AO.moved hal h.2.2.1, fun q hq => va_Nw.same rfl he (h.2.2.2 q hq)⟩
def qPc (D : va_G) (cA : Nat → ClassId) (B : Nat) (av : List Value) (μ : qMM) : Array Value → State → Prop := va_Pc av (fun U => qW D cA B μ U.heap ∧ qF D cA U)
def qQc (D : va_G) (cA : Nat → ClassId) (B : Nat) (post : Option Value → qMM → Prop) : Array Value → State → Outcome → State → Prop := fun _ st oc t =>
  (∃ (v : Option Value) (μ' : qMM), oc = .returned v ∧ post v μ' ∧ qW D cA B μ' t.heap) ∧ va_F (fun q => B ≤ q) st t
theorem qPc_blind {D : va_G} {cA : Nat → ClassId} {B : Nat} {av : List Value} {μ : qMM} : FrameBlind (qPc D cA B av μ) := fun _ _ _ _ h => ⟨h.1, h.2.1, h.2.2.same rfl⟩
abbrev qWs (y : MethodName) (b : ByteArray) (maxL : Nat) (ret : Option FieldType) : List Cond := Cond.code y b maxL ret :: qT
/-- the contract of method y: fr frames and lo words of locals deep; its cells and slots stand in q -/
def qMet (l : Launch) (y : MethodName) (b : ByteArray) (maxL : Nat) (ret : Option FieldType) (fr lo : Nat) (q : qCS) : Prop :=
  ∀ (D : va_G) (cA : Nat → ClassId) (B : Nat) (av : List Value) (μ : qMM), q.2.1 av μ → Met l y (qWs y b maxL ret) { frames := fr, cells := q.2.2.2.1, slots := q.2.2.2.2, locals := lo } (qPc D cA B av μ) (qQc D cA B (q.2.2.1 av μ)) q.2.2.2.1 q.2.2.2.2 (fun a => B ≤ a)
/-! the locals at a method's entry -/
def qL0 : List Value → List (Option Value)
  | [] => []
  | v :: r => if v.category = 2 then none :: none :: qL0 r else some v :: qL0 r
def qJ0 : List Value → List (Option Value)
  | [] => []
  | v :: r => if v.category = 2 then some v :: none :: qJ0 r else none :: qJ0 r
theorem qL0_len (av : List Value) : (qL0 av).length = (lg_sl av).length := by
  induction av with
  | nil => rfl
  | cons v r ih =>
    by_cases h : v.category = 2 <;> simp [qL0, lg_sl, h] <;> simpa [lg_sl] using ih
theorem qJ0_len (av : List Value) : (qJ0 av).length = (lg_sl av).length := by
  induction av with
  | nil => rfl
  | cons v r ih =>
    by_cases h : v.category = 2 <;> simp [qJ0, lg_sl, h] <;> simpa [lg_sl] using ih
theorem qL0_in (av : List Value) : ∀ (k i : Nat) (v : Value), (qL0 av)[i]? = some (some v) → (k + i, v) ∈ lv_args k av ∧ v.category = 1 := by
  induction av with
  | nil => intro k i v h; simp [qL0] at h
  | cons w r ih =>
    intro k i v h
    by_cases hc : w.category = 2
    · simp only [qL0, hc, if_true] at h
      simp only [lv_args, hc, if_true]
      match i, h with
      | 0, h => simp at h
      | 1, h => simp at h
      | i + 2, h =>
        have := ih (k + 2) i v (by simpa using h)
        exact ⟨List.mem_cons_of_mem _ (by rw [show k + (i + 2) = k + 2 + i by omega]; exact this.1), this.2⟩
    · simp only [qL0, hc, if_false] at h
      simp only [lv_args, hc, if_false]
      match i, h with
      | 0, h =>
        have : w = v := by simpa using h
        subst this
        have := lv_cat w
        exact ⟨List.mem_cons_self, by omega⟩
      | i + 1, h =>
        have := ih (k + 1) i v (by simpa using h)
        exact ⟨List.mem_cons_of_mem _ (by rw [show k + (i + 1) = k + 1 + i by omega]; exact this.1), this.2⟩
theorem qJ0_in (av : List Value) : ∀ (k i : Nat) (v : Value), (qJ0 av)[i]? = some (some v) → (k + i, v) ∈ lv_args k av ∧ v.category = 2 := by
  induction av with
  | nil => intro k i v h; simp [qJ0] at h
  | cons w r ih =>
    intro k i v h
    by_cases hc : w.category = 2
    · simp only [qJ0, hc, if_true] at h
      simp only [lv_args, hc, if_true]
      match i, h with
      | 0, h =>
        have : w = v := by simpa using h
        subst this
        exact ⟨List.mem_cons_self, hc⟩
      | 1, h => simp at h
      | i + 2, h =>
        have := ih (k + 2) i v (by simpa using h)
        exact ⟨List.mem_cons_of_mem _ (by rw [show k + (i + 2) = k + 2 + i by omega]; exact this.1), this.2⟩
    · simp only [qJ0, hc, if_false] at h
      simp only [lv_args, hc, if_false]
      match i, h with
      | 0, h => simp at h
      | i + 1, h =>
        have := ih (k + 1) i v (by simpa using h)
        exact ⟨List.mem_cons_of_mem _ (by rw [show k + (i + 1) = k + 1 + i by omega]; exact this.1), this.2⟩
def qPd (l : List (Option Value)) (n : Nat) : List (Option Value) := l ++ List.replicate (n - l.length) none
theorem qPd_get {l : List (Option Value)} {n i : Nat} {v : Value} (h : (qPd l n)[i]? = some (some v)) : l[i]? = some (some v) := by
  unfold qPd at h
  by_cases hi : i < l.length
  · rw [List.getElem?_append_left hi] at h
    exact h
  · rw [List.getElem?_append_right (by omega), List.getElem?_replicate] at h
    split at h <;> simp at h
theorem qLV_entry {av : List Value} {n : Nat} (h : (lg_sl av).length ≤ n) (j : Bool) : qLV n (qPd (qL0 av) n) (bif j then qPd (qJ0 av) n else []) ((lg_sl av ++ List.replicate (n - (lg_sl av).length) Slot.unset).toArray) := by
  obtain ⟨h1, h2, h3⟩ := lv_entry av h
  refine ⟨h1, h2, ?_, ?_, fun i v hi => ?_, fun i v hi => ?_⟩
  · have := qL0_len av
    simp [qPd]
    omega
  · have := qJ0_len av
    cases j <;> simp [qPd]
    omega
  · have := qL0_in av 0 i v (qPd_get hi)
    exact ⟨by have h4 := h3 _ this.1; simpa using h4, this.2⟩
  · cases j with
    | false => simp at hi
    | true =>
      have := qJ0_in av 0 i v (qPd_get hi)
      exact ⟨by have h4 := h3 _ this.1; simpa using h4, this.2⟩
section
variable {p : Program} {l : Launch} {e : Env} {R : Room} {s : State} {m : MethodId} {args : Array Value} {below : List Frame} {meth : Method} {c : Code} {D : va_G} {cA : Nat → ClassId} {B nL : Nat} {Q : State → Prop} {cc : ByteArray} {pc : Nat} {lo lj : List (Option Value)} {st : List Value} {μ : qMM} {cs : Nat × Nat}
theorem qRest {st : List Value} (h : st.length ≤ 4) : (st.map fun v => v.category).sum ≤ 8 := by
  have key : ∀ st : List Value, (st.map fun v => v.category).sum ≤ 2 * st.length := by
    intro st
    induction st with
    | nil => simp
    | cons v r ih =>
      have := lv_cat v
      simp only [List.map_cons, List.sum_cons, List.length_cons]
      omega
  have := key st
  omega
/-- behind a call -/
theorem qs_run {H : Heap} {locs : List Loc} {ls : Array Slot} {st0 rest : List Value} {a : Array Value} {mc ms : Nat} {post : Option Value → qMM → Prop} (hr : va_Run p l e R s m args below meth c H locs cs.1 cs.2 mc ms (F0 m pc ls st0) rest (qQc D cA B post a) (fun q => B ≤ q)) (hS : va_S (fun q => B ≤ q) s.heap H locs) (hL : qLV nL lo lj ls)
    (kk : ∀ v μ', post v μ' → qG p l e R s m args below meth c D cA B nL Q (pc + 3) lo lj (v.toList ++ rest) μ' (cs.1 + mc, cs.2 + ms)) : W p l e R s m args below meth c H locs cs.1 cs.2 Q (F0 m pc ls st0) := by
  intro T hT X
  obtain ⟨v, st₀, t, T', L, h0, X', hL9, e1, e2, ⟨⟨v', μ', hv, hp, hw⟩, hz, hk⟩, stp⟩ := hr T hT X
  cases hv
  rw [h0] at hz hk
  obtain ⟨t2, a1, b1⟩ := kk v μ' hp T'.heap (locs ++ L) ls (by rw [e1]; exact hw)
    ⟨Nat.le_trans hS.1 (by rw [e1]; exact hz), fun q h1 h2 => by rw [e1, hk q (Nat.lt_of_lt_of_le h1 hS.1) h2]; exact hS.2.1 q h1 h2, fun q hq => by
      rcases List.mem_append.mp hq with h | h
      · exact hS.2.2 q h
      · exact hL9 q h⟩ hL T' rfl X'
  exact ⟨t2, stp t2 a1, b1⟩
/-- what is the same at all calls of a body -/
def qFix (p : Program) (s : State) (m : MethodId) (args : Array Value) (c : Code) (D : va_G) (cA : Nat → ClassId) (cc : ByteArray) (nL : Nat) (own : String) : Prop := CallFix p m c cc nL s args qT own ∧ qF D cA s
/-- a call's instruction by contract -/
def qCOK (p : Program) (l : Launch) (e : Env) (R : Room) (s : State) (m : MethodId) (args : Array Value) (below : List Frame) (meth : Method) (c : Code) (D : va_G) (cA : Nat → ClassId) (B nL : Nat) (Q : State → Prop) (cc : ByteArray) (idx kd : Nat) (q : qCS) : Prop :=
  ∀ pc lo lj st μ cs, decode cc pc = .ok (qIns kd idx, 3) → qCal q st μ cs R.cells R.slots (fun st' μ' cs' => qG p l e R s m args below meth c D cA B nL Q (pc + 3) lo lj st' μ' cs') → qG p l e R s m args below meth c D cA B nL Q pc lo lj st μ cs
theorem qStk {n : Nat} {st av : List Value} (h : (st.take n).reverse = av) : st = av.reverse ++ st.drop n := by
  rw [← h, List.reverse_reverse, List.take_append_drop]
/-- the receiver of a call by contract -/
def qRecv (q : qCS) (ci n : Nat) : Prop := ∀ av μ, q.2.1 av μ → ∃ (b : Nat) (As : List Value) (t : List Value), av = .ref b :: As ∧ As.length = n ∧ mS μ b = some (.inl (ci, t))
theorem qc_V {own : String} (hF : qFix p s m args c D cA cc nL own) {y : MethodName} {b : ByteArray} {maxL fr lo' n ci idx : Nat} {ret : Option FieldType} {C : String} {T : u_T} {N : Nat} {q : qCS} (hM : qMet l y b maxL ret fr lo' q) (hw : ∀ w ∈ [Cond.methodLink own idx y, .instanceMethod y, .selects C y y, .initialized C, .code y b maxL ret], w ∈ qT) (hci : vwCl[ci]? = some (C, T, N)) (hd : y.cls = C ∧ y.cls ≠ "java/lang/invoke/MethodHandle" ∧ y.cls ≠ "java/lang/invoke/VarHandle" ∧ (parseMethodDescriptor y.desc).map (fun d => d.parameters.length) = some n) (hR : fr + 1 ≤ R.frames ∧ 8 + (maxL + 11) + lo' ≤ R.locals) (hrc : qRecv q ci n) : qCOK p l e R s m args below meth c D cA B nL Q cc idx 0 q := by
  intro pc lo lj st μ cs hdg h H locs ls hW hS hL
  obtain ⟨h1, h2, h3, h4, h5, h6⟩ := h
  obtain ⟨o, As, t, e1, e2, e3⟩ := hrc _ _ h5
  have hst := qStk e1
  generalize hre : st.drop q.1 = rest at *
  rw [e1] at h5 h6
  have hG : GoodIn qT (wsV own idx C y (qWs y b maxL ret)) := qT_good fun w hw2 => by
    rcases List.mem_append.mp hw2 with z | z
    · exact hw w (List.mem_append_left [Cond.code y b maxL ret] z)
    · rcases List.mem_cons.mp z with rfl | z
      · exact hw _ (.tail _ (.tail _ (.tail _ (.tail _ (.head _)))))
      · exact z
  have h7 := va_runV (e := e) (H := H) (locs := locs) (cells := cs.1) (slots := cs.2) (below := below) (meth := meth) (As := As) (rest := rest) (b := o) (g := F0 m pc ls st) hF.1 (hM D cA B _ μ h5) (cwV n hF.1.2.2.2.2 hG rfl rfl rfl hd hR) ⟨qPc_blind, va_recv (q0 := 0) hF.2.1 (hW.one e3) hci rfl, fun U hU hWm => ⟨rfl, by rw [hU]; exact hW, hF.2.warm hWm⟩⟩ rfl e2 hL.1 (by rw [hst]; simp) (by show 2 * 0 + _ ≤ 8; have := qRest h2; omega) hdg ⟨h3, h4⟩
  exact qs_run h7 hS hL h6
theorem qc_S {own : String} (hF : qFix p s m args c D cA cc nL own) {y : MethodName} {b : ByteArray} {maxL fr lo' n idx : Nat} {ret : Option FieldType} {q : qCS} (hM : qMet l y b maxL ret fr lo' q) (hw : ∀ w ∈ [Cond.methodLink own idx y, .static y, .initialized y.cls, .code y b maxL ret], w ∈ qT) (hn : q.1 = n) (hd : y.cls ≠ "java/lang/invoke/MethodHandle" ∧ y.cls ≠ "java/lang/invoke/VarHandle" ∧ (parseMethodDescriptor y.desc).map (fun d => d.parameters.length) = some n) (hR : fr + 1 ≤ R.frames ∧ 8 + (maxL + 11) + lo' ≤ R.locals) : qCOK p l e R s m args below meth c D cA B nL Q cc idx 1 q := by
  intro pc lo lj st μ cs hdg h H locs ls hW hS hL
  obtain ⟨h1, h2, h3, h4, h5, h6⟩ := h
  have e2 : (st.take q.1).reverse.length = n := by simp; omega
  generalize e1 : (st.take q.1).reverse = As at h5 h6 e2
  have hst := qStk e1
  generalize hre : st.drop q.1 = rest at *
  have hG : GoodIn qT (va_wsS own idx y (qWs y b maxL ret)) := qT_good fun w hw2 => by
    rcases List.mem_append.mp hw2 with z | z
    · exact hw w (List.mem_append_left [Cond.code y b maxL ret] z)
    · rcases List.mem_cons.mp z with rfl | z
      · exact hw _ (.tail _ (.tail _ (.tail _ (.head _))))
      · exact z
  have h7 := va_runS (e := e) (H := H) (locs := locs) (cells := cs.1) (slots := cs.2) (below := below) (meth := meth) (As := As) (rest := rest) (g := F0 m pc ls st) hF.1 (hM D cA B _ μ h5) (va_cwS n hF.1.2.2.2.2 hG rfl rfl rfl hd hR) ⟨qPc_blind, fun U hU hWm => ⟨rfl, by rw [hU]; exact hW, hF.2.warm hWm⟩⟩ rfl e2 hL.1 hst (by show 2 * 0 + _ ≤ 8; have := qRest h2; omega) hdg ⟨h3, h4⟩
  exact qs_run h7 hS hL h6
theorem qc_I {own : String} (hF : qFix p s m args c D cA cc nL own) {y : MethodName} {b : ByteArray} {maxL fr lo' n ci idx : Nat} {q : qCS} (hM : qMet l y b maxL none fr lo' q) (hw : ∀ w ∈ [Cond.methodLink own idx y, .instanceMethod y, .initialized y.cls, .code y b maxL none], w ∈ qT) (hy1 : y.name = "<init>") (hd : y.cls ≠ "java/lang/invoke/MethodHandle" ∧ y.cls ≠ "java/lang/invoke/VarHandle" ∧ (parseMethodDescriptor y.desc).map (fun d => d.parameters.length) = some n) (hR : fr + 1 ≤ R.frames ∧ 8 + (maxL + 11) + lo' ≤ R.locals) (hrc : qRecv q ci n) : qCOK p l e R s m args below meth c D cA B nL Q cc idx 2 q := by
  intro pc lo lj st μ cs hdg h H locs ls hW hS hL
  obtain ⟨h1, h2, h3, h4, h5, h6⟩ := h
  obtain ⟨o, As, t, e1, e2, e3⟩ := hrc _ _ h5
  have hst := qStk e1
  generalize hre : st.drop q.1 = rest at *
  rw [e1] at h5 h6
  have hG : GoodIn qT (qWs y b maxL none) := qT_good fun w hw2 => by
    rcases List.mem_cons.mp hw2 with rfl | z
    · exact hw _ (.tail _ (.tail _ (.tail _ (.head _))))
    · exact z
  have h7 := va_runI (e := e) (H := H) (locs := locs) (cells := cs.1) (slots := cs.2) (below := below) (meth := meth) (As := As) (rest := rest) (b := o) (g := F0 m pc ls st) hF.1 (hM D cA B _ μ h5) (cwI n hF.1.2.2.2.2 hG rfl rfl rfl (hF.1.2.2.2.2 _ (hw _ (.tail _ (.tail _ (.head _))))) (hF.1.2.2.2.2 _ (hw _ (.head _))) (hF.1.2.2.2.2 _ (hw _ (.tail _ (.head _)))) hy1 hd hR) ⟨qPc_blind, fun U hU hWm => ⟨rfl, by rw [hU]; exact hW, hF.2.warm hWm⟩⟩ rfl e2 hL.1 (by rw [hst]; simp) (by show 2 * 0 + _ ≤ 8; have := qRest h2; omega) hdg ⟨h3, h4⟩
  exact qs_run h7 hS hL h6
theorem qc_SN {own : String} (hF : qFix p s m args c D cA cc nL own) {y : MethodName} {b : ByteArray} {maxL fr lo' n idx : Nat} {ret : Option FieldType} {q : qCS} (hM : qMet l y b maxL ret fr lo' q) (hw : ∀ w ∈ [Cond.static y, .initialized y.cls, .code y b maxL ret], w ∈ qT) (hnest : (own, idx, y) ∈ qNest) (hn : q.1 = n) (hd : y.cls ≠ "java/lang/invoke/MethodHandle" ∧ y.cls ≠ "java/lang/invoke/VarHandle" ∧ (parseMethodDescriptor y.desc).map (fun d => d.parameters.length) = some n) (hR : fr + 1 ≤ R.frames ∧ 8 + (maxL + 11) + lo' ≤ R.locals) : qCOK p l e R s m args below meth c D cA B nL Q cc idx 1 q := by
  intro pc lo lj st μ cs hdg h H locs ls hW hS hL
  obtain ⟨h1, h2, h3, h4, h5, h6⟩ := h
  have e2 : (st.take q.1).reverse.length = n := by simp; omega
  generalize e1 : (st.take q.1).reverse = As at h5 h6 e2
  have hst := qStk e1
  generalize hre : st.drop q.1 = rest at *
  have hG : GoodIn qT (qWs y b maxL ret) := qT_good fun w hw2 => by
    rcases List.mem_cons.mp hw2 with rfl | z
    · exact hw _ (.tail _ (.tail _ (.head _)))
    · exact z
  have h7 := va_runSN (e := e) (H := H) (locs := locs) (cells := cs.1) (slots := cs.2) (below := below) (meth := meth) (As := As) (rest := rest) (g := F0 m pc ls st) hF.1 (hM D cA B _ μ h5) ⟨va_cnB n hF.1.2.2.2.2 hG rfl rfl rfl (hF.2.2.2.2 _ hnest) (hF.1.2.2.2.2 _ (hw _ (.tail _ (.head _)))) hd hR, hF.1.2.2.2.2 _ (hw _ (.head _)), trivial⟩ ⟨qPc_blind, fun U hU hWm => ⟨rfl, by rw [hU]; exact hW, hF.2.warm hWm⟩⟩ rfl e2 hL.1 hst (by show 2 * 0 + _ ≤ 8; have := qRest h2; omega) hdg ⟨h3, h4⟩
  exact qs_run h7 hS hL h6
theorem qc_IN {own : String} (hF : qFix p s m args c D cA cc nL own) {y : MethodName} {b : ByteArray} {maxL fr lo' n ci idx : Nat} {q : qCS} (hM : qMet l y b maxL none fr lo' q) (hw : ∀ w ∈ [Cond.instanceMethod y, .initialized y.cls, .code y b maxL none], w ∈ qT) (hnest : (own, idx, y) ∈ qNest) (hy1 : y.name = "<init>") (hd : y.cls ≠ "java/lang/invoke/MethodHandle" ∧ y.cls ≠ "java/lang/invoke/VarHandle" ∧ (parseMethodDescriptor y.desc).map (fun d => d.parameters.length) = some n) (hR : fr + 1 ≤ R.frames ∧ 8 + (maxL + 11) + lo' ≤ R.locals) (hrc : qRecv q ci n) : qCOK p l e R s m args below meth c D cA B nL Q cc idx 2 q := by
  intro pc lo lj st μ cs hdg h H locs ls hW hS hL
  obtain ⟨h1, h2, h3, h4, h5, h6⟩ := h
  obtain ⟨o, As, t, e1, e2, e3⟩ := hrc _ _ h5
  have hst := qStk e1
  generalize hre : st.drop q.1 = rest at *
  rw [e1] at h5 h6
  have hG : GoodIn qT (qWs y b maxL none) := qT_good fun w hw2 => by
    rcases List.mem_cons.mp hw2 with rfl | z
    · exact hw _ (.tail _ (.tail _ (.head _)))
    · exact z
  have h7 := va_runIN (e := e) (H := H) (locs := locs) (cells := cs.1) (slots := cs.2) (below := below) (meth := meth) (As := As) (rest := rest) (b := o) (g := F0 m pc ls st) hF.1 (hM D cA B _ μ h5) ⟨va_cnB n hF.1.2.2.2.2 hG rfl rfl rfl (hF.2.2.2.2 _ hnest) (hF.1.2.2.2.2 _ (hw _ (.tail _ (.head _)))) hd hR, hy1, hF.1.2.2.2.2 _ (hw _ (.head _))⟩ ⟨qPc_blind, fun U hU hWm => ⟨rfl, by rw [hU]; exact hW, hF.2.warm hWm⟩⟩ rfl e2 hL.1 (by rw [hst]; simp) (by show 2 * 0 + _ ≤ 8; have := qRest h2; omega) hdg ⟨h3, h4⟩
  exact qs_run h7 hS hL h6
end
/-! what the library's own do -/
def spObj : qCS := (1, fun av μ => ∃ o t, av = [.ref o] ∧ mS μ o = some t, fun _ μ v μ' => v = none ∧ μ' = μ, 0, 0)
def spMax : qCS := (2, fun av _ => ∃ x y, av = [.int x, .int y], fun av μ v μ' => ∀ x y, av = [.int x, .int y] → v = some (.int (if x < y then y else x)) ∧ μ' = μ, 0, 0)
def spMin : qCS := (2, fun av _ => ∃ x y, av = [.int x, .int y], fun av μ v μ' => ∀ x y, av = [.int x, .int y] → v = some (.int (if y < x then y else x)) ∧ μ' = μ, 0, 0)
def spAcp : qCS := (5, fun av μ => ∃ (a0 : Nat) (sp : Int32) (a : Nat) (dp n : Int32) (n0 n1 : Nat) (f0 f1 : Nat → Option Nat), av = [.ref a0, .int sp, .ref a, .int dp, .int n] ∧ mS μ a0 = some (.inr (0, n0, f0)) ∧ mS μ a = some (.inr (0, n1, f1)) ∧ ¬ sp < 0 ∧ ¬ dp < 0 ∧ ¬ n < 0 ∧ sp.toNatClampNeg + n.toNatClampNeg ≤ n0 ∧ dp.toNatClampNeg + n.toNatClampNeg ≤ n1 ∧ mN μ = none,
  fun av μ v μ' => ∀ (a0 : Nat) (sp : Int32) (a : Nat) (dp n : Int32), av = [.ref a0, .int sp, .ref a, .int dp, .int n] → v = none ∧ μ' = wR μ a (va_cpy (mI μ a0) (mI μ a) sp.toNatClampNeg dp.toNatClampNeg n.toNatClampNeg), 0, 0)
section
variable {p : Program} {l : Launch} {e : Env} {R : Room} {s : State} {m : MethodId} {args : Array Value} {below : List Frame} {meth : Method} {c : Code} {D : va_G} {cA : Nat → ClassId} {B nL : Nat} {Q : State → Prop} {cc : ByteArray} {pc : Nat} {lo lj : List (Option Value)} {st : List Value} {μ : qMM} {cs : Nat × Nat}
theorem qc_obj {own : String} (hF : qFix p s m args c D cA cc nL own) {idx : Nat} (hw : ∀ w ∈ [Cond.methodLink own idx objectInit, .instanceMethod objectInit, .code objectInit ⟨#[0xb1]⟩ 1 none], w ∈ qT) (hR : 1 ≤ R.frames ∧ 20 ≤ R.locals) : qCOK p l e R s m args below meth c D cA B nL Q cc idx 2 spObj := by
  intro pc lo lj st μ cs hdg h H locs ls hW hS hL
  obtain ⟨h1, h2, h3, h4, ⟨o, t, e1, e3⟩, h6⟩ := h
  have hst : st = Value.ref o :: st.drop spObj.1 := qStk e1
  generalize hre : st.drop spObj.1 = rest at *
  have h7 := h6 none μ ⟨rfl, rfl⟩ H locs ls hW hS hL
  rw [hst]
  exact W.objInit hF.1.1 hF.1.2.1 hF.1.2.2.2.1 (hF.1.2.2.2.2 _ (hw _ (.head _))) (hF.1.2.2.2.2 _ (hw _ (.tail _ (.head _)))) (hF.1.2.2.2.2 _ (hw _ (.tail _ (.tail _ (.head _))))) rfl (by rw [hF.1.2.2.1]; exact hL.1) rfl hdg hR.1 (by show 2 * 0 + _ + 12 ≤ _; have := qRest h2; omega) h7
theorem qc_max {own : String} (hF : qFix p s m args c D cA cc nL own) {idx : Nat} (hw : ∀ w ∈ [Cond.methodLink own idx Lib.Math.max.name, .static Lib.Math.max.name, .initialized "java/lang/Math", .code Lib.Math.max.name Lib.Math.max.code 2 (some .int)], w ∈ qT) (hR : 1 ≤ R.frames ∧ 21 ≤ R.locals) : qCOK p l e R s m args below meth c D cA B nL Q cc idx 1 spMax := by
  intro pc lo lj st μ cs hdg h H locs ls hW hS hL
  obtain ⟨h1, h2, h3, h4, ⟨x, y, e1⟩, h6⟩ := h
  have hst : st = Value.int y :: Value.int x :: st.drop spMax.1 := qStk e1
  rw [e1] at h6
  generalize hre : st.drop spMax.1 = rest at *
  have h7 := h6 (some (.int (if x < y then y else x))) μ (fun x' y' e => by cases e; exact ⟨rfl, rfl⟩) H locs ls hW hS hL
  rw [hst]
  exact va_mmax hF.1.1 hF.1.2.1 (by rw [hF.1.2.2.1]; exact hL.1.symm) hF.1.2.2.2.1 (hF.1.2.2.2.2 _ (hw _ (.head _))) (hF.1.2.2.2.2 _ (hw _ (.tail _ (.head _)))) (hF.1.2.2.2.2 _ (hw _ (.tail _ (.tail _ (.head _))))) (hF.1.2.2.2.2 _ (hw _ (.tail _ (.tail _ (.tail _ (.head _)))))) hR.1 (by have := qRest h2; omega) h3 h4 hdg h7
theorem qc_min {own : String} (hF : qFix p s m args c D cA cc nL own) {idx : Nat} (hw : ∀ w ∈ [Cond.methodLink own idx Lib.Math.min.name, .static Lib.Math.min.name, .initialized "java/lang/Math", .code Lib.Math.min.name Lib.Math.min.code 2 (some .int)], w ∈ qT) (hR : 1 ≤ R.frames ∧ 21 ≤ R.locals) : qCOK p l e R s m args below meth c D cA B nL Q cc idx 1 spMin := by
  intro pc lo lj st μ cs hdg h H locs ls hW hS hL
  obtain ⟨h1, h2, h3, h4, ⟨x, y, e1⟩, h6⟩ := h
  have hst : st = Value.int y :: Value.int x :: st.drop spMin.1 := qStk e1
  rw [e1] at h6
  generalize hre : st.drop spMin.1 = rest at *
  have h7 := h6 (some (.int (if y < x then y else x))) μ (fun x' y' e => by cases e; exact ⟨rfl, rfl⟩) H locs ls hW hS hL
  rw [hst]
  exact va_mmin hF.1.1 hF.1.2.1 (by rw [hF.1.2.2.1]; exact hL.1.symm) hF.1.2.2.2.1 (hF.1.2.2.2.2 _ (hw _ (.head _))) (hF.1.2.2.2.2 _ (hw _ (.tail _ (.head _)))) (hF.1.2.2.2.2 _ (hw _ (.tail _ (.tail _ (.head _))))) (hF.1.2.2.2.2 _ (hw _ (.tail _ (.tail _ (.tail _ (.head _)))))) hR.1 (by have := qRest h2; omega) h3 h4 hdg h7
end
