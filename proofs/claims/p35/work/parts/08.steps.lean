/-! ===== what a step means for the machine: instruction by instruction ===== -/
def qTys (cA : Nat → ClassId) : List (ClassId × FieldType) := [(cA 0, .int), (cA 1, .long), (cA 2, .array .int), (cA 3, .object "HeaderSqueezer$State")]
/-- the frame at pc, whatever heap holds the memory: the machine comes to Q -/
def qG (p : Program) (l : Launch) (e : Env) (R : Room) (s : State) (m : MethodId) (args : Array Value) (below : List Frame) (meth : Method) (c : Code) (D : va_G) (cA : Nat → ClassId) (B nL : Nat) (Q : State → Prop) : qKT := fun pc lo lj st μ cs =>
  ∀ (H : Heap) (locs : List Loc) (ls : Array Slot), qW D cA B μ H → va_S (fun q => B ≤ q) s.heap H locs → qLV nL lo lj ls → W p l e R s m args below meth c H locs cs.1 cs.2 Q (F0 m pc ls st)
/-- a field's row: pool entry, class, slot, type, final -/
def qFd (Ts : List Cond) (own : String) (idx ci j : Nat) (ty : FieldType) (fin : Bool) : Prop :=
  ∃ (C : String) (T : u_T) (N : Nat) (ty0 : Nat → FieldType), vwCl[ci]? = some (C, T, N) ∧ j < N ∧ Cond.fieldLink own idx (T j).1 (T j).2.1 (T j).2.2.1 ∈ Ts ∧ (∀ w ∈ u_ws C T N, w ∈ Ts) ∧ (∀ k, k < N → parseFieldDescriptor (T k).2.2.1 = some (ty0 k)) ∧ (∀ a, a < N → ∀ b, b < N → a ≠ b → (T a).2.1 ≠ (T b).2.1) ∧ (ty = .float ∨ (ty0 j = ty ∧ (T j).2.2.2 = fin ∧ (fin = true → (T j).1 = own)))
def qNw (Ts : List Cond) (own : String) (idx ci N : Nat) (t : List Value) : Prop :=
  ∃ (C : String) (T : u_T) (ty0 : Nat → FieldType), vwCl[ci]? = some (C, T, N) ∧ Cond.classLink own idx C ∈ Ts ∧ Cond.instantiable C N ∈ Ts ∧ Cond.initialized C ∈ Ts ∧ (∀ w ∈ u_ws C T N, w ∈ Ts) ∧ (∀ k, k < N → parseFieldDescriptor (T k).2.2.1 = some (ty0 k)) ∧ t = (List.range N).map (fun k => defaultValue (ty0 k))
theorem qTg_spec {pc t : Nat} {off : Int} (h : qTg pc off = some t) : (pc : Int) + off = (t : Int) := by
  unfold qTg at h
  split at h
  · rename_i t' e
    cases h
    exact e
  · cases h
section
variable {p : Program} {l : Launch} {e : Env} {R : Room} {s : State} {m : MethodId} {args : Array Value} {below : List Frame} {meth : Method} {c : Code} {D : va_G} {cA : Nat → ClassId} {B nL : Nat} {Q : State → Prop} {cc : ByteArray} {pc len : Nat} {lo lj : List (Option Value)} {st r : List Value} {μ : qMM} {cs : Nat × Nat} {ls : Array Slot}
theorem qs_int {n : Nat} (h1 : qLV nL lo lj ls) {v : Value} (h : lo[n]? = some (some v)) : ls[n]? = some (.val v) := (h1.2.2.2.2.1 n v h).1
theorem qs_lng {n : Nat} (h1 : qLV nL lo lj ls) {v : Value} (h : lj[n]? = some (some v)) : ls[n]? = some (.val v) := (h1.2.2.2.2.2 n v h).1
/-- the memory's cell as a world of one cell -/
theorem qW.one {H : Heap} (h : qW D cA B μ H) {a : Nat} {t : qTm} (ht : mS μ a = some t) : va_P D vwCl [(a, qEn cA t (mI μ a) (mJ μ a))] H := by
  intro k q hk
  have hz : k < 1 := (List.getElem?_eq_some_iff.mp hk).1
  rw [show k = 0 by omega] at hk
  cases hk
  exact (h.2.1 a t ht).2
theorem qs_get (hx : p.tables.exec = Jvm.exec) (hb : c.code = cc) {Ts : List Cond} {own : String} (hts : ∀ w ∈ Ts, w.before args s = true) (hown : s.vm.findClass own = some m.cls) (hK : va_K D vwCl (qTys cA) s) {idx ci j a : Nat} {ty : FieldType} {fin : Bool} (hF : qFd Ts own idx ci j ty fin) (hdg : decode cc pc = .ok (.getfield idx, 3))
    (h : qGet μ a ci j (fun v => qG p l e R s m args below meth c D cA B nL Q (pc + 3) lo lj (v :: r) μ cs)) : qG p l e R s m args below meth c D cA B nL Q pc lo lj (.ref a :: r) μ cs := by
  intro H locs ls hW hS hL
  obtain ⟨C, T, N, ty0, f1, f2, f3, f4, f5, f6, -⟩ := hF
  unfold qGet at h
  split at h
  · rename_i c' t heq
    obtain ⟨rfl, h⟩ := h
    have h1 := hW.one heq
    split at h
    · rename_i x hj
      exact va_get (v := .int (mI μ a j)) hx hb hts f4 hown hK h1 0 rfl f1 j f2 (hts _ f3) (fun _ h => h) (by simp [List.getElem?_mapIdx, hj, fv]) hdg (h H locs ls hW hS hL)
    · rename_i x hj
      exact va_get (v := .long (mJ μ a j)) hx hb hts f4 hown hK h1 0 rfl f1 j f2 (hts _ f3) (fun _ h => h) (by simp [List.getElem?_mapIdx, hj, fv]) hdg (h H locs ls hW hS hL)
    · rename_i v hn1 hn2 hj
      refine va_get (v := v) hx hb hts f4 hown hK h1 0 rfl f1 j f2 (hts _ f3) (fun _ h => h) ?_ hdg (h H locs ls hW hS hL)
      rw [List.getElem?_mapIdx, hj]
      cases v <;> first | rfl | exact absurd rfl (hn1 _) | exact absurd rfl (hn2 _)
    · exact h.elim
  · exact h.elim
theorem qs_put (hx : p.tables.exec = Jvm.exec) (hb : c.code = cc) {Ts : List Cond} {own : String} (hts : ∀ w ∈ Ts, w.before args s = true) (hown : s.vm.findClass own = some m.cls) (hK : va_K D vwCl (qTys cA) s) {idx ci j a : Nat} {ty : FieldType} {fin ini : Bool} {v : Value} (hF : qFd Ts own idx ci j ty fin) (hini : ini = true → meth.name = "<init>") (hfi : fin = true → ini = true) (hdg : decode cc pc = .ok (.putfield idx, 3))
    (h : qPut μ a ci j ty v (fun μ' => qG p l e R s m args below meth c D cA B nL Q (pc + 3) lo lj r μ' cs)) : qG p l e R s m args below meth c D cA B nL Q pc lo lj (v :: .ref a :: r) μ cs := by
  intro H locs ls hW hS0 hL
  obtain ⟨C, T, N, ty0, f1, f2, f3, f4, f5, f6, f789⟩ := hF
  unfold qPut at h
  cases heq : mS μ a with
  | none =>
    rw [heq] at h
    exact h.elim
  | some x =>
  rw [heq] at h
  rcases x with ⟨c', t⟩ | y
  case inr => exact h.elim
  obtain ⟨rfl, h⟩ := h
  rcases f789 with rfl | ⟨f7, f8, f9⟩
  · exfalso
    revert h
    split
    · exact fun h => h.1
    · exact fun h => h.1
    · exact fun h => h.1
    · exact id
  have hap := va_apart (own := own) hts f4 ty0 f5 f6 hK f1
  obtain ⟨r', h1, cell, q1, q2, q3, q4⟩ := (hW.2.1 a _ heq).2
  have hr : r' = (C, T, N) := Option.some.inj (h1.symm.trans f1)
  subst hr
  have hBa : B ≤ a := (hW.2.1 a _ heq).1
  obtain ⟨hS, hfc, kC, hkC, hkind⟩ := hK.1 c' _ f1
  obtain ⟨cf, kf, fi, f, hi, hsl⟩ := hS j f2
  have hst := (u_facts hfc hkC (u_lays hts f4 f2) hi).1
  have hlay := hts _ (f4 _ (u_in_lay f2))
  unfold u_lay at hlay
  -- the write, whatever is written
  have wr : ∀ (v : Value) (μ' : qMM) (t' : List Value), narrow ty v = v → fits ty v = true → (t.mapIdx (fv (mI μ a) (mJ μ a))).set j v = t'.mapIdx (fv (mI μ' a) (mJ μ' a)) → j < t.length → mS μ' a = some (.inl (c', t')) → (∀ b, b ≠ a → mS μ' b = mS μ b) → (∀ b, b ≠ a → mI μ' b = mI μ b) → (∀ b, b ≠ a → mJ μ' b = mJ μ b) → mN μ' = mN μ →
      qG p l e R s m args below meth c D cA B nL Q (pc + 3) lo lj r μ' cs → W p l e R s m args below meth c H locs cs.1 cs.2 Q (F0 m pc ls (v :: .ref a :: r)) := by
    intro v μ' t' hn hfit hset hlt g1 g2 g3 g4 g5 hG
    have back : ∀ H' : Heap, H'[a]? = some (cell.setSlot f.slot v) → H'.size = H.size → (∀ q, q ≠ a → H'[q]? = H[q]?) → W p l e R s m args below meth c H' (locs ++ [⟨a, f.slot⟩]) cs.1 cs.2 Q (F0 m (pc + 3) ls r) := by
      intro H' e1 e2 e3
      refine hG H' _ ls (hW.set heq g1 ?_ e3 e2 g2 g3 g4 g5) (hS0.put e2 e3 hBa) hL
      refine ⟨_, f1, t_OB.to (V := updV (vp_V (t.mapIdx (fv (mI μ a) (mJ μ a)))) j v) ⟨_, e1, q2, q3, ?_⟩ (fun k _ => ?_)⟩
      · rw [hsl]
        exact t_set q4 hap f2 v
      · rw [vp_updV_set (by simpa using hlt), hset]
    have hd : parseFieldDescriptor (T j).2.2.1 = some ty := by rw [f5 j f2, f7]
    by_cases hfin : (T j).2.2.2 = true
    · rw [if_pos hfin] at hlay
      have hcf : m.cls = cf := by
        obtain ⟨_, _, c2, _, _, _, -, -, hf', -, -, -, hown2, -⟩ := Cond.laysFinal_spec hlay
        have e1 : c2 = cf := by have := hi.symm.trans hf'; simp at this; exact this.1.symm
        rw [f9 (f8 ▸ hfin)] at hown2
        rw [← e1]; exact Option.some.inj (hown.symm.trans hown2)
      have h6 := u_fits hfc hkC hkind (Or.inr hlay) hi hd hn hfit
      exact W.putFinK hx hb hown (hts _ f3) hi hst hcf (hini (hfi (f8 ▸ hfin))) (by rw [q2]; exact h6) q1 q3 (by rw [hsl]; exact k2_hasslot (q4 j f2)) rfl rfl hdg back
    · rw [if_neg hfin] at hlay
      have h6 := u_store hfc hkC hkind hlay hi hd hn hfit
      exact W.putK hx hb (f := f) ⟨hown, hts _ f3, ⟨_, _, _, hi⟩, hst⟩ (by rw [q2]; exact h6) q1 q3 (by rw [hsl]; exact k2_hasslot (q4 j f2)) rfl rfl hdg back
  have up : ∀ (f : Nat → Int32) (b : Nat), b ≠ a → mI (wR μ a f) b = mI μ b := fun f b hb => if_neg hb
  split at h
  · rename_i x0 x hj
    obtain ⟨ho, h⟩ := h
    refine wr (.int x) (wI μ a j x) t ?_ ?_ ?_ (List.getElem?_eq_some_iff.mp hj).1 heq (fun _ _ => rfl) (up _) (fun _ _ => rfl) rfl h
    · cases ty <;> first | rfl | exact ho.elim | (rcases ho with rfl | rfl <;> rfl)
    · cases ty <;> first | rfl | exact ho.elim | (rcases ho with rfl | rfl <;> rfl)
    · rw [fv_seti hj]
      congr 2
      exact (if_pos rfl).symm
  · rename_i x0 x hj
    obtain ⟨ho, h⟩ := h
    refine wr (.long x) (wL μ a j x) t ?_ ?_ ?_ (List.getElem?_eq_some_iff.mp hj).1 heq (fun _ _ => rfl) (fun _ _ => rfl) (fun b hb => if_neg hb) rfl h
    · cases ty <;> first | rfl | exact ho.elim
    · cases ty <;> first | rfl | exact ho.elim
    · rw [fv_setl hj]
      congr 2
      exact (if_pos rfl).symm
  · rename_i b hj
    obtain ⟨ho, h⟩ := h
    refine wr (.ref b) (wT μ a (.inl (c', t.set j (.ref b)))) (t.set j (.ref b)) ?_ ?_ (fv_setr (List.getElem?_eq_some_iff.mp hj).1) (List.getElem?_eq_some_iff.mp hj).1 (if_pos rfl) (fun b hb => if_neg hb) (fun _ _ => rfl) (fun _ _ => rfl) rfl h
    · cases ty <;> first | rfl | exact ho.elim
    · cases ty <;> first | rfl | exact ho.elim
  · exact h.elim
theorem qArr_spec {a ty : Nat} {i : Int32} {k : Prop} (h : qArr μ a ty i k) : ∃ (n : Nat) (f : Nat → Option Nat), mS μ a = some (.inr (ty, n, f)) ∧ vp_in i n ∧ k := by
  unfold qArr at h
  cases hm : mS μ a with
  | none =>
    rw [hm] at h
    exact h.elim
  | some x =>
    rw [hm] at h
    rcases x with y | ⟨t, n, f⟩
    · exact h.elim
    · obtain ⟨rfl, h1, h2⟩ := h
      exact ⟨n, f, rfl, h1, h2⟩
theorem qs_iald (hx : p.tables.exec = Jvm.exec) (hb : c.code = cc) (hK : va_K D vwCl (qTys cA) s) {a : Nat} {i : Int32} (hdg : decode cc pc = .ok (.iaload, 1))
    (h : qArr μ a 0 i (qG p l e R s m args below meth c D cA B nL Q (pc + 1) lo lj (.int (mI μ a i.toNatClampNeg) :: r) μ cs)) : qG p l e R s m args below meth c D cA B nL Q pc lo lj (.int i :: .ref a :: r) μ cs := by
  intro H locs ls hW hS hL
  obtain ⟨n, f, hm, hi, h⟩ := qArr_spec h
  exact va_iald hx hb hK (hW.one hm) 0 0 rfl rfl hi hdg (h H locs ls hW hS hL)
theorem qs_lald (hx : p.tables.exec = Jvm.exec) (hb : c.code = cc) (hK : va_K D vwCl (qTys cA) s) {a : Nat} {i : Int32} (hdg : decode cc pc = .ok (.laload, 1))
    (h : qArr μ a 1 i (qG p l e R s m args below meth c D cA B nL Q (pc + 1) lo lj (.long (mJ μ a i.toNatClampNeg) :: r) μ cs)) : qG p l e R s m args below meth c D cA B nL Q pc lo lj (.int i :: .ref a :: r) μ cs := by
  intro H locs ls hW hS hL
  obtain ⟨n, f, hm, hi, h⟩ := qArr_spec h
  exact va_lald hx hb hK (hW.one hm) 0 1 rfl rfl hi hdg (h H locs ls hW hS hL)
theorem qs_iast (hx : p.tables.exec = Jvm.exec) (hb : c.code = cc) (hK : va_K D vwCl (qTys cA) s) {a : Nat} {i x : Int32} (hdg : decode cc pc = .ok (.iastore, 1))
    (h : qArr μ a 0 i (qG p l e R s m args below meth c D cA B nL Q (pc + 1) lo lj r (wI μ a i.toNatClampNeg x) cs)) : qG p l e R s m args below meth c D cA B nL Q pc lo lj (.int x :: .int i :: .ref a :: r) μ cs := by
  intro H locs ls hW hS hL
  obtain ⟨n, f, hm, hi, h⟩ := qArr_spec h
  have hc := (hW.2.1 a _ hm).2
  refine W.iast hx hb hc ((hK.2 0 _ rfl).1 n (fun j => .int (mI μ a j))) (fun q => by cases q) (by show ¬ (i < 0 ∨ (arrV _ _ _).slots.size ≤ _); rw [arrV_size]; exact hi) rfl rfl hdg fun H1 e1 z oq => ?_
  refine h H1 _ ls (hW.set (t' := .inr (0, n, f)) hm hm ?_ oq z (fun _ _ => rfl) (fun b hb => if_neg hb) (fun _ _ => rfl) rfl) (hS.put z oq (hW.2.1 a _ hm).1) hL
  show H1[a]? = some (vp_cell _ _)
  rw [e1]
  have e2 : mI (wI μ a i.toNatClampNeg x) a = upd (mI μ a) i.toNatClampNeg x := if_pos rfl
  rw [e2, vp_cell_i, vp_cell_i, arrV_store]
  congr 2
  funext q
  by_cases hq : q = i.toNatClampNeg
  · subst hq
    simp [updV, upd]
  · simp [updV, upd, hq]
theorem qs_last (hx : p.tables.exec = Jvm.exec) (hb : c.code = cc) (hK : va_K D vwCl (qTys cA) s) {a : Nat} {i : Int32} {x : Int64} (hdg : decode cc pc = .ok (.lastore, 1))
    (h : qArr μ a 1 i (qG p l e R s m args below meth c D cA B nL Q (pc + 1) lo lj r (wL μ a i.toNatClampNeg x) cs)) : qG p l e R s m args below meth c D cA B nL Q pc lo lj (.long x :: .int i :: .ref a :: r) μ cs := by
  intro H locs ls hW hS hL
  obtain ⟨n, f, hm, hi, h⟩ := qArr_spec h
  have hc := (hW.2.1 a _ hm).2
  refine W.last hx hb hc ((hK.2 1 _ rfl).1 n (fun j => .long (mJ μ a j))) (fun q => by cases q) (by show ¬ (i < 0 ∨ (arrV _ _ _).slots.size ≤ _); rw [arrV_size]; exact hi) rfl rfl hdg fun H1 e1 z oq => ?_
  refine h H1 _ ls (hW.set (t' := .inr (1, n, f)) hm hm ?_ oq z (fun _ _ => rfl) (fun _ _ => rfl) (fun b hb => if_neg hb) rfl) (hS.put z oq (hW.2.1 a _ hm).1) hL
  show H1[a]? = some (vp_cell _ _)
  rw [e1]
  have e2 : mJ (wL μ a i.toNatClampNeg x) a = vp_updL (mJ μ a) i.toNatClampNeg x := if_pos rfl
  rw [e2, vp_cell_l, vp_cell_l, arrV_store]
  congr 2
  funext q
  by_cases hq : q = i.toNatClampNeg
  · subst hq
    simp [updV, vp_updL]
  · simp [updV, vp_updL, hq]
theorem qs_aald (hx : p.tables.exec = Jvm.exec) (hb : c.code = cc) (hK : va_K D vwCl (qTys cA) s) {a t n b : Nat} {f : Nat → Option Nat} {i : Int32} (hdg : decode cc pc = .ok (.aaload, 1)) (hm : mS μ a = some (.inr (t, n, f))) (ht : t = 2 ∨ t = 3) (hi : vp_in i n) (hf : f i.toNatClampNeg = some b)
    (h : qG p l e R s m args below meth c D cA B nL Q (pc + 1) lo lj (.ref b :: r) μ cs) : qG p l e R s m args below meth c D cA B nL Q pc lo lj (.int i :: .ref a :: r) μ cs := by
  intro H locs ls hW hS hL
  have hc := (hW.2.1 a _ hm).2
  have hlt : i.toNatClampNeg < n := Nat.not_le.mp fun q => hi (Or.inr q)
  rcases ht with rfl | rfl
  · exact W.aald (v := .ref b) (ty := .array .int) hx hb hc ((hK.2 2 _ rfl).1 n (fun j => va_rf (f j))) rfl (fun q => by cases q) (by show ¬ (i < 0 ∨ (arrV _ _ _).slots.size ≤ _); rw [arrV_size]; exact hi) (by show (arrV _ _ _).slots[_]? = _; rw [arrV_read _ _ hlt, hf]; rfl) rfl rfl hdg (h H locs ls hW hS hL)
  · exact W.aald (v := .ref b) (ty := .object "HeaderSqueezer$State") hx hb hc ((hK.2 3 _ rfl).1 n (fun j => va_rf (f j))) rfl (fun q => by cases q) (by show ¬ (i < 0 ∨ (arrV _ _ _).slots.size ≤ _); rw [arrV_size]; exact hi) (by show (arrV _ _ _).slots[_]? = _; rw [arrV_read _ _ hlt, hf]; rfl) rfl rfl hdg (h H locs ls hW hS hL)
theorem qs_aast (hx : p.tables.exec = Jvm.exec) (hb : c.code = cc) (hK : va_K D vwCl (qTys cA) s) {a n b : Nat} {f : Nat → Option Nat} {ts : List Value} {i : Int32} (hdg : decode cc pc = .ok (.aastore, 1)) (hm : mS μ a = some (.inr (3, n, f))) (hv : mS μ b = some (.inl (5, ts))) (hi : vp_in i n)
    (h : qG p l e R s m args below meth c D cA B nL Q (pc + 1) lo lj r (wT μ a (.inr (3, n, va_up f i.toNatClampNeg (some b)))) cs) : qG p l e R s m args below meth c D cA B nL Q pc lo lj (.ref b :: .int i :: .ref a :: r) μ cs := by
  intro H locs ls hW hS hL
  have hc := (hW.2.1 a _ hm).2
  have hlt : i.toNatClampNeg < n := Nat.not_le.mp fun q => hi (Or.inr q)
  have h0 : ¬ i < 0 := fun q => hi (Or.inl q)
  obtain ⟨r', hr', cellV, g1, g2, g3, -⟩ := (hW.2.1 b _ hv).2
  have hcls := (hK.1 5 _ rfl).2
  obtain ⟨kA, comp, k1, k2, k3, -⟩ := (hK.2 3 _ rfl).2
  have hcomp : comp = D.1 5 := Option.some.inj (k3.symm.trans hcls.1)
  subst hcomp
  obtain ⟨kC, hkC, -⟩ := hcls.2
  refine W.aast hx hb hc (fun q h => by cases h) (fun h => by cases h) k1 k2 rfl hkC ⟨h0, by show _ < (arrV _ _ _).slots.size; rw [arrV_size]; exact hlt⟩ g1 (fun q h => by rw [g3] at h; cases h) (by rw [g2]; exact hkC) (by rw [g2]; exact va_assign hcls) rfl rfl hdg fun H1 e1 z oq => ?_
  refine h H1 _ ls (hW.set (t' := .inr (3, n, va_up f i.toNatClampNeg (some b))) hm (if_pos rfl) ?_ oq z (fun b hb => if_neg hb) (fun _ _ => rfl) (fun _ _ => rfl) rfl) (hS.put z oq (hW.2.1 a _ hm).1) hL
  show H1[a]? = some (vp_cell _ _)
  rw [e1]
  show some ((vp_cell _ (n, .inr (.inr (.inr (.inr f))))).setSlot _ _) = _
  rw [vp_cell_q, vp_cell_q, arrV_store]
  congr 2
  funext q
  by_cases hq : q = i.toNatClampNeg
  · subst hq
    simp [updV, va_up, va_rf]
  · simp [updV, va_up, hq]
theorem qs_alen (hx : p.tables.exec = Jvm.exec) (hb : c.code = cc) (hK : va_K D vwCl (qTys cA) s) {a t n : Nat} {f : Nat → Option Nat} (hdg : decode cc pc = .ok (.arraylength, 1)) (hm : mS μ a = some (.inr (t, n, f))) (ht : t = 0 ∨ t = 1)
    (h : qG p l e R s m args below meth c D cA B nL Q (pc + 1) lo lj (.int (Int32.ofNat n) :: r) μ cs) : qG p l e R s m args below meth c D cA B nL Q pc lo lj (.ref a :: r) μ cs := by
  intro H locs ls hW hS hL
  rcases ht with rfl | rfl
  · exact va_alen hx hb hK (hW.one hm) 0 0 rfl rfl rfl hdg (h H locs ls hW hS hL)
  · exact va_alen hx hb hK (hW.one hm) 0 1 rfl rfl rfl hdg (h H locs ls hW hS hL)
theorem qs_new (hx : p.tables.exec = Jvm.exec) (hb : c.code = cc) {Ts : List Cond} {own : String} (hts : ∀ w ∈ Ts, w.before args s = true) (hown : s.vm.findClass own = some m.cls) (hK : va_K D vwCl (qTys cA) s) {idx ci N n : Nat} {t : List Value} (hF : qNw Ts own idx ci N t) (hN : mN μ = some n) (h1 : cs.1 + 1 ≤ R.cells) (h2 : cs.2 + N ≤ R.slots) (hdg : decode cc pc = .ok (.new idx, 3))
    (h : qG p l e R s m args below meth c D cA B nL Q (pc + 3) lo lj (.ref n :: r) (mk1 μ n (.inl (ci, t))) (cs.1 + 1, cs.2 + N)) : qG p l e R s m args below meth c D cA B nL Q pc lo lj r μ cs := by
  intro H locs ls hW hS hL
  obtain ⟨C, T, ty0, f1, f2, f3, f4, f5, f6, rfl⟩ := hF
  have hKn := hK.1 ci _ f1
  have hz := hW.2.2.2 n hN
  refine W.newcK hx hb hown (hts _ f2) (hts _ f3) (hts _ f4) rfl hdg h1 h2 hKn.2.1 rfl fun H1 kC hkC e1 z1 o1 => ?_
  rw [hz] at e1 z1 o1 ⊢
  refine h H1 locs ls (qW_mk1 hW hN ⟨_, f1, (u_born ty0 hts f5 hKn hkC e1 f6).to fun j hj => ?_⟩ z1 o1) ⟨?_, fun q g1 g2 => ?_, hS.2.2⟩ hL
  · simp [vp_V, List.getD, List.getElem?_mapIdx, hj]
    cases ty0 j <;> rfl
  · have := hS.1
    omega
  · have := hS.1
    rw [o1 q (by omega)]
    exact hS.2.1 q g1 g2
theorem qs_newa (hx : p.tables.exec = Jvm.exec) (hb : c.code = cc) (hK : va_K D vwCl (qTys cA) s) {at0 : ArrayType} {tg n : Nat} {x : Int32} (hat : (at0 = .int ∧ tg = 0) ∨ (at0 = .long ∧ tg = 1)) (harr : (Cond.arrayClass (newarray.typeOf at0)).before args s = true) (hN : mN μ = some n) (hx0 : ¬ x < 0) (hx1 : x.toNatClampNeg ≤ 65536) (h1 : cs.1 + 1 ≤ R.cells) (h2 : cs.2 + x.toNatClampNeg ≤ R.slots) (hdg : decode cc pc = .ok (.newarray at0, 2))
    (h : qG p l e R s m args below meth c D cA B nL Q (pc + 2) lo lj (.ref n :: r) (mk1 μ n (.inr (tg, x.toNatClampNeg, fun _ => none))) (cs.1 + 1, cs.2 + x.toNatClampNeg)) : qG p l e R s m args below meth c D cA B nL Q pc lo lj (.int x :: r) μ cs := by
  intro H locs ls hW hS hL
  have hz := hW.2.2.2 n hN
  refine va_newaK hx hb harr rfl hdg rfl hx0 rfl ?_ h1 h2 hz fun H1 cA' e1 z1 o1 hAr hNm => ?_
  · rcases hat with ⟨rfl, -⟩ | ⟨rfl, -⟩
    · show x.toNatClampNeg * 4 ≤ _
      omega
    · show x.toNatClampNeg * 8 ≤ _
      omega
  refine h H1 locs ls (qW_mk1 hW hN ?_ z1 o1) ⟨?_, fun q g1 g2 => ?_, hS.2.2⟩ hL
  · rcases hat with ⟨rfl, rfl⟩ | ⟨rfl, rfl⟩
    · have hc : cA' = cA 0 := Option.some.inj (hNm.symm.trans (hK.2 0 _ rfl).2)
      subst hc
      exact e1
    · have hc : cA' = cA 1 := Option.some.inj (hNm.symm.trans (hK.2 1 _ rfl).2)
      subst hc
      exact e1
  · have := hS.1
    omega
  · have := hS.1
    rw [o1 q (by omega)]
    exact hS.2.1 q g1 g2
theorem qs_anew (hx : p.tables.exec = Jvm.exec) (hb : c.code = cc) {own : String} (hown : s.vm.findClass own = some m.cls) (hK : va_K D vwCl (qTys cA) s) {idx n : Nat} {x : Int32} (hcl : (Cond.classLink own idx "HeaderSqueezer$State").before args s = true) (hover : (Cond.arrayOver (.object "HeaderSqueezer$State")).before args s = true) (hN : mN μ = some n) (hx0 : ¬ x < 0) (hx1 : x.toNatClampNeg ≤ 65536) (h1 : cs.1 + 1 ≤ R.cells) (h2 : cs.2 + x.toNatClampNeg ≤ R.slots) (hdg : decode cc pc = .ok (.anewarray idx, 3))
    (h : qG p l e R s m args below meth c D cA B nL Q (pc + 3) lo lj (.ref n :: r) (mk1 μ n (.inr (3, x.toNatClampNeg, fun _ => none))) (cs.1 + 1, cs.2 + x.toNatClampNeg)) : qG p l e R s m args below meth c D cA B nL Q pc lo lj (.int x :: r) μ cs := by
  intro H locs ls hW hS hL
  have hz := hW.2.2.2 n hN
  refine W.anew hx hb hown hcl hover rfl hdg rfl hx0 (by omega) h1 h2 fun cA' kA comp g1 g2 g3 g4 => ?_
  obtain ⟨kA2, comp2, k1, k2, k3, k4⟩ := (hK.2 3 _ rfl).2
  have hc : cA' = cA 3 := Option.some.inj (g1.symm.trans k4)
  subst hc
  rw [hz]
  refine h _ locs ls (qW_mk1 hW hN ?_ (by simp [hz]) (fun q hq => by rw [Array.getElem?_push, if_neg (by omega)])) ⟨?_, fun q g1 g2 => ?_, hS.2.2⟩ hL
  · show (H.push _)[n]? = some (vp_cell _ _)
    rw [vp_cell_q, arrV_new, ← hz]
    simp
    rfl
  · have := hS.1
    simp
    omega
  · have := hS.1
    rw [Array.getElem?_push, if_neg (by omega)]
    exact hS.2.1 q g1 g2
theorem qs_mna (hx : p.tables.exec = Jvm.exec) (hb : c.code = cc) {own : String} (hown : s.vm.findClass own = some m.cls) (hK : va_K D vwCl (qTys cA) s) {idx n : Nat} {x y : Int32} (hcl : (Cond.classLink own idx ("[" ++ (FieldType.array .int).toString)).before args s = true) (hover : (Cond.arrayOver (.array .int)).before args s = true) (harr : (Cond.arrayClass .int).before args s = true) (hN : mN μ = some n) (hx0 : ¬ x < 0) (hy0 : ¬ y < 0) (hx1 : x.toNatClampNeg ≤ 65536) (hy1 : y.toNatClampNeg ≤ 65536) (h1 : cs.1 + (1 + x.toNatClampNeg) ≤ R.cells) (h2 : cs.2 + (x.toNatClampNeg + x.toNatClampNeg * y.toNatClampNeg) ≤ R.slots) (hdg : decode cc pc = .ok (.multianewarray idx 2, 4))
    (h : qG p l e R s m args below meth c D cA B nL Q (pc + 4) lo lj (.ref n :: r) (mkM μ n x.toNatClampNeg y.toNatClampNeg) (cs.1 + (1 + x.toNatClampNeg), cs.2 + (x.toNatClampNeg + x.toNatClampNeg * y.toNatClampNeg))) : qG p l e R s m args below meth c D cA B nL Q pc lo lj (.int y :: .int x :: r) μ cs := by
  intro H locs ls hW hS hL
  have hz := hW.2.2.2 n hN
  intro T hT Xs
  obtain ⟨vm₁, cA', comp, -, fA, fC, -, -, X', step⟩ := Xs.multianewarray2F hx hown hcl hover harr (g := F0 m pc ls (.int y :: .int x :: r)) rfl (by rw [hb]; exact hdg) rfl hx0 hy0 (by omega) (by show y.toNatClampNeg * 4 ≤ _; omega) (by omega) rfl rfl h1 h2
  have eA : cA' = cA 2 := Option.some.inj (fA.symm.trans (hK.2 2 _ rfl).2)
  have eC : comp = cA 0 := Option.some.inj (fC.symm.trans (hK.2 0 _ rfl).2)
  subst eA; subst eC
  generalize hF : Jvm.Free.Multi.fill (T.setVm vm₁) (cA 2) (cA 0) x.toNatClampNeg y.toNatClampNeg (defaultValue .int) x.toNatClampNeg = F at X' step
  have hTh : (T.setVm vm₁).heap = H := hT
  obtain ⟨f1, f2, -, -⟩ := Jvm.Free.Multi.fill_facts (T.setVm vm₁) (cA 2) (cA 0) x.toNatClampNeg y.toNatClampNeg (defaultValue .int) x.toNatClampNeg
  rw [hF, hTh, hz] at f1 f2
  have hold : ∀ q : Nat, q < n → F.heap[q]? = H[q]? := fun q hq => by
    have := Jvm.Free.Multi.fill_old (T.setVm vm₁) (cA 2) (cA 0) x.toNatClampNeg y.toNatClampNeg (defaultValue .int) (a := q) (by rw [hTh, hz]; exact hq) x.toNatClampNeg
    rw [hF, hTh] at this
    exact this
  have hrow : ∀ j : Nat, j < x.toNatClampNeg → F.heap[n + 1 + j]? = some (vp_cell (cA 0) (y.toNatClampNeg, .inl (fun _ => 0))) := fun j hj => by
    have := Jvm.Free.Multi.fill_inner (T.setVm vm₁) (cA 2) (cA 0) x.toNatClampNeg y.toNatClampNeg (defaultValue .int) x.toNatClampNeg j hj
    rw [hF, hTh, hz] at this
    rw [this, vp_cell_i, ← arrV_new]
    rfl
  rw [vr_outer] at f2
  have hlt := fun {a : Nat} {t : qTm} (ht : mS μ a = some t) => hz ▸ hW.lt ht
  have hnew : ∀ b, n ≤ b → mS μ b = none := fun b hb => by
    cases hm : mS μ b with
    | none => rfl
    | some t =>
      have := hlt hm
      omega
  generalize x.toNatClampNeg = N at *
  generalize y.toNatClampNeg = K at *
  have e1 : cs.1 + (1 + N) = cs.1 + 1 + N := by omega
  have e2 : cs.2 + (N + N * K) = cs.2 + N + N * K := by omega
  rw [e1, e2] at h
  have hTz : T.heap.size = n := by rw [hT]; exact hz
  rw [hTz] at step
  have oS : ∀ b, ¬ (n ≤ b ∧ b < n + 1 + N) → mS (mkM μ n N K) b = mS μ b := fun b hb => by
    show (if b = n then _ else if n < b ∧ b < n + 1 + N then _ else mS μ b) = _
    rw [if_neg (by omega), if_neg (by omega)]
  have oI : ∀ b, ¬ (n ≤ b ∧ b < n + 1 + N) → mI (mkM μ n N K) b = mI μ b := fun b hb => if_neg hb
  have oJ : ∀ b, ¬ (n ≤ b ∧ b < n + 1 + N) → mJ (mkM μ n N K) b = mJ μ b := fun b hb => if_neg hb
  have nI0 : ∀ b, (n ≤ b ∧ b < n + 1 + N) → mI (mkM μ n N K) b = fun _ => 0 := fun b hb => if_pos hb
  have nJ0 : ∀ b, (n ≤ b ∧ b < n + 1 + N) → mJ (mkM μ n N K) b = fun _ => 0 := fun b hb => if_pos hb
  have nS : mS (mkM μ n N K) n = some (.inr (2, N, fun i => if i < N then some (n + 1 + i) else none)) := if_pos rfl
  have nR : ∀ b, n < b → b < n + 1 + N → mS (mkM μ n N K) b = some (.inr (0, K, fun _ => none)) := fun b h1 h2 => by
    show (if b = n then _ else if n < b ∧ b < n + 1 + N then _ else mS μ b) = _
    rw [if_neg (by omega), if_pos ⟨h1, h2⟩]
  have hW' : qW D cA B (mkM μ n N K) F.heap := by
    obtain ⟨⟨L, hd, hL9⟩, hP, hB, -⟩ := hW
    refine ⟨⟨List.range' n (1 + N) ++ L, List.nodup_append.mpr ⟨List.nodup_range', hd, fun a ha b hb hab => ?_⟩, fun b => ?_⟩, fun b tb hb => ?_, by omega, fun k hk => ?_⟩
    · have := (List.mem_range'_1.mp ha).1
      subst hab
      exact (hL9 _).mp hb (hnew _ this)
    · rw [List.mem_append, List.mem_range'_1, hL9]
      by_cases hb : n ≤ b ∧ b < n + 1 + N
      · refine ⟨fun _ => ?_, fun _ => Or.inl ⟨hb.1, by omega⟩⟩
        by_cases e : b = n
        · subst e
          rw [nS]
          exact fun q => by cases q
        · rw [nR b (by omega) hb.2]
          exact fun q => by cases q
      · rw [oS b hb]
        refine ⟨fun q => ?_, fun q => Or.inr q⟩
        rcases q with q | q
        · exact absurd ⟨q.1, by omega⟩ hb
        · exact q
    · by_cases hr : n ≤ b ∧ b < n + 1 + N
      · rw [nI0 b hr, nJ0 b hr]
        refine ⟨by omega, ?_⟩
        by_cases e : b = n
        · subst e
          rw [nS] at hb
          cases hb
          exact f2
        · rw [nR b (by omega) hr.2] at hb
          cases hb
          have := hrow (b - n - 1) (by omega)
          rw [show n + 1 + (b - n - 1) = b by omega] at this
          exact this
      · rw [oS b hr] at hb
        rw [oI b hr, oJ b hr]
        have := hlt hb
        exact ⟨(hP b tb hb).1, (hP b tb hb).2.kept (hold b this)⟩
    · have : some (n + 1 + N) = some k := hk
      cases this
      exact f1
  have hS' : va_S (fun q => B ≤ q) s.heap F.heap locs := by
    have := hS.1
    refine ⟨by omega, fun q g1 g2 => ?_, hS.2.2⟩
    rw [hold q (by omega)]
    exact hS.2.1 q g1 g2
  obtain ⟨t, a1, b1⟩ := h F.heap locs ls hW' hS' hL F rfl X'
  exact ⟨t, step _ a1, b1⟩
end
