/-! ===== one step, sound ===== -/
theorem qGo_spec {t : Option Nat} {k : Nat → Prop} (h : qGo t k) : ∃ n, t = some n ∧ k n := by
  cases t with
  | none => exact h.elim
  | some n => exact ⟨n, rfl, h⟩
/-- the frame has come to a return of v -/
def qRet (cc : ByteArray) (rt : Option FieldType) (pc : Nat) (st : List Value) (v : Option Value) : Prop :=
  (∃ (x : Int32) (ty : FieldType), v = some (.int x) ∧ st = [.int x] ∧ rt = some ty ∧ qOk ty x ∧ decode cc pc = .ok (.ireturn, 1)) ∨ (∃ x : Int64, v = some (.long x) ∧ st = [.long x] ∧ rt = some .long ∧ decode cc pc = .ok (.lreturn, 1)) ∨ (∃ x : UInt64, v = some (.double x) ∧ st = [.double x] ∧ rt = some .double ∧ decode cc pc = .ok (.dreturn, 1)) ∨ (∃ (x : Nat) (ty : FieldType), v = some (.ref x) ∧ st = [.ref x] ∧ rt = some ty ∧ qOkR ty ∧ decode cc pc = .ok (.areturn, 1)) ∨ (v = none ∧ st = [] ∧ rt = none ∧ decode cc pc = .ok (.return_, 1))
def qIns (kd idx : Nat) : Instr := match kd with
  | 0 => .invokevirtual idx
  | 1 => .invokestatic idx
  | _ => .invokespecial idx
theorem qSwT_spec {pc t : Nat} {d lo hi : Int} {offs : Array Int} {x : Int32} (h : qSwT pc d lo hi offs x = some t) : ((x.toInt < lo ∨ hi < x.toInt) ∧ (pc : Int) + d = t) ∨ (¬ x.toInt < lo ∧ ¬ hi < x.toInt ∧ ∃ o, offs[(x.toInt - lo).toNat]? = some o ∧ (pc : Int) + o = t) := by
  unfold qSwT at h
  by_cases hc : x.toInt < lo ∨ hi < x.toInt
  · rw [if_pos hc] at h
    exact Or.inl ⟨hc, qTg_spec h⟩
  · rw [if_neg hc] at h
    refine Or.inr ⟨fun q => hc (Or.inl q), fun q => hc (Or.inr q), ?_⟩
    split at h
    · rename_i o ho
      exact ⟨o, ho, qTg_spec h⟩
    · cases h
section
variable {p : Program} {l : Launch} {e : Env} {R : Room} {s : State} {m : MethodId} {args : Array Value} {below : List Frame} {meth : Method} {c : Code} {D : va_G} {cA : Nat → ClassId} {B nL : Nat} {Q : State → Prop} {cc : ByteArray}
variable {fld : Nat → Option (Nat × Nat × FieldType × Bool)} {cal : Nat → Option (Nat × qCS)} {cst : Nat → Option Int32} {csl : Nat → Option Int64} {nwo : Nat → Option (Nat × Nat × List Value)} {thr : Nat → Option String} {sc : Nat → Option (Nat × (Nat → Int32))} {ini : Bool} {rt : Option FieldType} {RR : Option Value → qMM → Nat × Nat → Prop} {XX : String → qMM → Nat × Nat → Prop}
set_option maxHeartbeats 4000000 in
theorem qG_step (hx : p.tables.exec = Jvm.exec) (hb : c.code = cc) {Ts : List Cond} {own : String} (hts : ∀ w ∈ Ts, w.before args s = true) (hown : s.vm.findClass own = some m.cls) (hK : va_K D vwCl (qTys cA) s) (hini : ini = true → meth.name = "<init>")
    (hfld : ∀ idx ci j ty fin, fld idx = some (ci, j, ty, fin) → qFd Ts own idx ci j ty fin) (hcst : ∀ n v, cst n = some v → (Cond.constant own n v).before args s = true) (hcsl : ∀ n v, csl n = some v → (Cond.constantLong own n v).before args s = true)
    (hnwo : ∀ idx ci N t, nwo idx = some (ci, N, t) → (ci = 99 ∧ (Cond.classLink own idx ("[" ++ (FieldType.array .int).toString)).before args s = true) ∨ qNw Ts own idx ci N t)
    (hov1 : (Cond.arrayOver (.object "HeaderSqueezer$State")).before args s = true) (hov2 : (Cond.arrayOver (.array .int)).before args s = true) (har1 : (Cond.arrayClass .int).before args s = true) (har2 : (Cond.arrayClass .long).before args s = true)
    (hcal : ∀ idx kd q, cal idx = some (kd, q) → ∀ pc lo lj st μ cs, decode cc pc = .ok (qIns kd idx, 3) → qCal q st μ cs R.cells R.slots (fun st' μ' cs' => qG p l e R s m args below meth c D cA B nL Q (pc + 3) lo lj st' μ' cs') → qG p l e R s m args below meth c D cA B nL Q pc lo lj st μ cs)
    (hthr : ∀ pc idx E lo lj μ cs, thr pc = some E → decode cc pc = .ok (.new idx, 3) → XX E μ cs → qG p l e R s m args below meth c D cA B nL Q pc lo lj [] μ cs)
    (hsc : ∀ a n xs, sc a = some (n, xs) → a < s.heap.size ∧ ¬ B ≤ a ∧ va_X a n xs s s.heap)
    (hret : ∀ pc lo lj st μ cs v, qRet cc rt pc st v → RR v μ cs → qG p l e R s m args below meth c D cA B nL Q pc lo lj st μ cs)
    {i : Instr} {len pc : Nat} {lo lj : List (Option Value)} {st : List Value} {μ : qMM} {cs : Nat × Nat} (hd : decode cc pc = .ok (i, len)) (hl : qLn i len = true) (h : stepI fld cal cst csl nwo thr sc ini rt R.cells R.slots RR XX i pc lo lj st μ cs (qG p l e R s m args below meth c D cA B nL Q)) : qG p l e R s m args below meth c D cA B nL Q pc lo lj st μ cs := by
  cases i
  all_goals (try exact False.elim h)
  case aload_n n =>
    obtain rfl : len = 1 := by simpa [qLn] using hl
    dsimp only [stepI] at h
    split at h
    · rename_i a heq
      intro H locs ls hW hS hL
      exact lv_aload_n hx hb hd rfl (qs_int hL heq) (h H locs ls hW hS hL)
    · exact h.elim
  case aload n =>
    obtain rfl : len = 2 := by simpa [qLn] using hl
    dsimp only [stepI] at h
    split at h
    · rename_i a heq
      intro H locs ls hW hS hL
      exact lv_aload hx hb hd (qs_int hL heq) (h H locs ls hW hS hL)
    · exact h.elim
  case iload_n n =>
    obtain rfl : len = 1 := by simpa [qLn] using hl
    dsimp only [stepI] at h
    split at h
    · rename_i a heq
      intro H locs ls hW hS hL
      exact lv_iload_n hx hb hd rfl (qs_int hL heq) (h H locs ls hW hS hL)
    · exact h.elim
  case iload n =>
    obtain rfl : len = 2 := by simpa [qLn] using hl
    dsimp only [stepI] at h
    split at h
    · rename_i a heq
      intro H locs ls hW hS hL
      exact lv_iload hx hb hd (qs_int hL heq) (h H locs ls hW hS hL)
    · exact h.elim
  case lload_n n =>
    obtain rfl : len = 1 := by simpa [qLn] using hl
    dsimp only [stepI] at h
    split at h
    · rename_i a heq
      intro H locs ls hW hS hL
      exact lv_lload_n hx hb hd rfl (qs_lng hL heq) (h H locs ls hW hS hL)
    · exact h.elim
  case lload n =>
    obtain rfl : len = 2 := by simpa [qLn] using hl
    dsimp only [stepI] at h
    split at h
    · rename_i a heq
      intro H locs ls hW hS hL
      exact lv_lload hx hb hd (qs_lng hL heq) (h H locs ls hW hS hL)
    · exact h.elim
  case dload n =>
    obtain rfl : len = 2 := by simpa [qLn] using hl
    dsimp only [stepI] at h
    split at h
    · rename_i a heq
      intro H locs ls hW hS hL
      exact lv_dload hx hb hd (qs_lng hL heq) (h H locs ls hW hS hL)
    · exact h.elim
  case iconst n =>
    obtain rfl : len = 1 := by simpa [qLn] using hl
    intro H locs ls hW hS hL
    exact lv_iconst hx hb hd rfl (h H locs ls hW hS hL)
  case bipush n =>
    obtain rfl : len = 2 := by simpa [qLn] using hl
    intro H locs ls hW hS hL
    exact lv_bipush hx hb hd rfl (h H locs ls hW hS hL)
  case sipush n =>
    obtain rfl : len = 3 := by simpa [qLn] using hl
    intro H locs ls hW hS hL
    exact lv_sipush hx hb hd rfl (h H locs ls hW hS hL)
  case lconst n =>
    obtain rfl : len = 1 := by simpa [qLn] using hl
    intro H locs ls hW hS hL
    exact lv_lconst hx hb hd rfl (h H locs ls hW hS hL)
  case dconst n =>
    obtain rfl : len = 1 := by simpa [qLn] using hl
    dsimp only [stepI] at h
    split at h
    · intro H locs ls hW hS hL
      exact lv_dconst0 hx hb hd (h H locs ls hW hS hL)
    · exact h.elim
  case ldc n =>
    obtain rfl : len = 2 := by simpa [qLn] using hl
    dsimp only [stepI] at h
    split at h
    · rename_i v heq
      intro H locs ls hW hS hL
      exact lv_ldc hx hb hown (hcst _ _ heq) hd (h H locs ls hW hS hL)
    · exact h.elim
  case ldc_w n =>
    obtain rfl : len = 3 := by simpa [qLn] using hl
    dsimp only [stepI] at h
    split at h
    · rename_i v heq
      intro H locs ls hW hS hL
      exact lv_ldcw hx hb hown (hcst _ _ heq) hd (h H locs ls hW hS hL)
    · exact h.elim
  case ldc2_w n =>
    obtain rfl : len = 3 := by simpa [qLn] using hl
    dsimp only [stepI] at h
    split at h
    · rename_i v heq
      intro H locs ls hW hS hL
      exact lv_ldc2 hx hb hown (hcsl _ _ heq) hd (h H locs ls hW hS hL)
    · exact h.elim
  case istore_n n =>
    obtain rfl : len = 1 := by simpa [qLn] using hl
    dsimp only [stepI] at h
    split at h
    · rename_i w x r heq
      intro H locs ls hW hS hL
      exact lv_istore_n hx hb hd rfl hL.has (by have := (List.getElem?_eq_some_iff.mp heq).1; rw [hL.2.2.1] at this; exact this) rfl (fun ls' hl' => h H locs ls' hW hS (hL.st1 rfl hl'))
    · exact h.elim
  case istore n =>
    obtain rfl : len = 2 := by simpa [qLn] using hl
    dsimp only [stepI] at h
    split at h
    · rename_i w x r heq
      intro H locs ls hW hS hL
      exact lv_istore hx hb hd hL.has (by have := (List.getElem?_eq_some_iff.mp heq).1; rw [hL.2.2.1] at this; exact this) rfl (fun ls' hl' => h H locs ls' hW hS (hL.st1 rfl hl'))
    · exact h.elim
  case astore_n n =>
    obtain rfl : len = 1 := by simpa [qLn] using hl
    dsimp only [stepI] at h
    split at h
    · rename_i w x r heq
      intro H locs ls hW hS hL
      exact lv_astore_n hx hb hd rfl hL.has (by have := (List.getElem?_eq_some_iff.mp heq).1; rw [hL.2.2.1] at this; exact this) rfl (fun ls' hl' => h H locs ls' hW hS (hL.st1 rfl hl'))
    · exact h.elim
  case astore n =>
    obtain rfl : len = 2 := by simpa [qLn] using hl
    dsimp only [stepI] at h
    split at h
    · rename_i w x r heq
      intro H locs ls hW hS hL
      exact lv_astore hx hb hd hL.has (by have := (List.getElem?_eq_some_iff.mp heq).1; rw [hL.2.2.1] at this; exact this) rfl (fun ls' hl' => h H locs ls' hW hS (hL.st1 rfl hl'))
    · exact h.elim
  case lstore_n n =>
    obtain rfl : len = 1 := by simpa [qLn] using hl
    dsimp only [stepI] at h
    split at h
    · rename_i w w2 x r heq heq2
      intro H locs ls hW hS hL
      exact lv_lstore_n hx hb hd rfl hL.has (by have := (List.getElem?_eq_some_iff.mp heq).1; rw [hL.2.2.1] at this; exact this) rfl (fun ls' hl' => h H locs ls' hW hS (hL.st2 rfl hl'))
    · exact h.elim
  case lstore n =>
    obtain rfl : len = 2 := by simpa [qLn] using hl
    dsimp only [stepI] at h
    split at h
    · rename_i w w2 x r heq heq2
      intro H locs ls hW hS hL
      exact lv_lstore hx hb hd hL.has (by have := (List.getElem?_eq_some_iff.mp heq).1; rw [hL.2.2.1] at this; exact this) rfl (fun ls' hl' => h H locs ls' hW hS (hL.st2 rfl hl'))
    · exact h.elim
  case dstore n =>
    obtain rfl : len = 2 := by simpa [qLn] using hl
    dsimp only [stepI] at h
    split at h
    · rename_i w w2 x r heq heq2
      intro H locs ls hW hS hL
      exact lv_dstore hx hb hd hL.has (by have := (List.getElem?_eq_some_iff.mp heq).1; rw [hL.2.2.1] at this; exact this) rfl (fun ls' hl' => h H locs ls' hW hS (hL.st2 rfl hl'))
    · exact h.elim
  case iinc n d =>
    obtain rfl : len = 3 := by simpa [qLn] using hl
    dsimp only [stepI] at h
    split at h
    · rename_i x heq
      intro H locs ls hW hS hL
      obtain ⟨k, hk⟩ := List.getElem?_of_mem (show (n, Value.int x) ∈ qls lo ++ qls lj from List.mem_append_left _ (qls_mem.mpr heq))
      exact lv_iinc hx hb hd hL.has hk rfl (by have := (List.getElem?_eq_some_iff.mp heq).1; rw [hL.2.2.1] at this; exact this) rfl (fun ls' hl' => h H locs ls' hW hS (hL.st1 rfl hl'))
    · exact h.elim
  case iadd =>
    obtain rfl : len = 1 := by simpa [qLn] using hl
    dsimp only [stepI] at h
    split at h
    · intro H locs ls hW hS hL
      exact lv_iadd hx hb hd (h H locs ls hW hS hL)
    · exact h.elim
  case isub =>
    obtain rfl : len = 1 := by simpa [qLn] using hl
    dsimp only [stepI] at h
    split at h
    · intro H locs ls hW hS hL
      exact lv_isub hx hb hd (h H locs ls hW hS hL)
    · exact h.elim
  case imul =>
    obtain rfl : len = 1 := by simpa [qLn] using hl
    dsimp only [stepI] at h
    split at h
    · intro H locs ls hW hS hL
      exact lv_imul hx hb hd (h H locs ls hW hS hL)
    · exact h.elim
  case iand =>
    obtain rfl : len = 1 := by simpa [qLn] using hl
    dsimp only [stepI] at h
    split at h
    · intro H locs ls hW hS hL
      exact lv_iand hx hb hd (h H locs ls hW hS hL)
    · exact h.elim
  case ixor =>
    obtain rfl : len = 1 := by simpa [qLn] using hl
    dsimp only [stepI] at h
    split at h
    · intro H locs ls hW hS hL
      exact lv_ixor hx hb hd (h H locs ls hW hS hL)
    · exact h.elim
  case ladd =>
    obtain rfl : len = 1 := by simpa [qLn] using hl
    dsimp only [stepI] at h
    split at h
    · intro H locs ls hW hS hL
      exact lv_ladd hx hb hd (h H locs ls hW hS hL)
    · exact h.elim
  case lmul =>
    obtain rfl : len = 1 := by simpa [qLn] using hl
    dsimp only [stepI] at h
    split at h
    · intro H locs ls hW hS hL
      exact lv_lmul hx hb hd (h H locs ls hW hS hL)
    · exact h.elim
  case irem =>
    obtain rfl : len = 1 := by simpa [qLn] using hl
    dsimp only [stepI] at h
    split at h
    · intro H locs ls hW hS hL
      exact lv_irem hx hb hd h.1 (h.2 H locs ls hW hS hL)
    · exact h.elim
  case idiv =>
    obtain rfl : len = 1 := by simpa [qLn] using hl
    dsimp only [stepI] at h
    split at h
    · intro H locs ls hW hS hL
      exact lv_idiv hx hb hd h.1 (h.2 H locs ls hW hS hL)
    · exact h.elim
  case ishr =>
    obtain rfl : len = 1 := by simpa [qLn] using hl
    dsimp only [stepI] at h
    split at h
    · intro H locs ls hW hS hL
      exact lv_ishr hx hb hd (h H locs ls hW hS hL)
    · exact h.elim
  case land =>
    obtain rfl : len = 1 := by simpa [qLn] using hl
    dsimp only [stepI] at h
    split at h
    · intro H locs ls hW hS hL
      exact lv_land hx hb hd (h H locs ls hW hS hL)
    · exact h.elim
  case lshr =>
    obtain rfl : len = 1 := by simpa [qLn] using hl
    dsimp only [stepI] at h
    split at h
    · intro H locs ls hW hS hL
      exact lv_lshr hx hb hd rfl (h H locs ls hW hS hL)
    · exact h.elim
  case l2i =>
    obtain rfl : len = 1 := by simpa [qLn] using hl
    dsimp only [stepI] at h
    split at h
    · intro H locs ls hW hS hL
      exact lv_l2i hx hb hd rfl (h H locs ls hW hS hL)
    · exact h.elim
  case ddiv =>
    obtain rfl : len = 1 := by simpa [qLn] using hl
    dsimp only [stepI] at h
    split at h
    · intro H locs ls hW hS hL
      exact lv_ddiv hx hb hd h.1 (h.2 H locs ls hW hS hL)
    · exact h.elim
  case lcmp =>
    obtain rfl : len = 1 := by simpa [qLn] using hl
    dsimp only [stepI] at h
    split at h
    · intro H locs ls hW hS hL
      exact W.lcmp hx hb hd (h H locs ls hW hS hL)
    · exact h.elim
  case dcmp op =>
    obtain rfl : len = 1 := by simpa [qLn] using hl
    dsimp only [stepI] at h
    split at h
    · intro H locs ls hW hS hL
      exact lv_dcmp hx hb hd (h H locs ls hW hS hL)
    · exact h.elim
  case i2l =>
    obtain rfl : len = 1 := by simpa [qLn] using hl
    dsimp only [stepI] at h
    split at h
    · intro H locs ls hW hS hL
      exact lv_i2l hx hb hd rfl (h H locs ls hW hS hL)
    · exact h.elim
  case i2s =>
    obtain rfl : len = 1 := by simpa [qLn] using hl
    dsimp only [stepI] at h
    split at h
    · intro H locs ls hW hS hL
      exact lv_i2s hx hb hd rfl (h H locs ls hW hS hL)
    · exact h.elim
  case i2d =>
    obtain rfl : len = 1 := by simpa [qLn] using hl
    dsimp only [stepI] at h
    split at h
    · intro H locs ls hW hS hL
      exact lv_i2d hx hb hd (h H locs ls hW hS hL)
    · exact h.elim
  case dup =>
    obtain rfl : len = 1 := by simpa [qLn] using hl
    dsimp only [stepI] at h
    split at h
    · intro H locs ls hW hS hL
      exact lv_dup hx hb hd rfl (h H locs ls hW hS hL)
    · intro H locs ls hW hS hL
      exact lv_dup hx hb hd rfl (h H locs ls hW hS hL)
    · exact h.elim
  case dup2 =>
    obtain rfl : len = 1 := by simpa [qLn] using hl
    dsimp only [stepI] at h
    split at h
    · intro H locs ls hW hS hL
      exact lv_dup2_11 hx hb hd rfl rfl (h H locs ls hW hS hL)
    · exact h.elim
  case pop =>
    obtain rfl : len = 1 := by simpa [qLn] using hl
    dsimp only [stepI] at h
    split at h
    · intro H locs ls hW hS hL
      exact lv_pop hx hb hd rfl (h H locs ls hW hS hL)
    · intro H locs ls hW hS hL
      exact lv_pop hx hb hd rfl (h H locs ls hW hS hL)
    · exact h.elim
  case goto o =>
    obtain rfl : len = 3 := by simpa [qLn] using hl
    obtain ⟨t, ht, h⟩ := qGo_spec h
    intro H locs ls hW hS hL
    exact lv_goto hx hb hd (qTg_spec ht) (h H locs ls hW hS hL)
  case ifCond op o =>
    obtain rfl : len = 3 := by simpa [qLn] using hl
    dsimp only [stepI] at h
    split at h
    · obtain ⟨t, ht, h1, h2⟩ := qGo_spec h
      intro H locs ls hW hS hL
      cases op
      · exact lv_if_eq hx hb hd (qTg_spec ht) (fun q => h1 q H locs ls hW hS hL) (fun q => h2 q H locs ls hW hS hL)
      · exact lv_if_ne hx hb hd (qTg_spec ht) (fun q => h1 q H locs ls hW hS hL) (fun q => h2 (fun z => z q) H locs ls hW hS hL)
      · exact lv_if_lt hx hb hd (qTg_spec ht) (fun q => h1 q H locs ls hW hS hL) (fun q => h2 q H locs ls hW hS hL)
      · exact lv_if_ge hx hb hd (qTg_spec ht) (fun q => h1 q H locs ls hW hS hL) (fun q => h2 q H locs ls hW hS hL)
      · exact lv_if_gt hx hb hd (qTg_spec ht) (fun q => h1 q H locs ls hW hS hL) (fun q => h2 q H locs ls hW hS hL)
      · exact lv_if_le hx hb hd (qTg_spec ht) (fun q => h1 q H locs ls hW hS hL) (fun q => h2 q H locs ls hW hS hL)
    · exact h.elim
  case if_icmp op o =>
    obtain rfl : len = 3 := by simpa [qLn] using hl
    dsimp only [stepI] at h
    split at h
    · obtain ⟨t, ht, h1, h2⟩ := qGo_spec h
      intro H locs ls hW hS hL
      cases op
      · exact lv_icmp_eq hx hb hd (qTg_spec ht) (fun q => h1 q H locs ls hW hS hL) (fun q => h2 q H locs ls hW hS hL)
      · exact lv_icmp_ne hx hb hd (qTg_spec ht) (fun q => h1 q H locs ls hW hS hL) (fun q => h2 (fun z => z q) H locs ls hW hS hL)
      · exact lv_icmp_lt hx hb hd (qTg_spec ht) (fun q => h1 q H locs ls hW hS hL) (fun q => h2 q H locs ls hW hS hL)
      · exact lv_icmp_ge hx hb hd (qTg_spec ht) (fun q => h1 q H locs ls hW hS hL) (fun q => h2 q H locs ls hW hS hL)
      · exact lv_icmp_gt hx hb hd (qTg_spec ht) (fun q => h1 q H locs ls hW hS hL) (fun q => h2 q H locs ls hW hS hL)
      · exact lv_icmp_le hx hb hd (qTg_spec ht) (fun q => h1 q H locs ls hW hS hL) (fun q => h2 q H locs ls hW hS hL)
    · exact h.elim
  case tableswitch d lo' hi offs =>
    dsimp only [stepI] at h
    split at h
    · obtain ⟨t, ht, h⟩ := qGo_spec h
      intro H locs ls hW hS hL
      rcases qSwT_spec ht with ⟨h1, h2⟩ | ⟨h1, h2, o, h3, h4⟩
      · exact lv_tableOut hx hb hd h1 h2 (h H locs ls hW hS hL)
      · exact lv_tableIn hx hb hd h1 h2 h3 h4 (h H locs ls hW hS hL)
    · exact h.elim
  case lookupswitch d ps =>
    dsimp only [stepI] at h
    split at h
    · obtain ⟨hp, h⟩ := h
      obtain ⟨t, ht, h⟩ := qGo_spec h
      intro H locs ls hW hS hL
      exact lv_lookup hx hb hd hp rfl (qTg_spec ht) (h H locs ls hW hS hL)
    · exact h.elim
  case getfield idx =>
    obtain rfl : len = 3 := by simpa [qLn] using hl
    dsimp only [stepI] at h
    split at h
    · rename_i ci j w a r heq
      exact qs_get hx hb hts hown hK (hfld _ _ _ _ _ heq) hd h
    · exact h.elim
  case putfield idx =>
    obtain rfl : len = 3 := by simpa [qLn] using hl
    dsimp only [stepI] at h
    split at h
    · rename_i ci j ty fin v a r heq
      cases hf : (fin && !ini) with
      | true =>
        rw [hf] at h
        exact False.elim h
      | false =>
        rw [hf] at h
        refine qs_put hx hb hts hown hK (hfld _ _ _ _ _ heq) hini (fun q => ?_) hd h
        rw [q] at hf
        simpa using hf
    · exact h.elim
  case iaload =>
    obtain rfl : len = 1 := by simpa [qLn] using hl
    dsimp only [stepI] at h
    split at h
    · unfold qIld at h
      split at h
      · rename_i n xs heq
        intro H locs ls hW hS hL
        obtain ⟨g1, g2, g3⟩ := hsc _ _ _ heq
        exact va_sld hx hb g3 g1 g2 hS h.1 hd (h.2 H locs ls hW hS hL)
      · exact qs_iald hx hb hK hd h
    · exact h.elim
  case iastore =>
    obtain rfl : len = 1 := by simpa [qLn] using hl
    dsimp only [stepI] at h
    split at h
    · exact qs_iast hx hb hK hd h
    · exact h.elim
  case laload =>
    obtain rfl : len = 1 := by simpa [qLn] using hl
    dsimp only [stepI] at h
    split at h
    · exact qs_lald hx hb hK hd h
    · exact h.elim
  case lastore =>
    obtain rfl : len = 1 := by simpa [qLn] using hl
    dsimp only [stepI] at h
    split at h
    · exact qs_last hx hb hK hd h
    · exact h.elim
  case aaload =>
    obtain rfl : len = 1 := by simpa [qLn] using hl
    dsimp only [stepI] at h
    split at h
    · unfold qAal at h
      split at h
      · rename_i t n f heq
        obtain ⟨h1, h2, h⟩ := h
        split at h
        · rename_i b hf
          exact qs_aald hx hb hK hd heq h1 h2 hf h
        · exact h.elim
      · exact h.elim
    · exact h.elim
  case aastore =>
    obtain rfl : len = 1 := by simpa [qLn] using hl
    dsimp only [stepI] at h
    split at h
    · unfold qAst at h
      split at h
      · rename_i t n f c' ts heq1 heq2
        obtain ⟨rfl, rfl, h2, h⟩ := h
        exact qs_aast hx hb hK hd heq1 heq2 h2 h
      · exact h.elim
    · exact h.elim
  case arraylength =>
    obtain rfl : len = 1 := by simpa [qLn] using hl
    dsimp only [stepI] at h
    split at h
    · unfold qAln at h
      split at h
      · rename_i n xs heq
        intro H locs ls hW hS hL
        obtain ⟨g1, g2, g3⟩ := hsc _ _ _ heq
        exact va_slen hx hb g3 g1 g2 hS hd (h H locs ls hW hS hL)
      · split at h
        · rename_i t n f heq
          exact qs_alen hx hb hK hd heq h.1 h.2
        · exact h.elim
    · exact h.elim
  case new idx =>
    obtain rfl : len = 3 := by simpa [qLn] using hl
    dsimp only [stepI] at h
    split at h
    · rename_i E heq
      obtain ⟨rfl, h⟩ := h
      exact hthr _ _ _ _ _ _ _ heq hd h
    · unfold qNwO at h
      split at h
      · rename_i ci N t n heq1 heq2
        obtain ⟨h0, h1, h2, h⟩ := h
        rcases hnwo _ _ _ _ heq1 with ⟨q, -⟩ | q
        · exact absurd q h0
        · exact qs_new hx hb hts hown hK q heq2 h1 h2 hd h
      · exact h.elim
  case newarray ty =>
    obtain rfl : len = 2 := by simpa [qLn] using hl
    dsimp only [stepI] at h
    split at h
    · unfold qNwA at h
      split at h
      · rename_i n heq
        obtain ⟨h0, h1, h2, h3, h⟩ := h
        exact qs_newa hx hb hK (Or.inl ⟨rfl, rfl⟩) har1 heq h0 h1 h2 h3 hd h
      · exact h.elim
    · unfold qNwA at h
      split at h
      · rename_i n heq
        obtain ⟨h0, h1, h2, h3, h⟩ := h
        exact qs_newa hx hb hK (Or.inr ⟨rfl, rfl⟩) har2 heq h0 h1 h2 h3 hd h
      · exact h.elim
    · exact h.elim
  case anewarray idx =>
    obtain rfl : len = 3 := by simpa [qLn] using hl
    dsimp only [stepI] at h
    split at h
    · rename_i N t x r heq2
      unfold qNwA at h
      split at h
      · rename_i n heq1
        obtain ⟨h0, h1, h2, h3, h⟩ := h
        rcases hnwo _ _ _ _ heq2 with ⟨q, -⟩ | ⟨C, T, ty0, f1, f2, -⟩
        · cases q
        · cases f1
          exact qs_anew hx hb hown hK (hts _ f2) hov1 heq1 h0 h1 h2 h3 hd h
      · exact h.elim
    · exact h.elim
  case multianewarray idx d =>
    obtain rfl : len = 4 := by simpa [qLn] using hl
    dsimp only [stepI] at h
    split at h
    · rename_i N t y x r heq2
      unfold qNwM at h
      split at h
      · rename_i n heq1
        obtain ⟨h0, h1, h2, h3, h4, h5, h⟩ := h
        rcases hnwo _ _ _ _ heq2 with ⟨-, q⟩ | ⟨C, T, ty0, f1, f2, -⟩
        · exact qs_mna hx hb hown hK q hov2 har1 heq1 h0 h1 h2 h3 h4 h5 hd h
        · cases f1
      · exact h.elim
    · exact h.elim
  case invokevirtual idx =>
    obtain rfl : len = 3 := by simpa [qLn] using hl
    dsimp only [stepI] at h
    unfold qInv at h
    split at h
    · rename_i kd q heq
      cases hk : (kd == 0) with
      | false =>
        rw [hk] at h
        exact False.elim h
      | true =>
        rw [hk] at h
        have : kd = 0 := by simpa using hk
        subst this
        exact hcal _ _ _ heq _ _ _ _ _ _ hd h
    · exact h.elim
  case invokestatic idx =>
    obtain rfl : len = 3 := by simpa [qLn] using hl
    dsimp only [stepI] at h
    unfold qInv at h
    split at h
    · rename_i kd q heq
      cases hk : (kd == 1) with
      | false =>
        rw [hk] at h
        exact False.elim h
      | true =>
        rw [hk] at h
        have : kd = 1 := by simpa using hk
        subst this
        exact hcal _ _ _ heq _ _ _ _ _ _ hd h
    · exact h.elim
  case invokespecial idx =>
    obtain rfl : len = 3 := by simpa [qLn] using hl
    dsimp only [stepI] at h
    unfold qInv at h
    split at h
    · rename_i kd q heq
      cases hk : (kd == 2) with
      | false =>
        rw [hk] at h
        exact False.elim h
      | true =>
        rw [hk] at h
        have : kd = 2 := by simpa using hk
        subst this
        exact hcal _ _ _ heq _ _ _ _ _ _ hd h
    · exact h.elim
  case ireturn =>
    obtain rfl : len = 1 := by simpa [qLn] using hl
    dsimp only [stepI] at h
    split at h
    · exact hret _ _ _ _ _ _ _ (Or.inl ⟨_, _, rfl, rfl, rfl, h.1, hd⟩) h.2
    · exact h.elim
  case lreturn =>
    obtain rfl : len = 1 := by simpa [qLn] using hl
    dsimp only [stepI] at h
    split at h
    · exact hret _ _ _ _ _ _ _ (Or.inr (Or.inl ⟨_, rfl, rfl, rfl, hd⟩)) h
    · exact h.elim
  case dreturn =>
    obtain rfl : len = 1 := by simpa [qLn] using hl
    dsimp only [stepI] at h
    split at h
    · exact hret _ _ _ _ _ _ _ (Or.inr (Or.inr (Or.inl ⟨_, rfl, rfl, rfl, hd⟩))) h
    · exact h.elim
  case areturn =>
    obtain rfl : len = 1 := by simpa [qLn] using hl
    dsimp only [stepI] at h
    split at h
    · exact hret _ _ _ _ _ _ _ (Or.inr (Or.inr (Or.inr (Or.inl ⟨_, _, rfl, rfl, rfl, h.1, hd⟩)))) h.2
    · exact h.elim
  case return_ =>
    obtain rfl : len = 1 := by simpa [qLn] using hl
    dsimp only [stepI] at h
    split at h
    · exact hret _ _ _ _ _ _ _ (Or.inr (Or.inr (Or.inr (Or.inr ⟨rfl, rfl, rfl, hd⟩)))) h
    · exact h.elim
end
