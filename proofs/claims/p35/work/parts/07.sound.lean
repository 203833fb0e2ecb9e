/-! ===== the abstract memory in the heap; locals; what a step means for the machine ===== -/
def fv (i : Nat → Int32) (j : Nat → Int64) (k : Nat) (v : Value) : Value := match v with
  | .int _ => .int (i k)
  | .long _ => .long (j k)
  | w => w
def qEn (cA : Nat → ClassId) (t : qTm) (i : Nat → Int32) (j : Nat → Int64) : va_E := match t with
  | .inl (c, fs) => .inr (c, fs.mapIdx (fv i j))
  | .inr (0, n, _) => .inl (cA 0, n, .inl i)
  | .inr (1, n, _) => .inl (cA 1, n, .inr (.inl j))
  | .inr (k, n, r) => .inl (cA k, n, .inr (.inr (.inr (.inr r))))
def qE (cA : Nat → ClassId) (μ : qMM) (a : Nat) : va_E := match mS μ a with
  | some t => qEn cA t (mI μ a) (mJ μ a)
  | none => .inr (0, [])
/-- the heap holds the memory: a finite part of it, all of it at B and above; the next free address, where the memory knows it -/
def qW (D : va_G) (cA : Nat → ClassId) (B : Nat) (μ : qMM) (H : Heap) : Prop :=
  (∃ L : List Nat, L.Nodup ∧ ∀ a, a ∈ L ↔ mS μ a ≠ none) ∧ (∀ a t, mS μ a = some t → B ≤ a ∧ va_at D vwCl (a, qEn cA t (mI μ a) (mJ μ a)) H) ∧ B ≤ H.size ∧ ∀ n, mN μ = some n → H.size = n
theorem fv_seti {fs : List Value} {i : Nat → Int32} {j : Nat → Int64} {k : Nat} {x y : Int32} (h : fs[k]? = some (.int y)) : (fs.mapIdx (fv i j)).set k (.int x) = fs.mapIdx (fv (upd i k x) j) := by
  apply List.ext_getElem?
  intro n
  have hl := (List.getElem?_eq_some_iff.mp h).1
  by_cases e : n = k
  · subst e
    rw [List.getElem?_set_self (by simpa using hl)]
    simp [List.getElem?_mapIdx, h, fv, upd]
  · rw [List.getElem?_set_ne (Ne.symm e)]
    simp only [List.getElem?_mapIdx]
    cases fs[n]? with
    | none => rfl
    | some v => cases v <;> simp [fv, upd, e]
theorem fv_setl {fs : List Value} {i : Nat → Int32} {j : Nat → Int64} {k : Nat} {x y : Int64} (h : fs[k]? = some (.long y)) : (fs.mapIdx (fv i j)).set k (.long x) = fs.mapIdx (fv i (vp_updL j k x)) := by
  apply List.ext_getElem?
  intro n
  have hl := (List.getElem?_eq_some_iff.mp h).1
  by_cases e : n = k
  · subst e
    rw [List.getElem?_set_self (by simpa using hl)]
    simp [List.getElem?_mapIdx, h, fv, vp_updL]
  · rw [List.getElem?_set_ne (Ne.symm e)]
    simp only [List.getElem?_mapIdx]
    cases fs[n]? with
    | none => rfl
    | some v => cases v <;> simp [fv, vp_updL, e]
theorem fv_setr {fs : List Value} {i : Nat → Int32} {j : Nat → Int64} {k b : Nat} (h : k < fs.length) : (fs.mapIdx (fv i j)).set k (.ref b) = (fs.set k (.ref b)).mapIdx (fv i j) := by
  apply List.ext_getElem?
  intro n
  by_cases e : n = k
  · subst e
    rw [List.getElem?_set_self (by simpa using h), List.getElem?_mapIdx, List.getElem?_set_self h]
    rfl
  · rw [List.getElem?_set_ne (Ne.symm e)]
    simp [List.getElem?_mapIdx, List.getElem?_set_ne (Ne.symm e)]
/-- one cell is written -/
theorem qW.set {D : va_G} {cA : Nat → ClassId} {B : Nat} {μ μ' : qMM} {H H1 : Heap} {a : Nat} {t t' : qTm} (h : qW D cA B μ H) (ht : mS μ a = some t) (ht' : mS μ' a = some t') (he : va_at D vwCl (a, qEn cA t' (mI μ' a) (mJ μ' a)) H1) (oq : ∀ q : Nat, q ≠ a → H1[q]? = H[q]?) (z : H1.size = H.size)
    (hS : ∀ b, b ≠ a → mS μ' b = mS μ b) (hI : ∀ b, b ≠ a → mI μ' b = mI μ b) (hJ : ∀ b, b ≠ a → mJ μ' b = mJ μ b) (hN : mN μ' = mN μ) : qW D cA B μ' H1 := by
  obtain ⟨⟨L, hn, hL⟩, hP, hB, hz⟩ := h
  refine ⟨⟨L, hn, fun b => ?_⟩, fun b tb hb => ?_, by rw [z]; exact hB, fun n h => by rw [z]; exact hz n (by rw [← hN]; exact h)⟩
  · by_cases e : b = a
    · subst e
      rw [hL, ht, ht']
      simp
    · rw [hL, hS b e]
  · by_cases e : b = a
    · subst e
      have : tb = t' := Option.some.inj (hb.symm.trans ht')
      subst this
      exact ⟨(hP b t ht).1, he⟩
    · rw [hS b e] at hb
      rw [hI b e, hJ b e]
      exact ⟨(hP b tb hb).1, (hP b tb hb).2.kept (oq b e)⟩
theorem qW.lt {D : va_G} {cA : Nat → ClassId} {B : Nat} {μ : qMM} {H : Heap} (h : qW D cA B μ H) {a : Nat} {t : qTm} (ht : mS μ a = some t) : a < H.size := (h.2.1 a t ht).2.lt
/-- a cell is made at the next address -/
theorem qW_mk1 {D : va_G} {cA : Nat → ClassId} {B : Nat} {μ : qMM} {H H1 : Heap} {n : Nat} {t : qTm} (h : qW D cA B μ H) (hn : mN μ = some n) (he : va_at D vwCl (n, qEn cA t (fun _ => 0) (fun _ => 0)) H1) (z : H1.size = n + 1) (o : ∀ q, q < n → H1[q]? = H[q]?) : qW D cA B (mk1 μ n t) H1 := by
  have hlt := fun {a : Nat} {t : qTm} (ht : mS μ a = some t) => h.lt ht
  obtain ⟨⟨L, hd, hL⟩, hP, hB, hz⟩ := h
  have hsz := hz n hn
  have hnew : mS μ n = none := by
    cases hm : mS μ n with
    | none => rfl
    | some t =>
      have := hlt hm
      omega
  have hS : ∀ b, b ≠ n → mS (mk1 μ n t) b = mS μ b := fun b hb => if_neg hb
  have hI : ∀ b, b ≠ n → mI (mk1 μ n t) b = mI μ b := fun b hb => if_neg hb
  have hJ : ∀ b, b ≠ n → mJ (mk1 μ n t) b = mJ μ b := fun b hb => if_neg hb
  have hS1 : mS (mk1 μ n t) n = some t := if_pos rfl
  have hI1 : mI (mk1 μ n t) n = fun _ => 0 := if_pos rfl
  have hJ1 : mJ (mk1 μ n t) n = fun _ => 0 := if_pos rfl
  refine ⟨⟨n :: L, List.nodup_cons.mpr ⟨fun q => (hL n).mp q hnew, hd⟩, fun b => ?_⟩, fun b tb hb => ?_, by omega, fun k hk => ?_⟩
  · by_cases e : b = n
    · subst e
      rw [hS1]
      simp
    · rw [hS b e, ← hL]
      simp [e]
  · by_cases e : b = n
    · subst e
      rw [hS1] at hb
      cases hb
      rw [hI1, hJ1]
      exact ⟨by omega, he⟩
    · rw [hS b e] at hb
      rw [hI b e, hJ b e]
      have := hlt hb
      exact ⟨(hP b tb hb).1, (hP b tb hb).2.kept (o b (by omega))⟩
  · have : some (n + 1) = some k := hk
    cases this
    exact z
/-- the locals: one list for ints and references, one for longs and doubles -/
def qLV (nL : Nat) (l lj : List (Option Value)) (ls : Array Slot) : Prop :=
  ls.size = nL ∧ lv_wf ls ∧ l.length = nL ∧ lj.length ≤ nL ∧ (∀ (i : Nat) (v : Value), l[i]? = some (some v) → ls[i]? = some (.val v) ∧ v.category = 1) ∧ ∀ (i : Nat) (v : Value), lj[i]? = some (some v) → ls[i]? = some (.val v) ∧ v.category = 2
def qls (l : List (Option Value)) : List (Nat × Value) := (List.range l.length).filterMap (fun i => match l[i]? with
  | some (some v) => some (i, v)
  | _ => none)
theorem qls_mem {l : List (Option Value)} {q : Nat × Value} : q ∈ qls l ↔ l[q.1]? = some (some q.2) := by
  unfold qls
  rw [List.mem_filterMap]
  constructor
  · rintro ⟨i, hi, h⟩
    revert h
    split
    · rename_i v e
      intro h
      cases h
      exact e
    · intro h
      cases h
  · intro h
    refine ⟨q.1, List.mem_range.mpr (List.getElem?_eq_some_iff.mp h).1, ?_⟩
    rw [h]
theorem qLV.has {nL : Nat} {l lj : List (Option Value)} {ls : Array Slot} (h : qLV nL l lj ls) : lv_has ls nL (qls l ++ qls lj) := by
  obtain ⟨h1, h2, -, -, h3, h4⟩ := h
  refine ⟨h1, h2, fun q hq => ?_⟩
  rcases List.mem_append.mp hq with h | h
  · exact (h3 _ _ (qls_mem.mp h)).1
  · exact (h4 _ _ (qls_mem.mp h)).1
theorem qLV.st1 {nL : Nat} {l lj : List (Option Value)} {ls ls' : Array Slot} {i : Nat} {v : Value} (h : qLV nL l lj ls) (hv : v.category = 1) (h' : lv_has ls' nL ((i, v) :: (qls l ++ qls lj).filter (fun q => !(q.1 == i) && !(q.1 + 1 == i && q.2.category == 2)))) : qLV nL (l.set i (some v)) ((lj.set (i - 1) none).set i none) ls' := by
  obtain ⟨h1, h2, h3, h3', h4, h5⟩ := h
  refine ⟨h'.1, h'.2.1, by simpa using h3, by simpa using h3', fun j w hj => ?_, fun j w hj => ?_⟩
  · by_cases e : j = i
    · subst e
      have hl : j < l.length := by
        have := (List.getElem?_eq_some_iff.mp hj).1
        simpa using this
      rw [List.getElem?_set_self hl] at hj
      cases hj
      exact ⟨h'.2.2 (j, v) List.mem_cons_self, hv⟩
    · rw [List.getElem?_set_ne (Ne.symm e)] at hj
      have h6 := h4 j w hj
      refine ⟨h'.2.2 (j, w) (List.mem_cons_of_mem _ (List.mem_filter.mpr ⟨List.mem_append_left _ (qls_mem.mpr hj), ?_⟩)), h6.2⟩
      simp [e, h6.2]
  · have e : j ≠ i := by
      rintro rfl
      by_cases hl : j < lj.length
      · rw [List.getElem?_set_self (by simpa using hl)] at hj
        cases hj
      · rw [List.getElem?_eq_none (by simpa using hl)] at hj
        cases hj
    rw [List.getElem?_set_ne (Ne.symm e)] at hj
    have e2 : j ≠ i - 1 := by
      intro q
      rw [← q] at hj
      by_cases hl : j < lj.length
      · rw [List.getElem?_set_self hl] at hj
        cases hj
      · rw [List.getElem?_eq_none (by simpa using hl)] at hj
        cases hj
    rw [List.getElem?_set_ne (Ne.symm e2)] at hj
    have h6 := h5 j w hj
    refine ⟨h'.2.2 (j, w) (List.mem_cons_of_mem _ (List.mem_filter.mpr ⟨List.mem_append_right _ (qls_mem.mpr hj), ?_⟩)), h6.2⟩
    have : j + 1 ≠ i := by omega
    simp [e, this]
theorem qLV.st2 {nL : Nat} {l lj : List (Option Value)} {ls ls' : Array Slot} {i : Nat} {v : Value} (h : qLV nL l lj ls) (hv : v.category = 2) (h' : lv_has ls' nL ((i, v) :: (qls l ++ qls lj).filter (fun q => !(q.1 == i) && (!(q.1 == i + 1) && !(q.1 + 1 == i && q.2.category == 2))))) : qLV nL ((l.set i none).set (i + 1) none) (((lj.set (i - 1) none).set (i + 1) none).set i (some v)) ls' := by
  obtain ⟨h1, h2, h3, h3', h4, h5⟩ := h
  have nn : ∀ {z : List (Option Value)} {a j : Nat} {w : Value}, (z.set a none)[j]? = some (some w) → j ≠ a ∧ z[j]? = some (some w) := by
    intro z a j w hj
    by_cases e : j = a
    · subst e
      by_cases hl : j < z.length
      · rw [List.getElem?_set_self hl] at hj
        cases hj
      · rw [List.getElem?_eq_none (by simpa using hl)] at hj
        cases hj
    · exact ⟨e, by rw [List.getElem?_set_ne (Ne.symm e)] at hj; exact hj⟩
  refine ⟨h'.1, h'.2.1, by simpa using h3, by simpa using h3', fun j w hj => ?_, fun j w hj => ?_⟩
  · obtain ⟨e1, hj⟩ := nn hj
    obtain ⟨e2, hj⟩ := nn hj
    have h6 := h4 j w hj
    refine ⟨h'.2.2 (j, w) (List.mem_cons_of_mem _ (List.mem_filter.mpr ⟨List.mem_append_left _ (qls_mem.mpr hj), ?_⟩)), h6.2⟩
    simp [e1, e2, h6.2]
  · by_cases e : j = i
    · subst e
      have hl := (List.getElem?_eq_some_iff.mp hj).1
      rw [List.getElem?_set_self (by simpa using hl)] at hj
      cases hj
      exact ⟨h'.2.2 (j, v) List.mem_cons_self, hv⟩
    · rw [List.getElem?_set_ne (Ne.symm e)] at hj
      obtain ⟨e1, hj⟩ := nn hj
      obtain ⟨e2, hj⟩ := nn hj
      have h6 := h5 j w hj
      refine ⟨h'.2.2 (j, w) (List.mem_cons_of_mem _ (List.mem_filter.mpr ⟨List.mem_append_right _ (qls_mem.mpr hj), ?_⟩)), h6.2⟩
      have : j + 1 ≠ i := by omega
      simp [e, e1, this]
