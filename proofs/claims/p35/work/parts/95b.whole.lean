/-! ===== whole_start ===== -/
theorem whole_start {p : Program} {e : Env} {s : State} {m : MethodId} {below : List Frame} {meth : Method} {c : Code} (l : Launch) (hflags : l.flags = flags0) {b L : Nat} {xs : Nat → Int32} (hL : L ≤ 260) (C0 : lw_At p s m meth c b L xs) : W p l e room_1 s m #[Value.ref b] below meth c s.heap [] 0 0 (lw_Z below #[Value.ref b] s) (entryFrame m ([Value.ref b] : List Value).toArray 24) := by
  obtain ⟨hx, hb, hr, hml, hown, hts, hX, hbl, hlocks, hgv⟩ := C0
  obtain ⟨D, cA, hF0⟩ := qF_start hts
  have hZ := qZ_start hts hgv
  have hl : l.stackTraces = false := by
    unfold Launch.stackTraces
    rw [hflags]
    decide +kernel
  have hts' : ∀ w ∈ qT, w.before #[Value.ref b] s = true := fun w hw => hts w (List.mem_filter.mp hw).1
  have hFx : qFix p s m #[Value.ref b] c D cA cL_law 24 "HeaderSqueezerLaw" := ⟨⟨hx, hb, hml, hown, hts'⟩, hF0⟩
  have hXq : qX s.heap.size (fun a => if a = b then some (L, xs) else none) s := fun a n ys z => by
    replace z : (if a = b then some (L, xs) else none) = some (n, ys) := z
    split at z
    · rename_i g
      cases z
      rw [g]
      exact ⟨hbl, Nat.not_le.mpr hbl, hX⟩
    · cases z
  have h0 := law_start (R := (fun v _ cs => v = some (.int 1) ∧ cs.1 ≤ 600130 ∧ cs.2 ≤ 7301079)) (X := fun _ _ _ => False) (x := s.heap.size) (b := b) (L := L) (xs := xs) (fun μ c s h1 h2 => ⟨rfl, h1, h2⟩)
  have h1 := h0 (qG p l e room_1 s m #[Value.ref b] below meth c D cA s.heap.size 24 (lw_Z below #[Value.ref b] s)) (fun pc lo lj st μ cs hs => by
    have step : ∀ {i : Instr} {len : Nat}, decode cL_law pc = .ok (i, len) → qLn i len = true → stepI (fun _ => none) (calL_law b L xs) kL jL nL (fun _ => none) (fun _ => none) false (some .boolean) room_1.cells room_1.slots (fun v _ cs => v = some (.int 1) ∧ cs.1 ≤ 600130 ∧ cs.2 ≤ 7301079) (fun _ _ _ => False) i pc lo lj st μ cs (qG p l e room_1 s m #[Value.ref b] below meth c D cA s.heap.size 24 (lw_Z below #[Value.ref b] s)) → (qG p l e room_1 s m #[Value.ref b] below meth c D cA s.heap.size 24 (lw_Z below #[Value.ref b] s)) pc lo lj st μ cs := fun hd hlen hs => by
      refine qG_step hx hb hts' hown hF0.1 (fun z => by cases z) (fun _ _ _ _ _ z => by cases z) (fun n v z => hts' _ (tabL.2.1 n v z)) (fun n v z => hts' _ (tabL.2.2.1 n v z))
        (fun idx ci N t z => (tabL.2.2.2 idx ci N t z).elim (fun w => Or.inl ⟨w.1, hts' _ w.2⟩) Or.inr)
        (va_AO.use hF0.2.2.1) (va_AOA.use hF0.2.1) (hts' _ va_AOA_words.1) (hts' _ va_AOA_words.2)
        (fun idx kd q' z => law_cal hl hL hFx hZ hXq idx kd q' z)
        (fun _ _ _ _ _ _ _ z => by cases z) (fun a n ys z => by cases z) (fun pc lo lj st μ cs v hq hR => ?_) hd hlen hs
      obtain ⟨rfl, r1, r2⟩ := hR
      intro H locs ls hW hS hLv
      refine W.widen (k := 600130) (n := 7301079) r1 r2 ?_
      refine va_forget (fun q hq => hS.2.2 q hq) ?_
      rcases hq with ⟨x, ty, e1, rfl, -, -, hd⟩ | ⟨x, e1, -⟩ | ⟨x, e1, -⟩ | ⟨x, ty, e1, -⟩ | ⟨e1, -⟩
      · cases e1
        exact W.base (lw_ret (Drawn.sameBut.refl s.drawn lw_cs) hx hb hr hlocks hd)
      · cases e1
      · cases e1
      · cases e1
      · cases e1
    have take : decode cL_law pc = .ok (.invokestatic 203, 3) → qCal8 spL_take st μ cs room_1.cells room_1.slots (fun st' μ' cs' => (qG p l e room_1 s m #[Value.ref b] below meth c D cA s.heap.size 24 (lw_Z below #[Value.ref b] s)) (pc + 3) lo lj st' μ' cs') → (qG p l e room_1 s m #[Value.ref b] below meth c D cA s.heap.size 24 (lw_Z below #[Value.ref b] s)) pc lo lj st μ cs := fun hd hs => by
      exact qc_S8 hFx mL_take (by exact (qm_c (qT_in (List.mem_of_getElem? (i := 709) (by decide +kernel)) (by decide +kernel)) (qm_c (qT_in (List.mem_of_getElem? (i := 710) (by decide +kernel)) (by decide +kernel)) (qm_c (qT_in (List.mem_of_getElem? (i := 9) (by decide +kernel)) (by decide +kernel)) (qm_c (qT_in (List.mem_of_getElem? (i := 711) (by decide +kernel)) (by decide +kernel)) qm_0))))) rfl (by decide +kernel) (by decide) hd hs
    unfold SL_law stepS at hs
    split at hs
    · rename_i f hf
      unfold spF_law at hf
      split at hf
      · rename_i hp
        cases hf
        subst hp
        refine step dL_law_92 rfl ?_
        unfold FL_92 at hs
        unfold stepI
        split at hs
        · rename_i a heq
          simp only [heq]
          exact fun H locs ls hW hS hLv => hs H locs ls (qW_fgt hW) hS hLv
        · exact hs.elim
      · split at hf
        · rename_i hp
          cases hf
          subst hp
          exact take dL_law_915 hs
        · split at hf
          · rename_i hp
            cases hf
            subst hp
            exact take dL_law_1254 hs
          · cases hf
    · obtain ⟨i, len, hd, hlen, hs⟩ := hs
      exact step hd hlen hs)
  rw [lg_entry_eq]
  have hW0 : qW D cA s.heap.size (mu0 s.heap.size) s.heap := by
    refine ⟨⟨[], List.nodup_nil, fun a => by simp [mu0, mS]⟩, fun a t h => ?_, Nat.le_refl _, fun n hn => ?_⟩
    · cases h
    · cases hn
      rfl
  exact h1 s.heap [] _ hW0 va_S.rf (qLV_entry (av := [.ref b]) (n := 24) (Nat.le_of_ble_eq_true rfl) true)
