/-! ===== whole_start ===== -/
theorem whole_start {p : Program} {e : Env} {s : State} {m : MethodId} {below : List Frame} {meth : Method} {c : Code} (l : Launch) (hflags : l.flags = flags0) {b L : Nat} {xs : Nat → Int32} (hL : L ≤ 2048) (C0 : lw_At p s m meth c b L xs) : W p l e room_1 s m #[Value.ref b] below meth c s.heap [] 0 0 (lw_Z below #[Value.ref b] s) (entryFrame m ([Value.ref b] : List Value).toArray 9) := by
  obtain ⟨hx, hb, hr, hml, hown, hts, hX, hbl, hlocks, hgv⟩ := C0
  obtain ⟨D, cA, hF0⟩ := qF_start hts
  have hZ := qZ_start hts hgv
  have hl : l.stackTraces = false := by
    unfold Launch.stackTraces
    rw [hflags]
    decide +kernel
  have hts' : ∀ w ∈ qT, w.before #[Value.ref b] s = true := fun w hw => hts w (List.mem_filter.mp hw).1
  have hFx : qFix p s m #[Value.ref b] c D cA cL_law 9 "HeaderSqueezerLaw" := ⟨⟨hx, hb, hml, hown, hts'⟩, hF0⟩
  have h0 := law_start (sc := fun a => if a = b then some (L, xs) else none) (R := fun v _ cs => v = some (.int 1) ∧ cs.1 ≤ 601024 ∧ cs.2 ≤ 7293034) (X := fun _ _ _ => False) (x := s.heap.size) (b := b) (L := L) (xs := xs) (if_pos rfl) hL (fun μ c s h1 h2 => ⟨rfl, h1, h2⟩)
  have h1 := h0 (qG p l e room_1 s m #[Value.ref b] below meth c D cA s.heap.size 9 (lw_Z below #[Value.ref b] s)) (fun pc lo lj st μ cs hs => by
    have step : ∀ {i : Instr} {len : Nat}, decode cL_law pc = .ok (i, len) → qLn i len = true → stepI (fun _ => none) calL_law (fun _ => none) (fun _ => none) nLw (fun _ => none) (fun a => if a = b then some (L, xs) else none) false (some .boolean) room_1.cells room_1.slots (fun v _ cs => v = some (.int 1) ∧ cs.1 ≤ 601024 ∧ cs.2 ≤ 7293034) (fun _ _ _ => False) i pc lo lj st μ cs (qG p l e room_1 s m #[Value.ref b] below meth c D cA s.heap.size 9 (lw_Z below #[Value.ref b] s)) → qG p l e room_1 s m #[Value.ref b] below meth c D cA s.heap.size 9 (lw_Z below #[Value.ref b] s) pc lo lj st μ cs := fun hd hlen hs => by
      refine qG_step hx hb hts' hown hF0.1 (fun z => by cases z) (fun _ _ _ _ _ z => by cases z) (fun n v z => by cases z) (fun n v z => by cases z)
        (fun idx ci N t z => (nLw_ok idx ci N t z).elim (fun w => Or.inl ⟨w.1, hts' _ w.2⟩) Or.inr)
        (va_AO.use hF0.2.2.1) (va_AOA.use hF0.2.1) (hts' _ va_AOA_words.1) (hts' _ va_AOA_words.2)
        (fun idx kd q' z => law_cal hl hFx hZ idx kd q' z)
        (fun _ _ _ _ _ _ _ z => by cases z) (fun a n ys z => ?_) (fun pc lo lj st μ cs v hq hR => ?_) hd hlen hs
      · split at z
        · rename_i g
          cases z
          rw [g]
          exact ⟨hbl, Nat.not_le.mpr hbl, hX⟩
        · cases z
      · obtain ⟨rfl, r1, r2⟩ := hR
        intro H locs ls hW hS hLv
        refine W.widen (k := 601024) (n := 7293034) r1 r2 ?_
        refine va_forget (fun q hq => hS.2.2 q hq) ?_
        rcases hq with ⟨x, ty, e1, rfl, -, -, hd⟩ | ⟨x, e1, -⟩ | ⟨x, e1, -⟩ | ⟨x, ty, e1, -⟩ | ⟨e1, -⟩
        · cases e1
          exact W.base (lw_ret (Drawn.sameBut.refl s.drawn lw_cs) hx hb hr hlocks hd)
        · cases e1
        · cases e1
        · cases e1
        · cases e1
    rcases hs with ⟨rfl, hs⟩ | ⟨-, i, len, hd, hlen, hs⟩
    · refine step dL_law_23 rfl ?_
      unfold FL_law at hs
      unfold stepI
      split at hs
      · rename_i a heq
        simp only [heq]
        exact fun H locs ls hW hS hLv => hs H locs ls (qW_fgt hW) hS hLv
      · exact hs.elim
    · exact step hd hlen hs)
  rw [lg_entry_eq]
  have hW0 : qW D cA s.heap.size (mu0 s.heap.size) s.heap := by
    refine ⟨⟨[], List.nodup_nil, fun a => by simp [mu0, mS]⟩, fun a t h => ?_, Nat.le_refl _, fun n hn => ?_⟩
    · cases h
    · cases hn
      rfl
  exact h1 s.heap [] _ hW0 va_S.rf (qLV_entry (av := [.ref b]) (n := 9) (Nat.le_of_ble_eq_true rfl) true)
