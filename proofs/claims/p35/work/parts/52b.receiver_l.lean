/-! ===== what a receiver keeps, in the reference's words ===== -/
theorem RcR_mem {μ μ' : qMM} {o : Nat} {s : Nat → Int32} (h : ∀ b, o ≤ b → b < o + 69 → mI μ' b = mI μ b) (r : RcR μ o s) : RcR μ' o s := by
  unfold RcR
  rw [h o (by omega) (by omega), h (o + 1) (by omega) (by omega), h (o + 3) (by omega) (by omega)]
  refine ⟨r.1, r.2.1, fun k hk => ⟨(r.2.2 k hk).1, fun z j hj => ?_⟩⟩
  rw [h (o + 5 + k) (by omega) (by omega)]
  exact (r.2.2 k hk).2 z j hj
theorem RcR_congr {μ : qMM} {o : Nat} {s t : Nat → Int32} (h : ∀ j, 52 ≤ j → j < 514 → j ≠ 63 → j ≠ 64 → t j = s j) (r : RcR μ o s) : RcR μ o t := by
  obtain ⟨⟨a1, a2, a3, a4, a5, a6, a7⟩, ⟨b1, b2, b3, b4, b5⟩, c⟩ := r
  refine ⟨⟨?_, ?_, ?_, ?_, ?_, ?_, ?_⟩, ⟨?_, ?_, ?_, ?_, ?_⟩, fun k hk => ?_⟩
  · rw [a1, h 52 (by decide) (by decide) (by decide) (by decide)]
  · rw [a2, h 53 (by decide) (by decide) (by decide) (by decide)]
  · rw [a3, h 54 (by decide) (by decide) (by decide) (by decide)]
  · rw [a4, h 55 (by decide) (by decide) (by decide) (by decide)]
  · rw [a5, h 56 (by decide) (by decide) (by decide) (by decide)]
  · rw [a6, h 62 (by decide) (by decide) (by decide) (by decide)]
  · rw [a7, h 65 (by decide) (by decide) (by decide) (by decide)]
  · rw [b1, h 58 (by decide) (by decide) (by decide) (by decide)]
  · rw [b2, h 59 (by decide) (by decide) (by decide) (by decide)]
  · rw [b3, h 60 (by decide) (by decide) (by decide) (by decide)]
  · rw [b4, h 61 (by decide) (by decide) (by decide) (by decide)]
  · rw [h 57 (by decide) (by decide) (by decide) (by decide), h 58 (by decide) (by decide) (by decide) (by decide), h 59 (by decide) (by decide) (by decide) (by decide), b5]
  · rw [h (66 + 7 * k) (by omega) (by omega) (by omega) (by omega)]
    refine ⟨(c k hk).1, fun z j hj => ?_⟩
    rw [h (67 + 7 * k + j) (by omega) (by omega) (by omega) (by omega)]
    exact (c k hk).2 z j hj
theorem LkR_mem {μ μ' : qMM} {k : Nat} {s : Nat → Int32} {a : Nat} (h0 : mI μ' k = mI μ k) (h1 : mI μ' (k + 1) = mI μ (k + 1)) (r : LkR μ k s a) : LkR μ' k s a := by
  unfold LkR
  rw [h0, h1]
  exact r
theorem LkR_congr {μ : qMM} {k : Nat} {s t : Nat → Int32} {a n : Nat} (hn : s a = nI n) (hn2 : n ≤ 20) (h : ∀ j, a ≤ j → j ≤ a + 20 → t j = s j) (r : LkR μ k s a) : LkR μ k t a := by
  unfold LkR
  rw [h a (by omega) (by omega)]
  refine ⟨r.1, fun i hi => ?_⟩
  have hi' := hi
  rw [hn, nI_clamp (by omega)] at hi'
  rw [h _ (by omega) (by omega)]
  exact r.2 i hi
/-- an item more -/
theorem LkR_put {ξ : qMM} {k a n : Nat} {v : Int32} {s : Nat → Int32} (hn : s a = nI n) (hn2 : n ≤ 20) (r : LkR ξ k s a) : LkR (putK2 ξ k v) k (joinF a v s) a := by
  obtain ⟨r1, r2⟩ := r
  rw [hn, nI_clamp (by omega)] at r2
  rcases Nat.lt_or_ge n 20 with g | g
  · obtain ⟨e1, e2, e3⟩ := join_in (v := v) g hn
    have hg : ¬ (20 : Int32) ≤ mI ξ k 1 := by
      rw [r1, hn]
      exact fun z => absurd ((nI_leI (a := 20) (by decide) (by omega)).mp z) (by omega)
    unfold LkR putK2
    rw [if_neg hg, e1, nI_clamp (by omega), mI_wR_s, upd_s, mI_wR_n (by omega), mI_wR_s, r1, hn, nI_clamp (by omega), nI_1]
    refine ⟨rfl, fun i hi => ?_⟩
    by_cases q : i = n
    · subst q
      rw [upd_s, show a + 1 + i = a + (i + 1) by omega, e2]
    · rw [upd_n q, r2 i (by omega)]
      exact (e3 i (by omega)).symm
  · have : n = 20 := by omega
    subst this
    unfold putK2
    rw [if_pos (by rw [r1, hn]; decide), join_full hn]
    exact ⟨r1, by rw [hn, nI_clamp (by omega)]; exact r2⟩
theorem putK2_o {ξ : qMM} {k b : Nat} {v : Int32} (h1 : b ≠ k) (h2 : b ≠ k + 1) : mI (putK2 ξ k v) b = mI ξ b := by
  unfold putK2
  split
  · rfl
  · rw [mI_wR_n h1, mI_wR_n h2]
theorem Sm_putK2 {μ ξ : qMM} {k : Nat} {v : Int32} (h : Sm μ ξ) : Sm μ (putK2 ξ k v) := by
  unfold putK2
  split
  · exact h
  · exact Sm_wR (Sm_wR h)
theorem place_m1 {t : Nat → Int32} {x : Int32} : placeF t x = -1 ↔ ¬ (0 ≤ x ∧ t (66 + 7 * slotOf x) = x) := by
  unfold placeF
  by_cases g : 0 ≤ x ∧ t (66 + 7 * slotOf x) = x
  · rw [if_pos g]
    have := slot_lt x
    exact ⟨fun z => absurd z (nI_m1 (by omega)), fun z => absurd g z⟩
  · rw [if_neg g]
    exact ⟨fun _ => g, fun _ => rfl⟩
theorem has_iff {μ : qMM} {o : Nat} {t : Nat → Int32} (r : RcR μ o t) (x : Int32) : hasC μ o x ↔ (0 ≤ x ∧ t (66 + 7 * slotOf x) = x) := by
  unfold hasC
  rw [(r.2.2 _ (slot_lt x)).1]
theorem right_iff {t G : Nat → Int32} {p : Nat} {x : Int32} : rightL t G p x 4 = if x = nI p ∧ (G 0 = t (514 + 10 * p) ∧ G 1 = t (514 + 10 * p + 1) ∧ G 2 = t (514 + 10 * p + 2) ∧ G 3 = t (514 + 10 * p + 3)) then 1 else 0 := by
  unfold rightL rightL rightL rightL rightL
  by_cases g : x = nI p <;> by_cases g0 : G 0 = t (514 + 10 * p) <;> by_cases g1 : G 1 = t (514 + 10 * p + 1) <;> by_cases g2 : G 2 = t (514 + 10 * p + 2) <;> by_cases g3 : G 3 = t (514 + 10 * p + 3) <;> simp [g, g0, g1, g2, g3]
theorem cpyG_at {s g : Nat → Int32} {p j : Nat} : ∀ k, j < k → cpyG s p g k j = s (514 + 10 * p + j)
  | 0, h => absurd h (by omega)
  | k + 1, h => by
    unfold cpyG
    by_cases q : j = k
    · rw [q, upd_s]
    · rw [upd_n q]
      exact cpyG_at k (by omega)
theorem decL_at {s g : Nat → Int32} {p a : Nat} {d : Int32} {j : Nat} : ∀ k, decL s p a d g k j = if j < k then decV s p a d j else g j
  | 0 => by unfold decL; rw [if_neg (by omega)]
  | k + 1 => by
    unfold decL
    by_cases q : j = k
    · rw [q, upd_s, if_pos (by omega)]
    · rw [upd_n q, decL_at k]
      by_cases q2 : j < k
      · rw [if_pos q2, if_pos (by omega)]
      · rw [if_neg q2, if_neg (by omega)]
theorem addC_at {c b : Nat → Int32} {j : Nat} (hj : j < 6) : addC c b j = if j = 0 ∨ j = 3 then (if c j = -1 then b j else c j) else if j = 1 ∨ j = 2 then (b j + c j) &&& 65535 else b j := by
  unfold addC
  rcases (by omega : j = 0 ∨ j = 1 ∨ j = 2 ∨ j = 3 ∨ j = 4 ∨ j = 5) with rfl | rfl | rfl | rfl | rfl | rfl <;> rfl
/-- what a packet that is not full gives -/
theorem dec_eq {s rec g car old : Nat → Int32} {p a r : Nat} {d : Int32} (h8 : s (514 + 10 * p + 8) = nI r) (hr : r < 500) (hd : d = nI p - s (514 + 10 * p + 8)) (hrec : ∀ j, j < 6 → rec j = s (a + 1 + j)) (hcar : ∀ j, j < 4 → car j = carF s p j) (n0 : ¬ s (514 + 10 * p) = -1) (n3 : ¬ s (514 + 10 * p + 3) = -1) {j : Nat} (hj : j < 6) : addC car (putB (s (514 + 10 * p + 7)) d rec old) j = decF s p a d g j := by
  have hb : ∀ f, f < 4 → carF s p f = if f = 0 ∨ f = 3 then (if s (514 + 10 * p + f) = sbF s (s (514 + 10 * p + 7)) r d f then -1 else s (514 + 10 * p + f)) else (s (514 + 10 * p + f) - sbF s (s (514 + 10 * p + 7)) r d f).toInt16.toInt32 := fun f hf => by
    unfold carF
    rw [putC_at hf, h8, nIc hr, sb_eq (old := fun _ => 0) hf, hd, h8]
    rfl
  have hi : ∀ f, f < 4 → putB (s (514 + 10 * p + 7)) d rec old f = baseF (s (514 + 10 * p + 7)) (nI f) (s (a + 1 + f)) (if 1 ≤ f ∧ f ≤ 2 then s (a + 4 + f) else 0) d := fun f hf => by
    rw [putB_at (by omega), hrec 1 (by decide), hrec 2 (by decide), hrec 4 (by decide), hrec 5 (by decide), hrec f (by omega)]
    unfold baseF
    rcases (by omega : f = 0 ∨ f = 1 ∨ f = 2 ∨ f = 3) with rfl | rfl | rfl | rfl
    · rw [if_neg (fun z => absurd z.2 (by decide)), if_neg (fun z => absurd z.2 (by decide)), if_neg (fun z => absurd z.2.1 (by decide))]
    · by_cases g : s (514 + 10 * p + 7) = 2
      · rw [if_pos ⟨g, rfl⟩, if_pos ⟨g, by decide, by decide⟩]
        rfl
      · rw [if_neg (fun z => g z.1), if_neg (fun z => g z.1), if_neg (fun z => g z.1)]
    · by_cases g : s (514 + 10 * p + 7) = 2
      · rw [if_neg (fun z => absurd z.2 (by decide)), if_pos ⟨g, rfl⟩, if_pos ⟨g, by decide, by decide⟩]
        rfl
      · rw [if_neg (fun z => g z.1), if_neg (fun z => g z.1), if_neg (fun z => g z.1)]
    · rw [if_neg (fun z => absurd z.2 (by decide)), if_neg (fun z => absurd z.2 (by decide)), if_neg (fun z => absurd z.2.2 (by decide))]
  rw [addC_at hj]
  unfold decF
  by_cases g4 : j < 4
  · rw [upd_n (by omega), upd_n (by omega), decL_at, if_pos g4, hi j g4, hcar j g4, hb j g4]
    simp only [decV, h8, nIc hr]
    generalize baseF (s (514 + 10 * p + 7)) (nI j) (s (a + 1 + j)) (if 1 ≤ j ∧ j ≤ 2 then s (a + 4 + j) else 0) d = its
    generalize hm : sbF s (s (514 + 10 * p + 7)) r d j = mine
    have nn : (j = 0 ∨ j = 3) → ¬ s (514 + 10 * p + j) = -1 := by
      rintro (rfl | rfl)
      · exact n0
      · exact n3
    by_cases g : j = 0 ∨ j = 3
    · have g' : ¬ (1 ≤ j ∧ j ≤ 2) := by omega
      simp only [if_pos g, if_neg g']
      by_cases q : s (514 + 10 * p + j) = mine
      · simp [q]
      · simp [q, nn g]
    · have g' : 1 ≤ j ∧ j ≤ 2 := by omega
      have g2 : j = 1 ∨ j = 2 := by omega
      simp only [if_neg g, if_pos g', if_pos g2]
  · rw [if_neg (by omega), if_neg (by omega), putB_at hj, if_neg (fun z => by omega), if_neg (fun z => by omega), hrec j hj]
    rcases (by omega : j = 4 ∨ j = 5) with rfl | rfl
    · rw [upd_n (by decide), upd_s]
    · rw [upd_s]
/-! a packet comes: what the class' memory says -/
abbrev lateC (μ : qMM) (o p : Nat) : Nat → Int32 := upd (mI μ o) 7 (if mI μ o 7 < mI μ o 4 - nI p then mI μ o 4 - nI p else mI μ o 7)
abbrev M1 (μ : qMM) (o p : Nat) : qMM := wR μ o (lateC μ o p)
def numC (μ : qMM) (lg o p : Nat) : Int32 := if mI μ (lg + 1003) p = 0 then nI p else (mI μ o 4 - mI μ o 1 + 1) + (((nI p &&& 63) - (mI μ o 4 - mI μ o 1 + 1)) &&& 63)
/-- outcome i counted -/
abbrev M2 (ν : qMM) (o i : Nat) : qMM := wR ν (o + 1) (upd (mI ν (o + 1)) i (mI ν (o + 1) i + 1))
def RecC (μ : qMM) (o k : Nat) (s g : Nat → Int32) (p : Nat) (r : Int32) (μ' : qMM) : Prop := r = outF (lateF s p) g p ∧ Sm μ μ' ∧ RcR μ' o (recS s g p) ∧ LkR μ' k (recS s g p) 31 ∧ ∀ b, b ≠ k → b ≠ k + 1 → ¬ (o ≤ b ∧ b < o + 70) → mI μ' b = mI μ b
theorem late_at {s : Nat → Int32} {p j : Nat} (h : j ≠ 65) : lateF s p j = s j := upd_n h
theorem rec_base {μ : qMM} {lg o k p : Nat} {s : Nat → Int32} (h : ReP μ lg o k s p) : RcR (M1 μ o p) o (lateF s p) ∧ numC μ lg o p = xF (lateF s p) p ∧ mI μ (lg + 1003) p = s (514 + 10 * p + 7) ∧ mI μ (lg + 1004) p = s (514 + 10 * p + 8) := by
  obtain ⟨h0, hl, hd, hk, hR, hL, hkS, hkR, hN, ⟨H, hH, iv⟩, hp⟩ := h
  obtain ⟨⟨a1, a2, a3, a4, a5, a6, a7⟩, hb, hc⟩ := id hR
  obtain ⟨l1, l2, l3, l4, l5⟩ := hL p hp
  have e1 : mI (M1 μ o p) o = lateC μ o p := mI_wR_s
  have e2 : mI (M1 μ o p) (o + 1) = mI μ (o + 1) := mI_wR_n (by omega)
  have e3 : mI (M1 μ o p) (o + 3) = mI μ (o + 3) := mI_wR_n (by omega)
  refine ⟨?_, ?_, l3, l4⟩
  · unfold RcR
    rw [e1, e2, e3]
    unfold lateC
    refine ⟨⟨?_, ?_, ?_, ?_, ?_, ?_, ?_⟩, ?_, fun q hq => ?_⟩
    · rw [upd_n (by decide), late_at (by decide), a1]
    · rw [upd_n (by decide), late_at (by decide), a2]
    · rw [upd_n (by decide), late_at (by decide), a3]
    · rw [upd_n (by decide), late_at (by decide), a4]
    · rw [upd_n (by decide), late_at (by decide), a5]
    · rw [upd_n (by decide), late_at (by decide), a6]
    · rw [upd_s, a7, a4]
      unfold lateF
      rw [upd_s]
    · rw [late_at (by decide), late_at (by decide), late_at (by decide), late_at (by decide), late_at (by decide)]
      exact hb
    · rw [mI_wR_n (by omega), late_at (by omega)]
      refine ⟨(hc q hq).1, fun z j hj => ?_⟩
      rw [late_at (by omega)]
      exact (hc q hq).2 z j hj
  · unfold numC xF numF
    rw [l3, a4, a1, late_at (by omega), late_at (by decide), late_at (by decide)]
theorem rec_lk {μ ν : qMM} {lg o k p : Nat} {s t : Nat → Int32} (h : ReP μ lg o k s p) (e0 : mI ν k = mI μ k) (e1 : mI ν (k + 1) = mI μ (k + 1)) (ht : ∀ j, 31 ≤ j → j ≤ 51 → t j = s j) : LkR ν k t 31 := by
  obtain ⟨h0, hl, hd, hk, hR, hL, hkS, hkR, hN, ⟨H, hH, iv⟩, hp⟩ := h
  obtain ⟨b, hb, hb1, -⟩ := iv.2.2.1
  exact LkR_mem e0 e1 (LkR_congr hb1 hb (fun j a1 a2 => ht j a1 (by omega)) hkR)
theorem rec_a {μ : qMM} {lg o k p : Nat} {s g : Nat → Int32} (h : ReP μ lg o k s p) (hh : hasC μ o (numC μ lg o p)) : RecC μ o k s g p 3 (M2 (M1 μ o p) o 3) := by
  obtain ⟨hR, hx, hf, -⟩ := rec_base h
  have hd := h.2.2.2.1
  have hpl : ¬ placeF (lateF s p) (xF (lateF s p) p) = -1 := by
    rw [place_m1, Classical.not_not, ← has_iff hR, ← hx]
    unfold hasC
    rw [mI_wR_n (by omega)]
    exact hh
  have ho : outF (lateF s p) g p = 3 := by
    unfold outF
    rw [if_pos hpl]
  have hr : recS s g p = upd (lateF s p) 61 (lateF s p 61 + 1) := by
    show recS1 (lateF s p) g p = _
    unfold recS1
    rw [if_pos ho]
  have w1 : mI (M2 (M1 μ o p) o 3) o = mI (M1 μ o p) o := mI_wR_n (by omega)
  have w2 : mI (M2 (M1 μ o p) o 3) (o + 1) = upd (mI (M1 μ o p) (o + 1)) 3 (mI (M1 μ o p) (o + 1) 3 + 1) := mI_wR_s
  have w3 : ∀ b, b ≠ o + 1 → mI (M2 (M1 μ o p) o 3) b = mI (M1 μ o p) b := fun b hb => mI_wR_n hb
  have w4 : ∀ b, b ≠ o → b ≠ o + 1 → mI (M2 (M1 μ o p) o 3) b = mI μ b := fun b h1 h2 => by rw [mI_wR_n h2, mI_wR_n h1]
  have wS : Sm μ (M2 (M1 μ o p) o 3) := Sm_wR (Sm_wR Sm_refl)
  generalize M2 (M1 μ o p) o 3 = ν at *
  refine ⟨ho.symm, wS, ?_, ?_, fun b b1 b2 b3 => w4 b (by omega) (by omega)⟩
  · rw [hr]
    obtain ⟨ha, ⟨b1, b2, b3, b4, b5⟩, hc⟩ := hR
    unfold RcR
    rw [w1, w2, w3 (o + 3) (by omega)]
    refine ⟨?_, ⟨?_, ?_, ?_, ?_, ?_⟩, fun q hq => ?_⟩
    · rw [upd_n (by decide), upd_n (by decide), upd_n (by decide), upd_n (by decide), upd_n (by decide), upd_n (by decide), upd_n (by decide)]
      exact ha
    · rw [upd_n (by decide), upd_n (by decide), b1]
    · rw [upd_n (by decide), upd_n (by decide), b2]
    · rw [upd_n (by decide), upd_n (by decide), b3]
    · rw [upd_s, upd_s, b4]
    · rw [upd_n (by decide), upd_n (by decide), upd_n (by decide), b5]
    · rw [w3 _ (by omega), upd_n (by omega)]
      refine ⟨(hc q hq).1, fun z j hj => ?_⟩
      rw [upd_n (by omega)]
      exact (hc q hq).2 z j hj
  · refine rec_lk h (w4 _ (by omega) (by omega)) (w4 _ (by omega) (by omega)) (fun j a1 a2 => ?_)
    rw [hr, upd_n (by omega), late_at (by omega)]
/-- what missReference leaves -/
def missC (ν : qMM) (o k : Nat) : qMM := if mI ν o 5 + 1 < mI ν o 3 then wR ν o (upd (mI ν o) 5 (mI ν o 5 + 1)) else putK2 (wR ν o (upd (upd (mI ν o) 5 0) 6 (mI ν o 6 + 1))) k (-1)
theorem rec_b {μ : qMM} {lg o k p : Nat} {s g : Nat → Int32} (h : ReP μ lg o k s p) (hh : ¬ hasC μ o (numC μ lg o p)) (hf : ¬ mI μ (lg + 1003) p = 0) (h2 : ¬ hasC μ o (numC μ lg o p - (nI p - mI μ (lg + 1004) p))) : RecC μ o k s g p 2 (missC (M2 (M1 μ o p) o 2) o k) := by
  obtain ⟨hR, hx, hf1, hf2⟩ := rec_base h
  have hd := h.2.2.2.1
  have hm : ∀ x, hasC (M1 μ o p) o x = hasC μ o x := fun x => by
    unfold hasC
    rw [mI_wR_n (by omega)]
  have hpl : placeF (lateF s p) (xF (lateF s p) p) = -1 := by
    rw [place_m1, ← has_iff hR, ← hx, hm]
    exact hh
  have hpl2 : placeF (lateF s p) (xF (lateF s p) p - dF (lateF s p) p) = -1 := by
    rw [place_m1, ← has_iff hR, ← hx, hm]
    unfold dF
    rw [late_at (by omega), ← hf2]
    exact h2
  have ho : outF (lateF s p) g p = 2 := by
    unfold outF
    rw [if_neg (fun z => z hpl), if_pos ⟨by rw [late_at (by omega), ← hf1]; exact hf, hpl2⟩]
  have hr : recS s g p = failF (lateF s p) := by
    show recS1 (lateF s p) g p = _
    unfold recS1
    rw [if_neg (by rw [ho]; decide), if_pos ho]
  obtain ⟨H, hH, iv⟩ := h.2.2.2.2.2.2.2.2.2.1
  obtain ⟨b, hb, hb1, -⟩ := iv.2.2.1
  clear iv hH
  unfold RecC
  generalize ht : lateF s p = t at *
  have ht31 : ∀ j, j ≤ 51 → t j = s j := fun j hj => by rw [← ht]; exact late_at (by omega)
  obtain ⟨⟨a1, a2, a3, a4, a5, a6, a7⟩, ⟨b1, b2, b3, b4, b5⟩, hc⟩ := hR
  have w1 : mI (M2 (M1 μ o p) o 2) o = mI (M1 μ o p) o := mI_wR_n (by omega)
  have w2 : mI (M2 (M1 μ o p) o 2) (o + 1) = upd (mI (M1 μ o p) (o + 1)) 2 (mI (M1 μ o p) (o + 1) 2 + 1) := mI_wR_s
  have w3 : ∀ b, b ≠ o + 1 → mI (M2 (M1 μ o p) o 2) b = mI (M1 μ o p) b := fun b hb => mI_wR_n hb
  have w4 : ∀ b, b ≠ o → b ≠ o + 1 → mI (M2 (M1 μ o p) o 2) b = mI μ b := fun b h1 h2 => by rw [mI_wR_n h2, mI_wR_n h1]
  have wS : Sm μ (M2 (M1 μ o p) o 2) := Sm_wR (Sm_wR Sm_refl)
  generalize M2 (M1 μ o p) o 2 = ν at *
  refine ⟨ho.symm, ?_, ?_, ?_, fun b b1 b2 b3 => ?_⟩
  · unfold missC
    split
    · exact Sm_wR wS
    · exact Sm_putK2 (Sm_wR wS)
  · rw [hr]
    unfold missC failF
    simp only []
    have c56 : mI ν o 5 + 1 < mI ν o 3 ↔ upd (upd t 60 (t 60 + 1)) 56 (upd t 60 (t 60 + 1) 56 + 1) 56 < upd (upd t 60 (t 60 + 1)) 56 (upd t 60 (t 60 + 1) 56 + 1) 54 := by
      rw [upd_s, upd_n (by decide), upd_n (by decide), upd_n (by decide), w1, a5, a3]
    by_cases g1 : mI ν o 5 + 1 < mI ν o 3
    · rw [if_pos g1, if_pos (c56.mp g1)]
      unfold RcR
      rw [mI_wR_s, mI_wR_n (show o + 1 ≠ o by omega), mI_wR_n (show o + 3 ≠ o by omega), w1, w2, w3 (o + 3) (by omega)]
      refine ⟨⟨?_, ?_, ?_, ?_, ?_, ?_, ?_⟩, ⟨?_, ?_, ?_, ?_, ?_⟩, fun q hq => ?_⟩
      · rw [upd_n (by decide), upd_n (by decide), upd_n (by decide), a1]
      · rw [upd_n (by decide), upd_n (by decide), upd_n (by decide), a2]
      · rw [upd_n (by decide), upd_n (by decide), upd_n (by decide), a3]
      · rw [upd_n (by decide), upd_n (by decide), upd_n (by decide), a4]
      · rw [upd_s, upd_s, upd_n (by decide), a5]
      · rw [upd_n (by decide), upd_n (by decide), upd_n (by decide), a6]
      · rw [upd_n (by decide), upd_n (by decide), upd_n (by decide), a7]
      · rw [upd_n (by decide), upd_n (by decide), upd_n (by decide), b1]
      · rw [upd_n (by decide), upd_n (by decide), upd_n (by decide), b2]
      · rw [upd_s, upd_n (by decide), upd_s, b3]
      · rw [upd_n (by decide), upd_n (by decide), upd_n (by decide), b4]
      · rw [upd_n (by decide), upd_n (by decide), upd_n (by decide), upd_n (by decide), upd_n (by decide), upd_n (by decide), b5]
      · rw [upd_n (by omega), upd_n (by omega), mI_wR_n (show o + 5 + q ≠ o by omega), w3 (o + 5 + q) (by omega)]
        refine ⟨(hc q hq).1, fun z j hj => ?_⟩
        rw [upd_n (by omega), upd_n (by omega)]
        exact (hc q hq).2 z j hj
    · rw [if_neg g1, if_neg (fun z => g1 (c56.mpr z))]
      refine RcR_mem (μ := wR ν o (upd (upd (mI ν o) 5 0) 6 (mI ν o 6 + 1))) (fun b z1 z2 => putK2_o (by omega) (by omega)) ?_
      refine RcR_congr (s := upd (upd (upd (upd t 60 (t 60 + 1)) 56 (upd t 60 (t 60 + 1) 56 + 1)) 56 0) 62 (upd (upd (upd t 60 (t 60 + 1)) 56 (upd t 60 (t 60 + 1) 56 + 1)) 56 0 62 + 1)) (fun j j1 j2 j3 j4 => join_o (n := b) hb ?_ (Or.inr (by omega))) ?_
      · rw [upd_n (by decide), upd_n (by decide), upd_n (by decide), upd_n (by decide), ht31 31 (by decide), hb1]
      · unfold RcR
        rw [mI_wR_s, mI_wR_n (show o + 1 ≠ o by omega), mI_wR_n (show o + 3 ≠ o by omega), w1, w2, w3 (o + 3) (by omega)]
        refine ⟨⟨?_, ?_, ?_, ?_, ?_, ?_, ?_⟩, ⟨?_, ?_, ?_, ?_, ?_⟩, fun q hq => ?_⟩
        · rw [upd_n (by decide), upd_n (by decide), upd_n (by decide), upd_n (by decide), upd_n (by decide), upd_n (by decide), a1]
        · rw [upd_n (by decide), upd_n (by decide), upd_n (by decide), upd_n (by decide), upd_n (by decide), upd_n (by decide), a2]
        · rw [upd_n (by decide), upd_n (by decide), upd_n (by decide), upd_n (by decide), upd_n (by decide), upd_n (by decide), a3]
        · rw [upd_n (by decide), upd_n (by decide), upd_n (by decide), upd_n (by decide), upd_n (by decide), upd_n (by decide), a4]
        · rw [upd_n (by decide), upd_s, upd_n (by decide), upd_s]
        · rw [upd_s, upd_s, upd_n (by decide), upd_n (by decide), upd_n (by decide), a6]
        · rw [upd_n (by decide), upd_n (by decide), upd_n (by decide), upd_n (by decide), upd_n (by decide), upd_n (by decide), a7]
        · rw [upd_n (by decide), upd_n (by decide), upd_n (by decide), upd_n (by decide), upd_n (by decide), b1]
        · rw [upd_n (by decide), upd_n (by decide), upd_n (by decide), upd_n (by decide), upd_n (by decide), b2]
        · rw [upd_s, upd_n (by decide), upd_n (by decide), upd_n (by decide), upd_s, b3]
        · rw [upd_n (by decide), upd_n (by decide), upd_n (by decide), upd_n (by decide), upd_n (by decide), b4]
        · rw [upd_n (by decide), upd_n (by decide), upd_n (by decide), upd_n (by decide), upd_n (by decide), upd_n (by decide), upd_n (by decide), upd_n (by decide), upd_n (by decide), upd_n (by decide), upd_n (by decide), upd_n (by decide), b5]
        · rw [upd_n (by omega), upd_n (by omega), upd_n (by omega), upd_n (by omega), mI_wR_n (show o + 5 + q ≠ o by omega), w3 (o + 5 + q) (by omega)]
          refine ⟨(hc q hq).1, fun z j hj => ?_⟩
          rw [upd_n (by omega), upd_n (by omega), upd_n (by omega), upd_n (by omega)]
          exact (hc q hq).2 z j hj
  · rw [hr]
    unfold missC failF
    simp only []
    have c56 : mI ν o 5 + 1 < mI ν o 3 ↔ upd (upd t 60 (t 60 + 1)) 56 (upd t 60 (t 60 + 1) 56 + 1) 56 < upd (upd t 60 (t 60 + 1)) 56 (upd t 60 (t 60 + 1) 56 + 1) 54 := by
      rw [upd_s, upd_n (by decide), upd_n (by decide), upd_n (by decide), w1, a5, a3]
    by_cases g1 : mI ν o 5 + 1 < mI ν o 3
    · rw [if_pos g1, if_pos (c56.mp g1)]
      refine rec_lk h (by rw [mI_wR_n (by omega), w4 _ (by omega) (by omega)]) (by rw [mI_wR_n (by omega), w4 _ (by omega) (by omega)]) (fun j a1 a2 => ?_)
      rw [upd_n (by omega), upd_n (by omega), ht31 j (by omega)]
    · rw [if_neg g1, if_neg (fun z => g1 (c56.mpr z))]
      refine LkR_put (n := b) ?_ hb ?_
      · rw [upd_n (by decide), upd_n (by decide), upd_n (by decide), upd_n (by decide), ht31 31 (by decide), hb1]
      · refine rec_lk h (by rw [mI_wR_n (by omega), w4 _ (by omega) (by omega)]) (by rw [mI_wR_n (by omega), w4 _ (by omega) (by omega)]) (fun j a1 a2 => ?_)
        rw [upd_n (by omega), upd_n (by omega), upd_n (by omega), upd_n (by omega), ht31 j (by omega)]
  · unfold missC
    split
    · rw [mI_wR_n (by omega), w4 _ (by omega) (by omega)]
    · rw [putK2_o b1 b2, mI_wR_n (by omega), w4 _ (by omega) (by omega)]
/-- a packet is decoded: ν with the decoded row, counted; then kept -/
theorem rec_c {μ ν μ' : qMM} {lg o k p : Nat} {s g : Nat → Int32} {out : Int32} (h : ReP μ lg o k s p) (hh : ¬ hasC μ o (numC μ lg o p)) (h2 : mI μ (lg + 1003) p = 0 ∨ hasC μ o (numC μ lg o p - (nI p - mI μ (lg + 1004) p)))
    (n1 : Sm μ ν) (n2 : mI ν o = lateC μ o p) (n3 : mI ν (o + 69) = decC (M1 μ o p) lg o (nI p) (numC μ lg o p)) (n4 : ∀ b, b ≠ o → b ≠ o + 69 → mI ν b = mI μ b)
    (ho1 : out = if numC μ lg o p = nI p ∧ (mI ν (o + 69) 0 = mI μ (lg + 2 + p) 0 ∧ mI ν (o + 69) 1 = mI μ (lg + 2 + p) 1 ∧ mI ν (o + 69) 2 = mI μ (lg + 2 + p) 2 ∧ mI ν (o + 69) 3 = mI μ (lg + 2 + p) 3) then 0 else 1)
    (hq : QX2_keepDecoded o (numC μ lg o p) k (M2 ν o out.toNatClampNeg) μ') : RecC μ o k s g p out μ' := by
  obtain ⟨hR, hx, hf1, hf2⟩ := rec_base h
  obtain ⟨h0, hlg, hd, hk, hR0, hL, hkS, hkR, hN, ⟨H, hH, iv⟩, hp⟩ := id h
  have hm : ∀ x, hasC (M1 μ o p) o x = hasC μ o x := fun x => by
    unfold hasC
    rw [mI_wR_n (by omega)]
  have hpl : placeF (lateF s p) (xF (lateF s p) p) = -1 := by
    rw [place_m1, ← has_iff hR, ← hx, hm]
    exact hh
  have hpl2 : ¬ (¬ s (514 + 10 * p + 7) = 0 ∧ placeF (lateF s p) (xF (lateF s p) p - dF (lateF s p) p) = -1) := by
    rintro ⟨z1, z2⟩
    rw [place_m1, ← has_iff hR, ← hx, hm] at z2
    unfold dF at z2
    rw [late_at (by omega), ← hf2] at z2
    rcases h2 with q | q
    · exact z1 (hf1 ▸ q)
    · exact z2 q
  have iv' : Iv H (lateF s p) := Iv_late iv
  obtain ⟨n, hn, hn9, hpk, -⟩ := id iv.2.1
  have en : nOf s = n := by unfold nOf; rw [hn9, nI_clamp (by omega)]
  have hpn : p < n := by rw [← en]; exact hp
  have hp' : nI p < lateF s p 9 := by
    rw [late_at (by decide), hn9]
    exact (nI_ltI (by omega) (by omega)).mpr hpn
  obtain ⟨l1, l2, l3, l4, l5⟩ := hL p hp
  obtain ⟨hfm, np0, np3⟩ := hpk p hpn
  have hg : ∀ j, j < 6 → mI ν (o + 69) j = gotF (lateF s p) g p j := fun j hj => by
    rw [n3]
    unfold decC gotF
    rw [nI_clamp (show p < 2 ^ 31 by omega), mI_wR_n (show lg + 1003 ≠ o by omega), mI_wR_n (show lg + 2 + p ≠ o by omega), mI_wR_n (show o + 69 ≠ o by omega), mI_wR_n (show lg + 503 + p ≠ o by omega), late_at (show 514 + 10 * p + 7 ≠ 65 by omega), hf1]
    by_cases g0 : s (514 + 10 * p + 7) = 0
    · rw [if_pos g0, if_pos g0, cpyE, if_pos (by omega), cpyG_at 6 hj, late_at (by omega)]
      rw [show 0 + (j - 0) = j by omega]
      exact l1 j hj
    · rw [if_neg g0, if_neg g0]
      obtain ⟨hf3, r, hr1, hr2, hr3⟩ := hfm.resolve_left (fun z => g0 z.1)
      have hd1 : dstC (M1 μ o p) lg (nI p) = nI p - s (514 + 10 * p + 8) := by
        unfold dstC
        rw [nI_clamp (show p < 2 ^ 31 by omega), mI_wR_n (by omega), hf2]
      have hd2 : dF (lateF s p) p = nI p - s (514 + 10 * p + 8) := by
        unfold dF
        rw [late_at (by omega)]
      rw [hd1, hd2, hx]
      have hz : ¬ placeF (lateF s p) (xF (lateF s p) p - (nI p - s (514 + 10 * p + 8))) = -1 := fun z => hpl2 ⟨g0, by rw [hd2]; exact z⟩
      generalize hy : xF (lateF s p) p - (nI p - s (514 + 10 * p + 8)) = y at hz
      have hz2 := Classical.not_not.mp (fun q => hz (place_m1.mpr q))
      have hpy : placeF (lateF s p) y = nI (66 + 7 * slotOf y) := by
        unfold placeF
        rw [if_pos hz2]
      have hsl := slot_lt y
      rw [hpy, nI_clamp (by omega)]
      have ht := hR.2.2 _ hsl
      have hne : ¬ lateF s p (66 + 7 * slotOf y) = -1 := by
        rw [hz2.2]
        intro z
        rw [z] at hz2
        exact absurd hz2.1 (by decide)
      have e7 : s (514 + 10 * p + 7) = lateF s p (514 + 10 * p + 7) := (late_at (by omega)).symm
      rw [e7]
      refine dec_eq (r := r) (by rw [late_at (by omega), hr3]) (by omega) (by rw [late_at (by omega)]) (fun i hi => ?_) (fun i hi => ?_) (by rw [late_at (by omega)]; exact np0) (by rw [late_at (by omega)]; exact np3) hj
      · have := ht.2 hne i hi
        rw [mI_wR_n (by omega)] at this ⊢
        rw [this, show 66 + 7 * slotOf y + 1 + i = 67 + 7 * slotOf y + i by omega]
      · rw [l5 g0 i hi]
        exact (carF_congr hr3 (by omega) (fun q _ _ _ => late_at (by omega)) hi).symm
  have hout : outF (lateF s p) g p = out := by
    unfold outF
    rw [if_neg (fun z => z hpl), late_at (by omega), if_neg hpl2, right_iff, ho1, ← hx, hg 0 (by decide), hg 1 (by decide), hg 2 (by decide), hg 3 (by decide), l1 0 (by decide), l1 1 (by decide), l1 2 (by decide), l1 3 (by decide), late_at (show 514 + 10 * p ≠ 65 by omega), late_at (show 514 + 10 * p + 1 ≠ 65 by omega), late_at (show 514 + 10 * p + 2 ≠ 65 by omega), late_at (show 514 + 10 * p + 3 ≠ 65 by omega)]
    split
    · rename_i z
      rw [if_neg (by decide)]
      exact (if_pos z).symm
    · rename_i z
      rw [if_pos rfl]
      exact (if_neg z).symm
  have h3 : ¬ out = 3 := by
    rw [ho1]
    split <;> decide
  have h22 : ¬ out = 2 := by
    rw [ho1]
    split <;> decide
  have h01 : out = 0 ∨ out = 1 := by
    rw [ho1]
    split
    · exact Or.inl rfl
    · exact Or.inr rfl
  obtain ⟨X, hX, eX⟩ := rec_x (by omega) iv' hp' (by omega) (g := g) (by rw [hout]; exact h3) (by rw [hout]; exact h22)
  have hr : recS s g p = tellF (keepF (lateF s p) (gotF (lateF s p) g p) (nI X)) (nI X) out := by
    show recS1 (lateF s p) g p = _
    unfold recS1
    rw [if_neg (by rw [hout]; exact h3), if_neg (by rw [hout]; exact h22), hout, eX]
  obtain ⟨b, hb, hb1, -⟩ := iv.2.2.1
  have hxX : numC μ lg o p = nI X := by rw [hx, eX]
  rw [hxX] at hq
  have ivm : Iv (H + 15) (lateF s p) := Iv_mono (by omega) iv'
  obtain ⟨hh0, hh1, hh2, hw, h55⟩ := keep_h hX (by omega) ivm.2.2.2.1
  obtain ⟨k1, k2, k3, k4⟩ := keep_at (g := gotF (lateF s p) g p) hw (by omega) (by omega)
  have ivc := ivm.2.2.2.1
  have ht31 : ∀ j, j ≤ 51 → lateF s p j = s j := fun j hj => late_at (by omega)
  unfold RecC
  have m1o : mI (M1 μ o p) o = lateC μ o p := mI_wR_s
  have m1n : ∀ b, b ≠ o → mI (M1 μ o p) b = mI μ b := fun b h => mI_wR_n h
  generalize M1 μ o p = ω at *
  generalize gotF (lateF s p) g p = G at *
  generalize lateF s p = t at *
  obtain ⟨⟨a1, a2, a3, a4, a5, a6, a7⟩, ⟨b1, b2, b3, b4, b5⟩, hc⟩ := hR
  have w1 : mI (M2 ν o out.toNatClampNeg) o = mI ω o := by rw [mI_wR_n (by omega), n2, m1o]
  have w2 : mI (M2 ν o out.toNatClampNeg) (o + 1) = upd (mI ω (o + 1)) out.toNatClampNeg (mI ω (o + 1) out.toNatClampNeg + 1) := by rw [mI_wR_s, n4 _ (by omega) (by omega), m1n _ (by omega)]
  have w3 : ∀ b, b ≠ o → b ≠ o + 1 → b ≠ o + 69 → mI (M2 ν o out.toNatClampNeg) b = mI μ b := fun b h1 h2 h3 => by rw [mI_wR_n h2, n4 b h1 h3]
  have w4 : mI (M2 ν o out.toNatClampNeg) (o + 69) = mI ν (o + 69) := mI_wR_n (by omega)
  have wS : Sm μ (M2 ν o out.toNatClampNeg) := Sm_wR n1
  generalize M2 ν o out.toNatClampNeg = ζ at *
  obtain ⟨ξ, x1, x2, x3, x4, x5, x6⟩ := hq
  have ex1 : topC ζ o (nI X) = nI hh0 := by
    unfold topC
    rw [w1, a4]
    exact hw
  rw [ex1, w1] at x2
  rw [ex1] at x3 x4
  have hsx : slotOf (nI X) = X % 64 := slot_nI X (by omega)
  have hsub := sub64 (h := hh0) (x := X) (by omega) (by omega)
  -- the state behind the counts
  obtain ⟨T, eT⟩ : ∃ T, T = upd (if out = 0 then upd (upd (keepF t G (nI X)) 57 (keepF t G (nI X) 57 + 1)) 58 (upd (keepF t G (nI X)) 57 (keepF t G (nI X) 57 + 1) 58 + 1) else upd (upd (keepF t G (nI X)) 57 (keepF t G (nI X) 57 + 1)) 59 (upd (keepF t G (nI X)) 57 (keepF t G (nI X) 57 + 1) 59 + 1)) 56 0 := ⟨_, rfl⟩
  have eTell : tellF (keepF t G (nI X)) (nI X) out = if T 57 - T 57 / T 53 * T 53 = 0 then joinF 31 (nI X) T else T := by
    rw [eT]
    rfl
  have q57 : T 57 = t 57 + 1 := by
    rw [eT, upd_n (by decide)]
    split <;> rw [upd_n (by decide), upd_s, k4 57 (by omega)]
  have q58 : T 58 = if out = 0 then t 58 + 1 else t 58 := by
    rw [eT, upd_n (by decide)]
    split
    · rw [upd_s, upd_n (by decide), k4 58 (by omega)]
    · rw [upd_n (by decide), upd_n (by decide), k4 58 (by omega)]
  have q59 : T 59 = if out = 0 then t 59 else t 59 + 1 := by
    rw [eT, upd_n (by decide)]
    split
    · rw [upd_n (by decide), upd_n (by decide), k4 59 (by omega)]
    · rw [upd_s, upd_n (by decide), k4 59 (by omega)]
  have q56 : T 56 = 0 := by rw [eT, upd_s]
  have qo : ∀ j, j ≠ 56 → j ≠ 57 → j ≠ 58 → j ≠ 59 → T j = keepF t G (nI X) j := fun j j1 j2 j3 j4 => by
    rw [eT, upd_n j1]
    split
    · rw [upd_n j3, upd_n j2]
    · rw [upd_n j4, upd_n j2]
  have qt : ∀ j, j ≠ 56 → j ≠ 57 → j ≠ 58 → j ≠ 59 → (j < 66 ∧ j ≠ 55) ∨ 514 ≤ j → T j = t j := fun j j1 j2 j3 j4 j5 => by rw [qo j j1 j2 j3 j4, k4 j j5]
  clear eT
  have c0 : mI ζ (o + 1) 0 = T 58 := by
    rw [w2, q58]
    rcases h01 with z | z
    · rw [z, if_pos rfl, show (0 : Int32).toNatClampNeg = 0 from rfl, upd_s, b1]
    · rw [z, if_neg (by decide), show (1 : Int32).toNatClampNeg = 1 from rfl, upd_n (by decide), b1]
  have c1 : mI ζ (o + 1) 1 = T 59 := by
    rw [w2, q59]
    rcases h01 with z | z
    · rw [z, if_pos rfl, show (0 : Int32).toNatClampNeg = 0 from rfl, upd_n (by decide), b2]
    · rw [z, if_neg (by decide), show (1 : Int32).toNatClampNeg = 1 from rfl, upd_s, b2]
  have c2 : mI ζ (o + 1) 2 = T 60 := by
    rw [w2, qt 60 (by decide) (by decide) (by decide) (by decide) (by decide)]
    rcases h01 with z | z
    · rw [z, show (0 : Int32).toNatClampNeg = 0 from rfl, upd_n (by decide), b3]
    · rw [z, show (1 : Int32).toNatClampNeg = 1 from rfl, upd_n (by decide), b3]
  have c3 : mI ζ (o + 1) 3 = T 61 := by
    rw [w2, qt 61 (by decide) (by decide) (by decide) (by decide) (by decide)]
    rcases h01 with z | z
    · rw [z, show (0 : Int32).toNatClampNeg = 0 from rfl, upd_n (by decide), b4]
    · rw [z, show (1 : Int32).toNatClampNeg = 1 from rfl, upd_n (by decide), b4]
  have c57 : T 57 = T 58 + T 59 := by
    rw [q57, q58, q59, b5]
    split
    · rw [Int32.add_assoc, Int32.add_assoc, Int32.add_comm (t 59) 1]
    · rw [Int32.add_assoc]
  have hRc : RcR ξ o T := by
    unfold RcR
    rw [x2, x5 (o + 1) (by omega) (by omega) (by omega)]
    refine ⟨⟨?_, ?_, ?_, ?_, ?_, ?_, ?_⟩, ⟨c0, c1, c2, c3, c57⟩, fun q hq => ?_⟩
    · rw [upd_n (by decide), upd_n (by decide), a1, qt 52 (by decide) (by decide) (by decide) (by decide) (by decide)]
    · rw [upd_n (by decide), upd_n (by decide), a2, qt 53 (by decide) (by decide) (by decide) (by decide) (by decide)]
    · rw [upd_n (by decide), upd_n (by decide), a3, qt 54 (by decide) (by decide) (by decide) (by decide) (by decide)]
    · rw [upd_n (by decide), upd_s, qo 55 (by decide) (by decide) (by decide) (by decide), k1]
    · rw [upd_s, q56]
    · rw [upd_n (by decide), upd_n (by decide), a6, qt 62 (by decide) (by decide) (by decide) (by decide) (by decide)]
    · rw [upd_n (by decide), upd_n (by decide), a7, qt 65 (by decide) (by decide) (by decide) (by decide) (by decide)]
    · rw [qo _ (by omega) (by omega) (by omega) (by omega), k2 q hq, x3 q hq, x4 q hq, hsx, w3 (o + 3) (by omega) (by omega) (by omega), w3 (o + 5 + q) (by omega) (by omega) (by omega), w1, a4, w4]
      have hcq := hc q hq
      rw [m1n (o + 3) (by omega), m1n (o + 5 + q) (by omega)] at hcq
      rw [hcq.1]
      by_cases g1 : hh0 < X + 64 ∧ q = X % 64
      · rw [if_pos ⟨hsub.1.mpr g1.1, g1.2⟩, if_pos g1, if_pos ⟨hsub.1.mpr g1.1, g1.2⟩]
        refine ⟨rfl, fun _ j hj => ?_⟩
        rw [qo _ (by omega) (by omega) (by omega) (by omega), k3 q j hq hj, if_pos g1, cpyE, if_pos (by omega), show 0 + (j - 0) = j by omega]
        exact hg j hj
      · have g2 : ¬ (nI hh0 - 64 < nI X ∧ q = X % 64) := fun z => g1 ⟨hsub.1.mp z.1, z.2⟩
        rw [if_neg g2, if_neg g1, if_neg g2]
        -- what is too low
        have hgone : gone t (nI hh0) q → (t 55 < nI X ∧ t (66 + 7 * q) ≤ nI X - 64) := by
          rintro ⟨z1, z2⟩
          rcases ivc with ⟨i1, i2⟩ | ⟨i0, i1, i2, i3⟩
          · exact absurd (i2 q hq) z1
          · rcases i3 q hq with z | ⟨y, y1, y2, y3, y4⟩
            · exact absurd z z1
            · rw [y4] at z2
              have z3 := (sub64 (h := hh0) (x := y) (by omega) (by omega)).2.mp z2
              by_cases g4 : t 55 < nI X
              · rw [if_pos g4] at hw
                refine ⟨g4, ?_⟩
                rw [y4, hw]
                exact z2
              · exfalso
                rw [if_neg g4, i2] at hw
                have := (nI_eq (by omega) (by omega)).mp hw
                omega
        have hstay : ¬ gone t (nI hh0) q → (if t 55 < nI X ∧ t (66 + 7 * q) ≤ nI X - 64 then -1 else t (66 + 7 * q)) = t (66 + 7 * q) := by
          intro z
          by_cases g3 : t 55 < nI X ∧ t (66 + 7 * q) ≤ nI X - 64
          · rw [if_pos g3]
            rw [if_pos g3.1] at hw
            by_cases g4 : t (66 + 7 * q) = -1
            · exact g4.symm
            · exact absurd ⟨g4, by rw [← hw]; exact g3.2⟩ z
          · rw [if_neg g3]
        by_cases g3 : gone t (nI hh0) q
        · rw [if_pos (hgone g3), if_pos g3]
          exact ⟨rfl, fun z => absurd rfl z⟩
        · rw [hstay g3, if_neg g3]
          refine ⟨rfl, fun z j hj => ?_⟩
          rw [qo _ (by omega) (by omega) (by omega) (by omega), k3 q j hq hj, if_neg g1, if_neg g3]
          exact hcq.2 z j hj
  have ht31' : ∀ j, j ≤ 51 → T j = s j := fun j hj => by rw [qt j (by omega) (by omega) (by omega) (by omega) (Or.inl ⟨by omega, by omega⟩), ht31 j hj]
  have hcond : ((mI ζ (o + 1) 0 + mI ζ (o + 1) 1) - (mI ζ (o + 1) 0 + mI ζ (o + 1) 1) / mI ζ o 2 * mI ζ o 2 = 0) ↔ (T 57 - T 57 / T 53 * T 53 = 0) := by
    rw [c0, c1, c57, w1, a2, qt 53 (by decide) (by decide) (by decide) (by decide) (by decide)]
  have hξ : ∀ b, ¬ (o ≤ b ∧ b < o + 70) → mI ξ b = mI μ b := fun b hb => by rw [x5 b (by omega) (by omega) (by omega), w3 b (by omega) (by omega) (by omega)]
  have hLk : LkR ξ k T 31 := rec_lk h (hξ _ (by omega)) (hξ _ (by omega)) (fun j j1 j2 => ht31' j (by omega))
  refine ⟨hout.symm, ?_, ?_, ?_, fun b b1 b2 b3 => ?_⟩
  · rw [x6]
    split
    · exact Sm_putK2 (Sm_trans wS x1)
    · exact Sm_trans wS x1
  · rw [hr, eTell, x6]
    by_cases gc : T 57 - T 57 / T 53 * T 53 = 0
    · rw [if_pos gc, if_pos (hcond.mpr gc)]
      refine RcR_mem (μ := ξ) (fun b z1 z2 => putK2_o (by omega) (by omega)) ?_
      exact RcR_congr (s := T) (fun j j1 j2 j3 j4 => join_o (n := b) hb (by rw [ht31' 31 (by decide), hb1]) (Or.inr (by omega))) hRc
    · rw [if_neg gc, if_neg (fun z => gc (hcond.mp z))]
      exact hRc
  · rw [hr, eTell, x6]
    by_cases gc : T 57 - T 57 / T 53 * T 53 = 0
    · rw [if_pos gc, if_pos (hcond.mpr gc)]
      exact LkR_put (n := b) (by rw [ht31' 31 (by decide), hb1]) hb hLk
    · rw [if_neg gc, if_neg (fun z => gc (hcond.mp z))]
      exact hLk
  · rw [x6]
    split
    · rw [putK2_o b1 b2, hξ b b3]
    · exact hξ b b3
