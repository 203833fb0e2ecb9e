/-! ===== what always holds of the reference's state ===== -/
def Pk (s : Nat → Int32) (p : Nat) : Prop := ((s (514 + 10 * p + 7) = 0 ∧ s (514 + 10 * p + 8) = -1) ∨ ((s (514 + 10 * p + 7) = 1 ∨ s (514 + 10 * p + 7) = 2) ∧ ∃ r : Nat, r < p ∧ p ≤ r + 15 ∧ s (514 + 10 * p + 8) = nI r)) ∧ ¬ s (514 + 10 * p) = -1 ∧ ¬ s (514 + 10 * p + 3) = -1
def IvA (s : Nat → Int32) : Prop := ∃ n : Nat, n ≤ 500 ∧ s 9 = nI n ∧ (∀ p, p < n → Pk s p) ∧ ∃ f : Nat, f ≤ 20 ∧ s 10 = nI f ∧ ∀ i, i < f → ∃ p : Nat, p < n ∧ s (11 + i) = nI p
def IvB (H : Nat) (s : Nat → Int32) : Prop := ∃ b : Nat, b ≤ 20 ∧ s 31 = nI b ∧ ∀ i, i < b → s (32 + i) = -1 ∨ ∃ x : Nat, x ≤ H ∧ s (32 + i) = nI x
def IvK (s : Nat → Int32) (h k : Nat) : Prop := s (66 + 7 * k) = -1 ∨ ∃ x : Nat, x % 64 = k ∧ x ≤ h ∧ h < x + 64 ∧ s (66 + 7 * k) = nI x
def IvC (H : Nat) (s : Nat → Int32) : Prop := (s 55 = -1 ∧ ∀ k, k < 64 → s (66 + 7 * k) = -1) ∨ ∃ h : Nat, h ≤ H ∧ s 55 = nI h ∧ ∀ k, k < 64 → IvK s h k
def IvD (s : Nat → Int32) : Prop := (∃ d : Nat, d ≤ 15 ∧ s 52 = nI d) ∧ (∃ v : Nat, 1 ≤ v ∧ v ≤ 16 ∧ s 53 = nI v) ∧ (s 6 = 0 ∨ s 6 = 1 ∨ s 6 = 2) ∧ (s 8 = 0 ∨ s 8 = 1) ∧ ¬ s 0 = -1 ∧ ¬ s 3 = -1
def Iv (H : Nat) (s : Nat → Int32) : Prop := 500 ≤ H ∧ IvA s ∧ IvB H s ∧ IvC H s ∧ IvD s
theorem Iv_mono {H H' : Nat} {s : Nat → Int32} (h : H ≤ H') (i : Iv H s) : Iv H' s := by
  obtain ⟨h0, ha, ⟨b, hb, hb1, hb2⟩, hc, hd⟩ := i
  refine ⟨by omega, ha, ⟨b, hb, hb1, fun i hi => ?_⟩, ?_, hd⟩
  · rcases hb2 i hi with q | ⟨x, hx, hq⟩
    · exact Or.inl q
    · exact Or.inr ⟨x, by omega, hq⟩
  · rcases hc with q | ⟨x, hx, hq⟩
    · exact Or.inl q
    · exact Or.inr ⟨x, by omega, hq⟩
theorem Pk_congr {s t : Nat → Int32} {p : Nat} (h0 : t (514 + 10 * p) = s (514 + 10 * p)) (h3 : t (514 + 10 * p + 3) = s (514 + 10 * p + 3)) (h7 : t (514 + 10 * p + 7) = s (514 + 10 * p + 7)) (h8 : t (514 + 10 * p + 8) = s (514 + 10 * p + 8)) (i : Pk s p) : Pk t p := by
  unfold Pk
  rw [h0, h3, h7, h8]
  exact i
theorem IvA_congr {s t : Nat → Int32} (h : ∀ j, 9 ≤ j ∧ j ≤ 30 → t j = s j) (h2 : ∀ p, p < 500 → t (514 + 10 * p) = s (514 + 10 * p) ∧ t (514 + 10 * p + 3) = s (514 + 10 * p + 3) ∧ t (514 + 10 * p + 7) = s (514 + 10 * p + 7) ∧ t (514 + 10 * p + 8) = s (514 + 10 * p + 8)) (i : IvA s) : IvA t := by
  obtain ⟨n, hn, h9, hp, f, hf, h10, hi⟩ := i
  refine ⟨n, hn, by rw [h 9 (by omega), h9], fun p hq => ?_, f, hf, by rw [h 10 (by omega), h10], fun i hq => ?_⟩
  · obtain ⟨a0, a3, a7, a8⟩ := h2 p (by omega)
    exact Pk_congr a0 a3 a7 a8 (hp p hq)
  · rw [h (11 + i) (by omega)]
    exact hi i hq
theorem IvB_congr {H : Nat} {s t : Nat → Int32} (h : ∀ j, 31 ≤ j ∧ j ≤ 51 → t j = s j) (i : IvB H s) : IvB H t := by
  obtain ⟨b, hb, hb1, hb2⟩ := i
  refine ⟨b, hb, by rw [h 31 (by omega), hb1], fun i hi => ?_⟩
  rw [h (32 + i) (by omega)]
  exact hb2 i hi
theorem IvC_congr {H : Nat} {s t : Nat → Int32} (h : t 55 = s 55) (h2 : ∀ k, k < 64 → t (66 + 7 * k) = s (66 + 7 * k)) (i : IvC H s) : IvC H t := by
  rcases i with ⟨q, q2⟩ | ⟨x, hx, hq, q2⟩
  · exact Or.inl ⟨by rw [h, q], fun k hk => by rw [h2 k hk]; exact q2 k hk⟩
  · refine Or.inr ⟨x, hx, by rw [h, hq], fun k hk => ?_⟩
    unfold IvK
    rw [h2 k hk]
    exact q2 k hk
theorem IvD_congr {s t : Nat → Int32} (h : ∀ j, j = 0 ∨ j = 3 ∨ j = 6 ∨ j = 8 ∨ j = 52 ∨ j = 53 → t j = s j) (i : IvD s) : IvD t := by
  unfold IvD
  rw [h 0 (by omega), h 3 (by omega), h 6 (by omega), h 8 (by omega), h 52 (by omega), h 53 (by omega)]
  exact i
/-- the places of which nothing is said -/
def irr (j : Nat) : Prop := j = 1 ∨ j = 2 ∨ j = 4 ∨ j = 5 ∨ j = 7 ∨ j = 54 ∨ (56 ≤ j ∧ j ≤ 65) ∨ ∃ p : Nat, j = 514 + 10 * p + 9
theorem irr_p {p w : Nat} (h : w = 0 ∨ w = 3 ∨ w = 7 ∨ w = 8) : ¬ irr (514 + 10 * p + w) := by
  rintro (q | q | q | q | q | q | q | ⟨p', q⟩) <;> omega
theorem irr_n {j : Nat} (h : j = 0 ∨ j = 3 ∨ j = 6 ∨ (8 ≤ j ∧ j ≤ 53) ∨ j = 55 ∨ (66 ≤ j ∧ j < 514)) : ¬ irr j := by
  rintro (q | q | q | q | q | q | q | ⟨p', q⟩) <;> omega
theorem Iv_congr {H : Nat} {s t : Nat → Int32} (h : ∀ j, ¬ irr j → t j = s j) (i : Iv H s) : Iv H t := by
  obtain ⟨h0, ha, hb, hc, hd⟩ := i
  refine ⟨h0, IvA_congr (fun j hj => h j (irr_n (by omega))) (fun p hp => ⟨h _ (irr_p (w := 0) (by simp)), h _ (irr_p (by simp)), h _ (irr_p (by simp)), h _ (irr_p (by simp))⟩) ha, IvB_congr (fun j hj => h j (irr_n (by omega))) hb, IvC_congr (h _ (irr_n (by omega))) (fun k hk => h _ (irr_n (by omega))) hc, IvD_congr (fun j hj => h j (irr_n (by omega))) hd⟩
theorem upd_n {f : Nat → Int32} {k j : Nat} {x : Int32} (h : j ≠ k) : upd f k x j = f j := by rw [updE, if_neg h]
theorem upd_s {f : Nat → Int32} {k : Nat} {x : Int32} : upd f k x k = x := by rw [updE, if_pos rfl]
theorem Iv_upd {H : Nat} {s : Nat → Int32} {k : Nat} {x : Int32} (hk : irr k) (i : Iv H s) : Iv H (upd s k x) :=
  Iv_congr (fun j hj => upd_n (fun z => hj (z ▸ hk))) i
theorem irr_r {k : Nat} (h : 56 ≤ k ∧ k ≤ 65) : irr k := by
  unfold irr
  omega
/-! links -/
theorem join_o {k j : Nat} {v : Int32} {s : Nat → Int32} {n : Nat} (hn : n ≤ 20) (h : s k = nI n) (hj : j < k ∨ k + 20 < j) : joinF k v s j = s j := by
  unfold joinF
  split
  · rename_i g
    rw [h] at g
    have : n < 20 := (nI_ltI (b := 20) (by omega) (by decide)).mp g
    have e : (s k + 1).toNatClampNeg = n + 1 := by
      rw [h, nI_1, nI_clamp (by omega)]
    rw [e, upd_n (by omega), upd_n (by omega)]
  · rfl
theorem join_in {k : Nat} {v : Int32} {s : Nat → Int32} {n : Nat} (hn : n < 20) (h : s k = nI n) : joinF k v s k = nI (n + 1) ∧ joinF k v s (k + (n + 1)) = v ∧ ∀ i, i < n → joinF k v s (k + 1 + i) = s (k + 1 + i) := by
  have g : s k < 20 := by
    rw [h]
    exact (nI_ltI (b := 20) (by omega) (by decide)).mpr hn
  have e : (s k + 1).toNatClampNeg = n + 1 := by
    rw [h, nI_1, nI_clamp (by omega)]
  unfold joinF
  rw [if_pos g, e]
  refine ⟨?_, upd_s, fun i hi => ?_⟩
  · rw [upd_n (by omega), upd_s, h, nI_1]
  · rw [upd_n (by omega), upd_n (by omega)]
theorem join_full {k : Nat} {v : Int32} {s : Nat → Int32} (h : s k = nI 20) : joinF k v s = s := by
  unfold joinF
  rw [h, if_neg (by decide)]
theorem IvB_join {H : Nat} {s : Nat → Int32} {v : Int32} (hv : v = -1 ∨ ∃ x : Nat, x ≤ H ∧ v = nI x) (i : IvB H s) : IvB H (joinF 31 v s) := by
  obtain ⟨b, hb, hb1, hb2⟩ := i
  by_cases g : b < 20
  · obtain ⟨e1, e2, e3⟩ := join_in (v := v) g hb1
    refine ⟨b + 1, by omega, e1, fun i hi => ?_⟩
    by_cases q : i < b
    · have := e3 i q
      rw [show 31 + 1 + i = 32 + i by omega] at this
      rw [this]
      exact hb2 i q
    · have : 32 + i = 31 + (b + 1) := by omega
      rw [this, e2]
      exact hv
  · have : b = 20 := by omega
    subst this
    rw [join_full hb1]
    exact ⟨20, hb, hb1, hb2⟩
theorem Iv_join31 {H : Nat} {s : Nat → Int32} {v : Int32} (hv : v = -1 ∨ ∃ x : Nat, x ≤ H ∧ v = nI x) (i : Iv H s) : Iv H (joinF 31 v s) := by
  obtain ⟨h0, ha, hb, hc, hd⟩ := i
  obtain ⟨b, hb0, hb1, hb2⟩ := id hb
  have o : ∀ j, j < 31 ∨ 51 < j → joinF 31 v s j = s j := fun j hj => join_o hb0 hb1 (by omega)
  exact ⟨h0, IvA_congr (fun j hj => o j (by omega)) (fun p hp => ⟨o _ (by omega), o _ (by omega), o _ (by omega), o _ (by omega)⟩) ha, IvB_join hv hb, IvC_congr (o _ (by omega)) (fun k hk => o _ (by omega)) hc, IvD_congr (fun j hj => o j (by omega)) hd⟩
theorem IvA_join {s : Nat → Int32} {p : Nat} (hp : nI p < s 9) (hp2 : p < 2 ^ 31) (i : IvA s) : IvA (joinF 10 (nI p) s) := by
  obtain ⟨n, hn, h9, hk, f, hf, h10, hi⟩ := i
  rw [h9] at hp
  have hp := (nI_ltI hp2 (by omega)).mp hp
  by_cases g : f < 20
  · obtain ⟨e1, e2, e3⟩ := join_in (v := nI p) g h10
    have o : ∀ j, j < 10 ∨ 30 < j → joinF 10 (nI p) s j = s j := fun j hj => join_o hf h10 (by omega)
    refine ⟨n, hn, by rw [o 9 (by omega), h9], fun q hq => Pk_congr (o _ (by omega)) (o _ (by omega)) (o _ (by omega)) (o _ (by omega)) (hk q hq), f + 1, by omega, e1, fun i hi' => ?_⟩
    by_cases q : i < f
    · have := e3 i q
      rw [show 10 + 1 + i = 11 + i by omega] at this
      rw [this]
      exact hi i q
    · have : 11 + i = 10 + (f + 1) := by omega
      rw [this, e2]
      exact ⟨p, hp, rfl⟩
  · have : f = 20 := by omega
    subst this
    rw [join_full h10]
    exact ⟨n, hn, h9, hk, 20, hf, h10, hi⟩
theorem Iv_join10 {H : Nat} {s : Nat → Int32} {p : Nat} (hp : nI p < s 9) (hp2 : p < 2 ^ 31) (i : Iv H s) : Iv H (joinF 10 (nI p) s) := by
  obtain ⟨h0, ha, hb, hc, hd⟩ := i
  obtain ⟨n, hn, h9, hk, f, hf, h10, hi⟩ := id ha
  have o : ∀ j, j < 10 ∨ 30 < j → joinF 10 (nI p) s j = s j := fun j hj => join_o hf h10 (by omega)
  exact ⟨h0, IvA_join hp hp2 ha, IvB_congr (fun j hj => o j (by omega)) hb, IvC_congr (o _ (by omega)) (fun k hk => o _ (by omega)) hc, IvD_congr (fun j hj => o j (by omega)) hd⟩
theorem take_in {s : Nat → Int32} {k n i : Nat} (hn : n ≤ 20) (h : s k = nI n) (hi : i < n) : takeF s k i k = nI (n - 1) ∧ ∀ j, j < n - 1 → takeF s k i (k + 1 + j) = s (k + 1 + (if j < i then j else j + 1)) := by
  unfold takeF
  rw [h, nI_clamp (by omega)]
  refine ⟨?_, fun j hj => ?_⟩
  · rw [if_pos rfl]
    show nI n - nI 1 = _
    exact pk_sub (by omega)
  · rw [if_neg (by omega)]
    by_cases g : j < i
    · rw [if_neg (by omega), if_neg (by omega), if_pos g]
    · rw [if_pos (by omega), if_neg g]
      congr 1
theorem Iv_take10 {H : Nat} {s : Nat → Int32} {n i : Nat} (h : s 10 = nI n) (hn : n ≤ 20) (hi : i < n) (iv : Iv H s) : Iv H (takeF s 10 i) := by
  obtain ⟨h0, ⟨m, hm, h9, hk, f, hf, h10, hl⟩, hb, hc, hd⟩ := iv
  have : f = n := (nI_eq (by omega) (by omega)).mp (h10.symm.trans h)
  subst this
  have o : ∀ j, j < 10 ∨ 30 < j → takeF s 10 i j = s j := fun j hj => take_o (by rw [h, nI_clamp (by omega)]; omega)
  obtain ⟨e1, e2⟩ := take_in hf h10 hi
  refine ⟨h0, ⟨m, hm, by rw [o 9 (by omega), h9], fun q hq => Pk_congr (o _ (by omega)) (o _ (by omega)) (o _ (by omega)) (o _ (by omega)) (hk q hq), f - 1, by omega, e1, fun j hj => ?_⟩, IvB_congr (fun j hj => o j (by omega)) hb, IvC_congr (o _ (by omega)) (fun k hk => o _ (by omega)) hc, IvD_congr (fun j hj => o j (by omega)) hd⟩
  have := e2 j hj
  rw [show 10 + 1 + j = 11 + j by omega] at this
  rw [this]
  exact hl _ (by split <;> omega)
theorem Iv_take31 {H : Nat} {s : Nat → Int32} {n i : Nat} (h : s 31 = nI n) (hn : n ≤ 20) (hi : i < n) (iv : Iv H s) : Iv H (takeF s 31 i) := by
  obtain ⟨h0, ha, ⟨b, hb, hb1, hb2⟩, hc, hd⟩ := iv
  have : b = n := (nI_eq (by omega) (by omega)).mp (hb1.symm.trans h)
  subst this
  have o : ∀ j, j < 31 ∨ 51 < j → takeF s 31 i j = s j := fun j hj => take_o (by rw [h, nI_clamp (by omega)]; omega)
  obtain ⟨e1, e2⟩ := take_in hb hb1 hi
  refine ⟨h0, IvA_congr (fun j hj => o j (by omega)) (fun p hp => ⟨o _ (by omega), o _ (by omega), o _ (by omega), o _ (by omega)⟩) ha, ⟨b - 1, by omega, e1, fun j hj => ?_⟩, IvC_congr (o _ (by omega)) (fun k hk => o _ (by omega)) hc, IvD_congr (fun j hj => o j (by omega)) hd⟩
  have := e2 j hj
  rw [show 31 + 1 + j = 32 + j by omega] at this
  rw [this]
  exact hb2 _ (by split <;> omega)
theorem Iv_fail {H : Nat} {s : Nat → Int32} (i : Iv H s) : Iv H (failF s) := by
  have h1 : Iv H (upd (upd s 60 (s 60 + 1)) 56 (upd s 60 (s 60 + 1) 56 + 1)) := Iv_upd (irr_r (by decide)) (Iv_upd (irr_r (by decide)) i)
  simp only [failF]
  split
  · exact h1
  · exact Iv_join31 (Or.inl rfl) (Iv_upd (irr_r (by decide)) (Iv_upd (irr_r (by decide)) h1))

