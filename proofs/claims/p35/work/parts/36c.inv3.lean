/-! ===== what is sent ===== -/
theorem putH_at {s : Nat → Int32} {n j : Nat} : ∀ k, k ≤ 4 → putH s n k j = if 514 + 10 * n ≤ j ∧ j < 514 + 10 * n + k then s (j - (514 + 10 * n)) else s j
  | 0, _ => by unfold putH; rw [if_neg (by omega)]
  | k + 1, hk => by
    have ih := fun q => putH_at (s := s) (n := n) (j := q) k (by omega)
    unfold putH
    by_cases h : j = 514 + 10 * n + k
    · subst h
      rw [upd_s, ih, if_neg (by omega), if_pos (by omega)]
      congr 1
      omega
    · rw [upd_n h, ih]
      by_cases h2 : 514 + 10 * n ≤ j ∧ j < 514 + 10 * n + k
      · rw [if_pos h2, if_pos (by omega)]
      · rw [if_neg h2, if_neg (by omega)]
theorem putK_at {t : Nat → Int32} {n r j : Nat} {form : Int32} (hr : form = 0 ∨ r < n) : ∀ k, k ≤ 2 → putK t n form r k j = if 514 + 10 * n + 4 ≤ j ∧ j < 514 + 10 * n + 4 + k then (if form = 0 then t (j - (514 + 10 * n)) else t (514 + 10 * r + (j - (514 + 10 * n)))) else t j
  | 0, _ => by unfold putK; rw [if_neg (by omega)]
  | k + 1, hk => by
    have ih := fun q => putK_at (t := t) (n := n) (j := q) hr k (by omega)
    unfold putK
    by_cases h : j = 514 + 10 * n + (4 + k)
    · subst h
      rw [upd_s, if_pos (show 514 + 10 * n + 4 ≤ 514 + 10 * n + (4 + k) ∧ 514 + 10 * n + (4 + k) < 514 + 10 * n + 4 + (k + 1) by omega)]
      have e : 514 + 10 * n + (4 + k) - (514 + 10 * n) = 4 + k := by omega
      rw [e]
      by_cases g : form = 0
      · rw [if_pos g, if_pos g, ih, if_neg (by omega)]
      · have := hr.resolve_left g
        rw [if_neg g, if_neg g, ih, if_neg (by omega)]
    · rw [upd_n h, ih]
      by_cases h2 : 514 + 10 * n + 4 ≤ j ∧ j < 514 + 10 * n + 4 + k
      · rw [if_pos h2, if_pos (show 514 + 10 * n + 4 ≤ j ∧ j < 514 + 10 * n + 4 + (k + 1) by omega)]
      · rw [if_neg h2, if_neg (show ¬ (514 + 10 * n + 4 ≤ j ∧ j < 514 + 10 * n + 4 + (k + 1)) by omega)]
theorem send_at {s : Nat → Int32} {n : Nat} {ref form size : Int32} (h9 : s 9 = nI n) (hr : form = 0 ∨ ref.toNatClampNeg < n) :
    (∀ j, j < 4 → sendG s n ref form size (514 + 10 * n + j) = s j) ∧ (∀ j, j < 2 → sendG s n ref form size (514 + 10 * n + (4 + j)) = if form = 0 then s (4 + j) else s (514 + 10 * ref.toNatClampNeg + (4 + j))) ∧ sendG s n ref form size (514 + 10 * n + 6) = size ∧ sendG s n ref form size (514 + 10 * n + 7) = form ∧ sendG s n ref form size (514 + 10 * n + 8) = (if form = 0 then -1 else ref) ∧ sendG s n ref form size (514 + 10 * n + 9) = 0 ∧ sendG s n ref form size 8 = 0 ∧ sendG s n ref form size 64 = s 64 + size ∧ sendG s n ref form size 63 = s 63 + (if form = 0 then 1 else 0) ∧ sendG s n ref form size 9 = nI (n + 1) ∧ ∀ j, j ≠ 8 → j ≠ 9 → j ≠ 63 → j ≠ 64 → (j < 514 + 10 * n ∨ 514 + 10 * n + 10 ≤ j) → sendG s n ref form size j = s j := by
  have k2 := fun j => putK_at (t := putH s n 4) (n := n) (r := ref.toNatClampNeg) (j := j) hr 2 (by decide)
  have k1 := fun j => putH_at (s := s) (n := n) (j := j) 4 (by decide)
  simp only [sendG, sendT]
  refine ⟨fun j hj => ?_, fun j hj => ?_, ?_, ?_, ?_, ?_, ?_, ?_, ?_, ?_, fun j a1 a2 a3 a4 a5 => ?_⟩
  · rw [upd_n (by omega), upd_n (by omega), upd_n (by omega), upd_n (by omega), upd_n (by omega), upd_n (by omega), upd_n (by omega), upd_n (by omega), k2, if_neg (by omega), k1, if_pos (by omega)]
    congr 1
    omega
  · rw [upd_n (by omega), upd_n (by omega), upd_n (by omega), upd_n (by omega), upd_n (by omega), upd_n (by omega), upd_n (by omega), upd_n (by omega), k2, if_pos (by omega)]
    have e : 514 + 10 * n + (4 + j) - (514 + 10 * n) = 4 + j := by omega
    rw [e]
    by_cases g : form = 0
    · rw [if_pos g, if_pos g, k1, if_neg (by omega)]
    · have := hr.resolve_left g
      rw [if_neg g, if_neg g, k1, if_neg (by omega)]
  · rw [upd_n (by omega), upd_n (by omega), upd_n (by omega), upd_n (by omega), upd_n (by omega), upd_n (by omega), upd_n (by omega), upd_s]
  · rw [upd_n (by omega), upd_n (by omega), upd_n (by omega), upd_n (by omega), upd_n (by omega), upd_n (by omega), upd_s]
  · rw [upd_n (by omega), upd_n (by omega), upd_n (by omega), upd_n (by omega), upd_n (by omega), upd_s]
  · rw [upd_n (by omega), upd_n (by omega), upd_n (by omega), upd_n (by omega), upd_s]
  · rw [upd_n (by omega), upd_n (by omega), upd_n (by omega), upd_s]
  · rw [upd_n (by omega), upd_n (by omega), upd_s, upd_n (by omega), upd_n (by omega), upd_n (by omega), upd_n (by omega), upd_n (by omega), k2, if_neg (by omega), k1, if_neg (by omega)]
  · rw [upd_n (by omega), upd_s, upd_n (by omega), upd_n (by omega), upd_n (by omega), upd_n (by omega), upd_n (by omega), upd_n (by omega), k2, if_neg (by omega), k1, if_neg (by omega)]
  · rw [upd_s, upd_n (by omega), upd_n (by omega), upd_n (by omega), upd_n (by omega), upd_n (by omega), upd_n (by omega), upd_n (by omega), k2, if_neg (by omega), k1, if_neg (by omega), h9, nI_1]
  · rw [upd_n (by omega), upd_n (by omega), upd_n (by omega), upd_n (by omega), upd_n (by omega), upd_n (by omega), upd_n (by omega), upd_n (by omega), k2, if_neg (by omega), k1, if_neg (by omega)]
theorem ref_ok {s : Nat → Int32} {n : Nat} (h9 : s 9 = nI n) (hn : n ≤ 500) : nOf s = n ∧ (refF s = -1 ∨ ∃ r : Nat, r < n ∧ n ≤ r + 15 ∧ refF s = nI r) ∧ (formF s = 0 ∨ (formF s = s 6 ∧ ¬ refF s = -1)) := by
  have e : nOf s = n := by
    unfold nOf
    rw [h9, nI_clamp (by omega)]
  refine ⟨e, ?_, ?_⟩
  · rcases trust_r (ackF s) (s 7) (nOf s) (nOf s) with h | ⟨m, h3, h4, h5⟩
    · exact Or.inl h
    · rw [e] at h3 h4
      exact Or.inr ⟨m, h3, by omega, h5⟩
  · unfold formF
    by_cases g : refF s = -1 ∨ s 8 = 1
    · rw [if_pos g]
      exact Or.inl rfl
    · rw [if_neg g]
      exact Or.inr ⟨rfl, fun z => g (Or.inl z)⟩
theorem Iv_send {H : Nat} {s : Nat → Int32} {n : Nat} (h9 : s 9 = nI n) (hn : n < 500) (iv : Iv H s) : Iv H (sendF s) := by
  obtain ⟨h0, ⟨n', hn', h9', hk, f, hf, h10, hi⟩, hb, hc, hd1, hd2, hd3, hd4, hd5, hd6⟩ := iv
  have : n' = n := (nI_eq (by omega) (by omega)).mp (h9'.symm.trans h9)
  subst this
  obtain ⟨e1, e2, e3⟩ := ref_ok h9 (by omega)
  have hr : formF s = 0 ∨ (refF s).toNatClampNeg < n' := by
    rcases e3 with h | ⟨-, h⟩
    · exact Or.inl h
    · obtain ⟨r, hr, -, h⟩ := e2.resolve_left h
      right
      rw [h, nI_clamp (by omega)]
      exact hr
  obtain ⟨a1, a2, a3, a4, a5, a6, a7, a8, a9, a10, a11⟩ := send_at (size := sizeF s (formF s) (refF s)) h9 hr
  unfold sendF
  rw [e1]
  apply Iv_join10
  · rw [a10]
    exact (nI_ltI (by omega) (by omega)).mpr (by omega)
  · omega
  · refine ⟨h0, ⟨n' + 1, by omega, a10, fun p hp => ?_, f, hf, by rw [a11 10 (by decide) (by decide) (by decide) (by decide) (by omega), h10], fun i hi' => ?_⟩, IvB_congr (fun j hj => a11 j (by omega) (by omega) (by omega) (by omega) (by omega)) hb, IvC_congr (a11 _ (by omega) (by omega) (by omega) (by omega) (by omega)) (fun k hk => a11 _ (by omega) (by omega) (by omega) (by omega) (by omega)) hc, ?_⟩
    · by_cases g : p < n'
      · exact Pk_congr (a11 _ (by omega) (by omega) (by omega) (by omega) (by omega)) (a11 _ (by omega) (by omega) (by omega) (by omega) (by omega)) (a11 _ (by omega) (by omega) (by omega) (by omega) (by omega)) (a11 _ (by omega) (by omega) (by omega) (by omega) (by omega)) (hk p g)
      · have : p = n' := by omega
        subst this
        have b0 := a1 0 (by decide)
        rw [Nat.add_zero] at b0
        unfold Pk
        rw [b0, a1 3 (by decide), a4, a5]
        refine ⟨?_, hd5, hd6⟩
        by_cases g0 : formF s = 0
        · rw [if_pos g0]
          exact Or.inl ⟨g0, rfl⟩
        · rw [if_neg g0]
          obtain ⟨g1, g2⟩ := e3.resolve_left g0
          right
          refine ⟨?_, ?_⟩
          · rw [g1] at g0 ⊢
            rcases hd3 with z | z | z
            · exact absurd z g0
            · exact Or.inl z
            · exact Or.inr z
          · exact e2.resolve_left g2
    · rw [a11 _ (by omega) (by omega) (by omega) (by omega) (by omega)]
      obtain ⟨p, hp, hq⟩ := hi i hi'
      exact ⟨p, by omega, hq⟩
    · refine ⟨?_, ?_, ?_, Or.inl a7, ?_, ?_⟩
      · rw [a11 _ (by omega) (by omega) (by omega) (by omega) (by omega)]; exact hd1
      · rw [a11 _ (by omega) (by omega) (by omega) (by omega) (by omega)]; exact hd2
      · rw [a11 _ (by omega) (by omega) (by omega) (by omega) (by omega)]; exact hd3
      · rw [a11 _ (by omega) (by omega) (by omega) (by omega) (by omega)]; exact hd5
      · rw [a11 _ (by omega) (by omega) (by omega) (by omega) (by omega)]; exact hd6
theorem Iv_goes {H : Nat} {s : Nat → Int32} (iv : Iv H s) : Iv H (goesF s) :=
  Iv_upd (by unfold irr; omega) (Iv_upd (by unfold irr; omega) iv)
theorem Iv_hear {H : Nat} {s : Nat → Int32} {v : Int32} (iv : Iv H s) : Iv H (hearF s v) := by
  unfold hearF
  split
  · obtain ⟨h0, ha, hb, hc, hd1, hd2, hd3, hd4, hd5, hd6⟩ := iv
    have o : ∀ j, j ≠ 8 → upd s 8 1 j = s j := fun j hj => upd_n hj
    refine ⟨h0, IvA_congr (fun j hj => o j (by omega)) (fun p hp => ⟨o _ (by omega), o _ (by omega), o _ (by omega), o _ (by omega)⟩) ha, IvB_congr (fun j hj => o j (by omega)) hb, IvC_congr (o _ (by omega)) (fun k hk => o _ (by omega)) hc, ?_⟩
    unfold IvD
    rw [o 52 (by omega), o 53 (by omega), o 6 (by omega), o 0 (by omega), o 3 (by omega), upd_s]
    exact ⟨hd1, hd2, hd3, Or.inr rfl, hd5, hd6⟩
  · split
    · exact Iv_upd (Or.inr (Or.inr (Or.inr (Or.inr (Or.inr (Or.inr (Or.inr ⟨_, rfl⟩))))))) iv
    · exact iv
theorem Iv_rcv {H p : Nat} {s : Nat → Int32} (iv : Iv H s) (hp : nI p < s 9) (hp2 : p < 2 ^ 31) : p < 500 ∧ rcvOK s p := by
  obtain ⟨h0, ⟨n, hn, h9, hk, -⟩, ⟨b, hb, hb1, -⟩, hc, hd1, ⟨v, hv1, hv2, hv⟩, -⟩ := iv
  rw [h9] at hp
  have hp := (nI_ltI hp2 (by omega)).mp hp
  refine ⟨by omega, ⟨b, hb, hb1⟩, ?_, ?_⟩
  · rw [hv]
    exact nI_ne0 (by omega) (by omega)
  · rcases (hk p hp).1 with ⟨z, -⟩ | ⟨-, r, hr1, hr2, hr⟩
    · exact Or.inl z
    · exact Or.inr ⟨r, by omega, hr⟩
theorem Iv_dlv {H : Nat} {s : Nat → Int32} (iv : Iv H s) : dlvOK s := by
  obtain ⟨h0, ⟨n, hn, h9, hk, f, hf, h10, hi⟩, -⟩ := id iv
  refine ⟨f, hf, h10, fun i hi' => ?_⟩
  obtain ⟨p, hp, hq⟩ := hi i hi'
  obtain ⟨z1, z2⟩ := Iv_rcv iv (p := p) (by rw [h9]; exact (nI_ltI (by omega) (by omega)).mpr hp) (by omega)
  exact ⟨p, z1, hq, z2⟩
theorem Iv_bak {H : Nat} {s : Nat → Int32} (hH : H < 2 ^ 31) (iv : Iv H s) : bakOK s := by
  obtain ⟨h0, ⟨n, hn, h9, hk, f, hf, h10, hi⟩, ⟨b, hb, hb1, hb2⟩, -⟩ := iv
  refine ⟨⟨n, hn, h9⟩, b, hb, hb1, fun i hi => ?_⟩
  rcases hb2 i hi with z | ⟨x, hx, z⟩
  · exact Or.inl z
  · exact Or.inr ⟨x, by omega, z⟩

