/-! ===== bodies: the reference's sender and receiver ===== -/
theorem ll0 : (0 ≤ 4) = True := eq_true (by decide)
theorem ll1 : (0 + 1 ≤ 4) = True := eq_true (by decide)
theorem ll2 : (0 + 1 + 1 ≤ 4) = True := eq_true (by decide)
theorem ll3 : (0 + 1 + 1 + 1 ≤ 4) = True := eq_true (by decide)
theorem ll4 : (0 + 1 + 1 + 1 + 1 ≤ 4) = True := eq_true (by decide)
theorem one0 : ((1 : Int32) = 0) = False := eq_false (by decide)
theorem trust_r (ack : Nat → Int32) (c : Int32) (n : Nat) : ∀ k : Nat, trust ack c n k = -1 ∨ ∃ m, m < k ∧ n - m ≤ 15 ∧ trust ack c n k = nI m
  | 0 => Or.inl rfl
  | m + 1 => by
    unfold trust
    by_cases h1 : n - m ≤ 15
    · rw [if_pos h1]
      by_cases h2 : ack m = 1 ∨ (0 < c ∧ c ≤ nI (n - m))
      · rw [if_pos h2]
        exact Or.inr ⟨m, by omega, h1, rfl⟩
      · rw [if_neg h2]
        rcases trust_r ack c n m with h | ⟨m', h3, h4, h5⟩
        · exact Or.inl h
        · exact Or.inr ⟨m', by omega, h4, h5⟩
    · rw [if_neg h1]
      exact Or.inl rfl
theorem nI_m1 {n : Nat} (h : n < 2 ^ 31) : ¬ nI n = -1 := fun q => by
  have := nI_pos h
  rw [q] at this
  exact this (by decide)
theorem f12 {f : Nat} (h : f < 4) : ((1 : Int32) ≤ nI f ∧ nI f ≤ 2) ↔ (1 ≤ f ∧ f ≤ 2) := by
  have a1 : (1 : Int32) ≤ nI f ↔ 1 ≤ f := nI_leI (a := 1) (by decide) (by omega)
  have a2 : nI f ≤ 2 ↔ f ≤ 2 := nI_leI (b := 2) (by omega) (by decide)
  rw [a1, a2]
theorem shf_step {s : Nat → Int32} {k i j : Nat} (h : i ≤ j) : upd (shF s k i j) (k + 1 + j) (shF s k i j (k + 2 + j)) = shF s k i (j + 1) := by
  funext q
  unfold upd shF
  by_cases h1 : q = k + 1 + j
  · subst h1
    rw [if_pos rfl, if_neg (by omega), if_neg (by omega), if_neg (by omega), if_pos (by omega)]
    congr 1
    omega
  · rw [if_neg h1]
    by_cases h2 : q = k
    · rw [if_pos h2, if_pos h2]
    · rw [if_neg h2, if_neg h2]
      have : (k + 1 + i ≤ q ∧ q < k + 1 + j) ↔ (k + 1 + i ≤ q ∧ q < k + 1 + (j + 1)) := by omega
      by_cases h3 : k + 1 + i ≤ q ∧ q < k + 1 + j
      · rw [if_pos h3, if_pos (this.mp h3)]
      · rw [if_neg h3, if_neg (fun z => h3 (this.mpr z))]
theorem shf_zero {s : Nat → Int32} {k i : Nat} : upd s k (s k - 1) = shF s k i i := by
  funext q
  unfold upd shF
  by_cases h1 : q = k
  · simp [h1]
  · rw [if_neg h1, if_neg h1, if_neg (by omega)]
theorem shf_end {s : Nat → Int32} {k i n : Nat} (hn : n < 100) (hi : i < n) (h : s k = nI n) : upd (shF s k i (n - 1)) (k + n) 0 = takeF s k i := by
  funext q
  unfold upd shF takeF
  rw [h, nI_clamp (by omega)]
  by_cases h1 : q = k + n
  · subst h1
    rw [if_pos rfl, if_neg (by omega), if_neg (by omega), if_pos rfl]
  · rw [if_neg h1, if_neg h1]
    have : (k + 1 + i ≤ q ∧ q < k + 1 + (n - 1)) ↔ (k + 1 + i ≤ q ∧ q < k + n) := by omega
    by_cases h3 : k + 1 + i ≤ q ∧ q < k + 1 + (n - 1)
    · rw [if_pos h3, if_pos (this.mp h3)]
    · rw [if_neg h3, if_neg (fun z => h3 (this.mpr z))]
theorem dropL_55 {s : Nat → Int32} : ∀ k, k ≤ 64 → dropL s k 55 = s 55
  | 0, _ => rfl
  | k + 1, h => by
    have hz : ∀ (t : Nat → Int32) (a j : Nat), 56 ≤ a → zeroL t a j 55 = t 55 := by
      intro t a j ha
      induction j with
      | zero => unfold zeroL upd; rw [if_neg (by omega)]
      | succ j ih => unfold zeroL upd; rw [if_neg (by omega), ih]
    unfold dropL
    split
    · rw [hz _ _ _ (by omega), dropL_55 k (by omega)]
    · exact dropL_55 k (by omega)
theorem vp6 {n : Nat} (h : n < 6) : vp_in (nI n) 6 := vp_in_nI h (by decide)
