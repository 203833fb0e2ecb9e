/-! ===== bodies: the reference's calls within ===== -/
theorem inL_idx {s : Nat → Int32} {k n : Nat} {i : Int32} (hn : n ≤ 20) (h : s k = nI n) (hi : inL s k i) : ∃ j : Nat, j < n ∧ i = nI j := by
  obtain ⟨h1, h2⟩ := hi
  rw [h] at h2
  have e : (nI n - 1).toInt = (n : Int) - 1 := by
    show (nI n - nI 1).toInt = _
    rw [pk_sub_toInt (by omega) (by decide)]
    rfl
  have h1' : (0 : Int) ≤ i.toInt := by
    have := Int32.le_iff_toInt_le.mp h1
    simpa using this
  have h2' := Int32.le_iff_toInt_le.mp h2
  rw [e] at h2'
  refine ⟨i.toInt.toNat, by omega, ?_⟩
  apply Int32.toInt_inj.mp
  rw [nI_toInt (by omega)]
  omega
theorem take_o {s : Nat → Int32} {k i j : Nat} (h : j < k ∨ k + (s k).toNatClampNeg < j) : takeF s k i j = s j := by
  unfold takeF
  rcases h with h | h
  · rw [if_neg (by omega), if_neg (by omega), if_neg (by omega)]
  · rw [if_neg (by omega), if_neg (by omega), if_neg (by omega)]
theorem keep_o {s g : Nat → Int32} {x : Int32} {j : Nat} (h : j < 66) (h2 : j ≠ 55) : keepF s g x j = s j := by
  have hz : ∀ (t : Nat → Int32) (a k : Nat), 66 ≤ a → zeroL t a k j = t j := by
    intro t a k ha
    induction k with
    | zero => unfold zeroL upd; rw [if_neg (by omega)]
    | succ k ih => unfold zeroL upd; rw [if_neg (by omega), ih]
  have hd : ∀ (t : Nat → Int32) (k : Nat), dropL t k j = t j := by
    intro t k
    induction k with
    | zero => rfl
    | succ k ih =>
      unfold dropL
      split
      · rw [hz _ _ _ (by omega), ih]
      · exact ih
  have hr : ∀ (t : Nat → Int32) (a k : Nat), 66 ≤ a → putR t g a k j = t j := by
    intro t a k ha
    induction k with
    | zero => rfl
    | succ k ih => unfold putR upd; rw [if_neg (by omega), ih]
  simp only [keepF]
  generalize (if s 55 < x then x else s 55) = w
  split
  · rw [hr _ _ _ (by omega), updE, if_neg (by omega), hd, updE, if_neg h2]
  · rw [hd, updE, if_neg h2]
theorem place_ex {s : Nat → Int32} {x : Int32} (h : ¬ placeF s x = -1) : ∃ a : Nat, placeF s x = nI a ∧ a = 66 + 7 * slotOf x ∧ a + 6 < 5514 := by
  have := slot_lt x
  unfold placeF at h ⊢
  by_cases g : 0 ≤ x ∧ s (66 + 7 * slotOf x) = x
  · rw [if_pos g]
    exact ⟨_, rfl, rfl, by omega⟩
  · rw [if_neg g] at h
    exact absurd rfl h
