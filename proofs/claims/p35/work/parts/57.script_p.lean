/-! ===== bodies: the script ===== -/
theorem vp50 {n : Nat} (h : n < 50) : vp_in (nI n) 50 := vp_in_nI h (by decide)
theorem dg_yes {t : Nat → Int32} {n b : Nat} (hb : b < n) (h : 48 ≤ t b ∧ t b ≤ 57) : dgF t n b = t b - 48 ∧ ¬ dgF t n b = -1 := by
  have e : dgF t n b = t b - 48 := by
    unfold dgF
    rw [if_pos ⟨hb, h.1, h.2⟩]
  refine ⟨e, ?_⟩
  rw [e]
  intro z
  have : t b = -1 + 48 := by rw [← z, Int32.sub_add_cancel]
  rw [this] at h
  exact absurd h.1 (by decide)
theorem dg_no {t : Nat → Int32} {n b : Nat} (h : ¬ (b < n ∧ 48 ≤ t b ∧ t b ≤ 57)) : dgF t n b = -1 := by
  unfold dgF
  rw [if_neg h]
theorem sem_2 {t : Nat → Int32} {n a : Nat} (h : ordG t n a) : a + 2 ≤ ordA t n a := by
  have := sem_gt (t := t) (n := n) (a := a)
  unfold ordA
  rw [if_pos h]
  omega
theorem OrU_add {μ ν : qMM} {o : Nat} {c v : Int32} (h : OrU μ ν o) : OrU μ (addO ν o c v) o := by
  obtain ⟨h1, h2, h3⟩ := h
  refine ⟨Sm_wR (Sm_wR (Sm_wR h1)), fun b b1 b2 b3 => ?_, fun j hj => ?_⟩
  · unfold addO
    rw [mI_wR_n b1, mI_wR_n b3, mI_wR_n b2, h2 b b1 b2 b3]
  · unfold addO
    rw [mI_wR_s, upd_n hj, h3 j hj]
theorem OrR_add {ν : qMM} {o : Nat} {c v : Int32} {l : List (Int32 × Int32)} (hl : l.length < 50) (h : OrR ν o l) : OrR (addO ν o c v) o (l ++ [(c, v)]) := by
  obtain ⟨h1, h2⟩ := h
  unfold OrR addO
  rw [mI_wR_s, upd_s, mI_wR_n (show o + 2 ≠ o by omega), mI_wR_n (show o + 2 ≠ o + 3 by omega), mI_wR_s, mI_wR_n (show o + 3 ≠ o by omega), mI_wR_s, h1, nI_clamp (by omega), nI_1]
  refine ⟨by simp, fun i c' v' hi => ?_⟩
  rcases Nat.lt_or_ge i l.length with g | g
  · rw [List.getElem?_append_left g] at hi
    rw [upd_n (by omega), upd_n (by omega)]
    exact h2 i c' v' hi
  · rw [List.getElem?_append_right g] at hi
    have : i = l.length := by
      rcases Nat.eq_or_lt_of_le g with e | e
      · exact e.symm
      · have : i - l.length = (i - l.length - 1) + 1 := by omega
        rw [this] at hi
        simp at hi
    subst this
    rw [Nat.sub_self] at hi
    simp at hi
    rw [upd_s, upd_s]
    exact hi