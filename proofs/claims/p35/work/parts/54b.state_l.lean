/-! ===== a State, in the reference's words ===== -/
theorem SnR_mem {μ μ' : qMM} {o : Nat} {s : Nat → Int32} (h : ∀ b, o ≤ b → b < o + 3 → mI μ' b = mI μ b) (r : SnR μ o s) : SnR μ' o s := by
  unfold SnR
  rw [h o (by omega) (by omega), h (o + 1) (by omega) (by omega), h (o + 2) (by omega) (by omega)]
  exact r
theorem SnR_congr {μ : qMM} {o : Nat} {s t : Nat → Int32} (h : ∀ j, (j < 10 ∨ j = 63 ∨ j = 64) → t j = s j) (ha : ∀ p, p < nOf s → t (514 + 10 * p + 9) = s (514 + 10 * p + 9)) (r : SnR μ o s) : SnR μ o t := by
  obtain ⟨a1, a2, a3, a4, a5, a6, a7, a8⟩ := r
  have en : nOf t = nOf s := by unfold nOf; rw [h 9 (by omega)]
  refine ⟨fun j hj => ?_, ?_, ?_, ?_, ?_, ?_, ?_, fun p hp => ?_⟩
  · rw [h j (by omega)]; exact a1 j hj
  · rw [h 6 (by omega)]; exact a2
  · rw [h 7 (by omega)]; exact a3
  · rw [h 8 (by omega)]; exact a4
  · rw [h 9 (by omega)]; exact a5
  · rw [h 63 (by omega)]; exact a6
  · rw [h 64 (by omega)]; exact a7
  · rw [en] at hp
    rw [ha p hp]
    exact a8 p hp
theorem LgR_keep {μ μ' : qMM} {lg : Nat} {s t : Nat → Int32} (hA : IvA s) (h9 : t 9 = s 9) (hj : ∀ p, p < nOf s → ∀ j, j < 9 → t (514 + 10 * p + j) = s (514 + 10 * p + j)) (hU : ∀ p, p < nOf s → mI μ' (lg + 2 + p) = mI μ (lg + 2 + p) ∧ mI μ' (lg + 503 + p) = mI μ (lg + 503 + p) ∧ mI μ' (lg + 1003) p = mI μ (lg + 1003) p ∧ mI μ' (lg + 1004) p = mI μ (lg + 1004) p ∧ mI μ' (lg + 1005) p = mI μ (lg + 1005) p) (r : LgR μ lg s) : LgR μ' lg t := by
  intro p hp
  have en : nOf t = nOf s := by unfold nOf; rw [h9]
  rw [en] at hp
  obtain ⟨l1, l2, l3, l4, l5⟩ := r p hp
  obtain ⟨u1, u2, u3, u4, u5⟩ := hU p hp
  obtain ⟨n, hn, hn9, hpk, -⟩ := hA
  have e2 : nOf s = n := by unfold nOf; rw [hn9, nI_clamp (by omega)]
  refine ⟨fun j hj' => ?_, ?_, ?_, ?_, fun hf j hj' => ?_⟩
  · rw [u1, hj p hp j (by omega)]
    exact l1 j hj'
  · rw [u5, hj p hp 6 (by decide)]
    exact l2
  · rw [u3, hj p hp 7 (by decide)]
    exact l3
  · rw [u4, hj p hp 8 (by decide)]
    exact l4
  · rw [hj p hp 7 (by decide)] at hf
    rw [u2]
    rcases (hpk p (by rw [← e2]; exact hp)).1 with ⟨z, -⟩ | ⟨-, q, hq1, hq2, hq3⟩
    · exact absurd z hf
    · rw [l5 hf j hj']
      refine (carF_congr hq3 (by omega) (fun k hk k1 k2 => ?_) hj').symm
      rcases hk with hk | hk
      · have := hj p hp (k - (514 + 10 * p)) (by omega)
        rwa [show 514 + 10 * p + (k - (514 + 10 * p)) = k by omega] at this
      · have := hj q (by omega) (k - (514 + 10 * q)) (by omega)
        rwa [show 514 + 10 * q + (k - (514 + 10 * q)) = k by omega] at this
theorem Sm_mS {μ μ' : qMM} (h : Sm μ μ') (b : Nat) : mS μ' b = mS μ b := by
  obtain ⟨F, rfl⟩ := h
  exact mS_wA
theorem Sm_mN {μ μ' : qMM} (h : Sm μ μ') : mN μ' = mN μ := by
  obtain ⟨F, rfl⟩ := h
  exact mN_wA
theorem StS_Sm {μ μ' : qMM} {lg o : Nat} (h : Sm μ μ') (r : StS μ lg o) : StS μ' lg o := by
  obtain ⟨F, rfl⟩ := h
  exact r
theorem LgS_Sm {μ μ' : qMM} {lg : Nat} (h : Sm μ μ') (r : LgS μ lg) : LgS μ' lg := by
  obtain ⟨F, rfl⟩ := h
  exact r
theorem SeS_Sm {μ μ' : qMM} {lg o : Nat} (h : Sm μ μ') (r : SeS μ lg o) : SeS μ' lg o := by
  obtain ⟨F, rfl⟩ := h
  exact r
theorem ReS_Sm {μ μ' : qMM} {lg o : Nat} (h : Sm μ μ') (r : ReS μ lg o) : ReS μ' lg o := by
  obtain ⟨F, rfl⟩ := h
  exact r
theorem LkS_Sm {μ μ' : qMM} {o : Nat} (h : Sm μ μ') (r : LkS μ o) : LkS μ' o := by
  obtain ⟨F, rfl⟩ := h
  exact r
/-- a change inside a State, the log and the packets as they were -/
theorem StQ_of {μ μ' : qMM} {lg o H : Nat} {s t : Nat → Int32} (hP : StP μ lg o H s) (hS : Sm μ μ') (hb : ∀ b, ¬ (o ≤ b ∧ b < o + 80) → mI μ' b = mI μ b) (hC : CsR μ' o t) (h9 : t 9 = s 9) (hj : ∀ p, p < nOf s → ∀ j, j < 9 → t (514 + 10 * p + j) = s (514 + 10 * p + j)) : StQ μ μ' lg o s t := by
  obtain ⟨h0, hl, hd, hC0, hL, hN, iv⟩ := hP
  obtain ⟨n, hn, hn9, -⟩ := id iv.2.1
  have en : nOf s = n := by unfold nOf; rw [hn9, nI_clamp (by omega)]
  refine ⟨hS, hC, LgR_keep iv.2.1 h9 hj (fun p hp => ?_) hL, fun b b1 b2 => hb b (by omega), fun p hp => ?_⟩
  · rw [hb (lg + 2 + p) (by omega), hb (lg + 503 + p) (by omega), hb (lg + 1003) (by omega), hb (lg + 1004) (by omega), hb (lg + 1005) (by omega)]
    exact ⟨rfl, rfl, rfl, rfl, rfl⟩
  · rw [hb (lg + 2 + p) (by omega), hb (lg + 503 + p) (by omega), hb (lg + 1003) (by omega), hb (lg + 1004) (by omega), hb (lg + 1005) (by omega)]
    exact ⟨rfl, rfl, rfl, rfl, rfl⟩
def takC (μ : qMM) (k i : Nat) : qMM := wR (wR μ (k + 1) (va_cpy (mI μ (k + 1)) (mI μ (k + 1)) (i + 1) i ((mI μ k 1).toNatClampNeg - i - 1))) k (upd (mI μ k) 1 (mI μ k 1 - 1))
theorem LkR_take {μ : qMM} {k a n i : Nat} {s : Nat → Int32} (hn : s a = nI n) (hn2 : n ≤ 20) (hi : i < n) (r : LkR μ k s a) : LkR (takC μ k i) k (takeF s a i) a := by
  obtain ⟨r1, r2⟩ := r
  rw [hn, nI_clamp (by omega)] at r2
  obtain ⟨e1, e2⟩ := take_in hn2 hn hi
  unfold LkR takC
  rw [e1, nI_clamp (by omega), mI_wR_s, upd_s, mI_wR_n (by omega), mI_wR_s, r1, hn, nI_clamp (by omega)]
  refine ⟨pk_sub (a := n) (b := 1) (by omega), fun j hj => ?_⟩
  rw [cpyE, e2 j hj]
  by_cases g : j < i
  · rw [if_neg (by omega), if_pos g]
    exact r2 j (by omega)
  · rw [if_pos (by omega), if_neg g, show i + 1 + (j - i) = j + 1 by omega]
    exact r2 (j + 1) (by omega)
theorem takC_o {μ : qMM} {k i b : Nat} (h1 : b ≠ k) (h2 : b ≠ k + 1) : mI (takC μ k i) b = mI μ b := by
  unfold takC
  rw [mI_wR_n h1, mI_wR_n h2]
theorem Sm_takC {μ : qMM} {k i : Nat} : Sm μ (takC μ k i) := Sm_wR (Sm_wR Sm_refl)
theorem takeOut_Q {k : Nat} {x1 r : Int32} {μ μ' : qMM} {i : Nat} (hi : x1.toNatClampNeg = i) : QX0_takeOut k x1 μ r μ' = (r = mI μ (k + 1) i ∧ μ' = takC μ k i) := by
  unfold QX0_takeOut takC
  rw [hi]
theorem take_P {μ : qMM} {k a n i : Nat} {s : Nat → Int32} (hS : LkS μ k) (hN : mN μ = none) (hn : s a = nI n) (hn2 : n ≤ 20) (hi : i < n) (r : LkR μ k s a) : PX0_takeOut k (nI i) μ := ⟨hS, hN, n, i, hn2, hi, by rw [r.1, hn], rfl⟩
theorem put_P {μ : qMM} {k a n : Nat} {v : Int32} {s : Nat → Int32} (hS : LkS μ k) (hn : s a = nI n) (hn2 : n ≤ 20) (r : LkR μ k s a) : PX0_put k v μ := ⟨hS, n, hn2, by rw [r.1, hn]⟩
theorem put_Q {k : Nat} {v : Int32} {μ μ' : qMM} : QX0_put k v μ μ' = (μ' = putK2 μ k v) := rfl
/-- another change that a State's parts bear -/
theorem CsR_fwd {μ μ' : qMM} {o H : Nat} {s t : Nat → Int32} (iv : Iv H s) (hb : ∀ b, o + 3 ≤ b → b < o + 80 → mI μ' b = mI μ b) (ht : ∀ j, (j < 10 ∨ 31 ≤ j) → t j = s j) (hl : LkR μ' (o + 1) t 10) (r : CsR μ o s) : CsR μ' o t := by
  obtain ⟨r1, r2, r3, r4⟩ := r
  obtain ⟨b, hb0, hb1, -⟩ := iv.2.2.1
  refine ⟨SnR_congr (fun j hj => ht j (by omega)) (fun p hp => ht _ (by omega)) (SnR_mem (fun b b1 b2 => hb b (by omega) (by omega)) r1), RcR_congr (fun j j1 j2 j3 j4 => ht j (by omega)) (RcR_mem (fun b b1 b2 => hb b (by omega) (by omega)) r2), hl, LkR_congr hb1 hb0 (fun j j1 j2 => ht j (by omega)) (LkR_mem (hb _ (by omega) (by omega)) (hb _ (by omega) (by omega)) r4)⟩
theorem CsR_bck {μ μ' : qMM} {o H : Nat} {s t : Nat → Int32} (iv : Iv H s) (hb : ∀ b, o + 1 ≤ b → b < o + 80 → b ≠ o + 3 → b ≠ o + 4 → mI μ' b = mI μ b) (ht : ∀ j, (j < 31 ∨ 52 ≤ j) → t j = s j) (hl : LkR μ' (o + 3) t 31) (r : CsR μ o s) : CsR μ' o t := by
  obtain ⟨r1, r2, r3, r4⟩ := r
  obtain ⟨n, hn, hn9, hpk, f, hf, hf1, -⟩ := iv.2.1
  refine ⟨SnR_congr (fun j hj => ht j (by omega)) (fun p hp => ht _ (by omega)) (SnR_mem (fun b b1 b2 => hb b (by omega) (by omega) (by omega) (by omega)) r1), RcR_congr (fun j j1 j2 j3 j4 => ht j (by omega)) (RcR_mem (fun b b1 b2 => hb b (by omega) (by omega) (by omega) (by omega)) r2), LkR_congr hf1 hf (fun j j1 j2 => ht j (by omega)) (LkR_mem (hb _ (by omega) (by omega) (by omega) (by omega)) (hb _ (by omega) (by omega) (by omega) (by omega)) r3), hl⟩
theorem SnR_copy {μ μ' : qMM} {x o : Nat} {s : Nat → Int32} {n : Nat} (h9 : s 9 = nI n) (hn : n ≤ 500) (h1 : mI μ' o = cpS (mI μ x) (mI μ o)) (h2 : mI μ' (o + 1) = va_cpy (mI μ (x + 1)) (mI μ (o + 1)) 0 0 6) (h3 : mI μ' (o + 2) = va_cpy (mI μ (x + 2)) (mI μ (o + 2)) 0 0 (mI μ x 5).toNatClampNeg) (r : SnR μ x s) : SnR μ' o s := by
  obtain ⟨a1, a2, a3, a4, a5, a6, a7, a8⟩ := r
  have en : nOf s = n := by unfold nOf; rw [h9, nI_clamp (by omega)]
  unfold SnR
  rw [h1, h2, h3]
  refine ⟨fun j hj => ?_, a2, a3, a4, a5, a6, a7, fun p hp => ?_⟩
  · rw [cpyE, if_pos (by omega), show 0 + (j - 0) = j by omega]
    exact a1 j hj
  · rw [cpyE, a5, h9, nI_clamp (by omega), if_pos (by omega), show 0 + (p - 0) = p by omega]
    exact a8 p hp
theorem RcR_copy {μ μ' : qMM} {x o : Nat} {s : Nat → Int32} (h1 : mI μ' o = cpRe (mI μ x) (mI μ o)) (h2 : mI μ' (o + 1) = va_cpy (mI μ (x + 1)) (mI μ (o + 1)) 0 0 4) (h3 : mI μ' (o + 3) = va_cpy (mI μ (x + 3)) (mI μ (o + 3)) 0 0 64) (h4 : ∀ i, i < 64 → mI μ' (o + 5 + i) = va_cpy (mI μ (x + 5 + i)) (mI μ (o + 5 + i)) 0 0 6) (r : RcR μ x s) : RcR μ' o s := by
  obtain ⟨a, b, c⟩ := r
  unfold RcR
  rw [h1, h2, h3]
  refine ⟨a, b, fun k hk => ?_⟩
  rw [cpyE, if_pos (by omega), show 0 + (k - 0) = k by omega, h4 k hk]
  refine ⟨(c k hk).1, fun z j hj => ?_⟩
  rw [cpyE, if_pos (by omega), show 0 + (j - 0) = j by omega]
  exact (c k hk).2 z j hj
theorem LkR_copy {μ μ' : qMM} {x o a : Nat} {s : Nat → Int32} (h1 : mI μ' o = upd (mI μ o) 1 (mI μ x 1)) (h2 : mI μ' (o + 1) = va_cpy (mI μ (x + 1)) (mI μ (o + 1)) 0 0 (mI μ x 1).toNatClampNeg) (r : LkR μ x s a) : LkR μ' o s a := by
  obtain ⟨r1, r2⟩ := r
  unfold LkR
  rw [h1, h2, upd_s, r1]
  refine ⟨rfl, fun i hi => ?_⟩
  rw [cpyE, if_pos (by omega), show 0 + (i - 0) = i by omega]
  exact r2 i hi
