/-! ===== a packet is received: all that it leaves ===== -/
theorem LwR_ext {I I' : Nat → Nat → Int32} {J J' : Nat → Nat → Int64} {s : Nat → Int32} {now : Int64} (hI : ∀ k, k < 9 → I' k = I k) (hJ : ∀ k, k < 9 → J' k = J k) (k : LwR I J s now) : LwR I' J' s now := by
  unfold LwR PaR KaR at k ⊢
  rw [hI 0 (by decide), hI 2 (by decide), hI 3 (by decide), hI 4 (by decide), hI 5 (by decide), hI 6 (by decide), hI 8 (by decide), hJ 1 (by decide), hJ 7 (by decide)]
  exact k
theorem rx_ok {I : Nat → Nat → Int32} {J : Nat → Nat → Int64} {s : Nat → Int32} {now : Int64} {p : Nat} (k : LwR I J s now) (hp : p < nOf s) : rxF I p = xF s p := by
  obtain ⟨k1, k2, k3, k4, k5, k6, k7⟩ := k
  obtain ⟨f1, -⟩ := IfR_at (k3 p hp).2.2
  have e10 : I 0 10 = s 55 := k2.2.2.2.2.2.2.2.2 10 (by decide) (by decide)
  have e7 : I 0 7 = s 52 := k2.2.2.2.2.2.1
  unfold rxF xF nuF numF
  rw [f1, e10, e7, rem_p (by omega)]
theorem rD_ok {I : Nat → Nat → Int32} {J : Nat → Nat → Int64} {s : Nat → Int32} {now : Int64} {p : Nat} (k : LwR I J s now) (hp : p < nOf s) : rcD I p ↔ ¬ placeF s (xF s p) = -1 := by
  unfold rcD
  rw [rx_ok k hp, (k.2.2.2.2.2.1 _ (slot_lt _)).1, place_iff]
  exact Classical.not_not.symm
theorem Iv_pk {H : Nat} {s : Nat → Int32} {p : Nat} (iv : Iv H s) (hp : p < nOf s) : Pk s p := by
  have h9 := (Iv_n iv).1
  obtain ⟨-, ⟨n, hn, e9, hk, -⟩, -⟩ := iv
  refine hk p ?_
  have : nOf s = n := by
    unfold nOf
    rw [e9, nI_clamp (by omega)]
  omega
theorem rU_ok {H : Nat} {I : Nat → Nat → Int32} {J : Nat → Nat → Int64} {s : Nat → Int32} {now : Int64} {p : Nat} (iv : Iv H s) (k : LwR I J s now) (hp : p < nOf s) : rcU I p ↔ (¬ s (514 + 10 * p + 7) = 0 ∧ placeF s (xF s p - dF s p) = -1) := by
  obtain ⟨f1, f2, -⟩ := IfR_at (k.2.2.1 p hp).2.2
  obtain ⟨fN, rN, aN, zN, b1, b2, b3, b4, c1, -⟩ := (k.2.2.1 p hp).2.2
  have era : raF I p = xF s p - dF s p := by
    unfold raF rrF
    rw [rx_ok k hp, f2, ← sub3]
  have e1 : (0 : Int32) < remF (I 3 p) 4 ↔ ¬ s (514 + 10 * p + 7) = 0 := by
    rw [f1, c1]
    constructor
    · intro q z
      rw [z] at q
      exact absurd q (by decide)
    · intro q
      exact nI_lt (a := 0) (by rcases Nat.eq_zero_or_pos fN with z | z
                               · exact absurd (by rw [z]; rfl) q
                               · exact z) (by omega)
  unfold rcU
  rw [e1, era, (k.2.2.2.2.2.1 _ (slot_lt _)).1, place_iff]
theorem right5 {s g : Nat → Int32} {p : Nat} {x : Int32} : rightL s g p x 4 = 0 ↔ ¬ (x = nI p ∧ g 0 = s (514 + 10 * p + 0) ∧ g 1 = s (514 + 10 * p + 1) ∧ g 2 = s (514 + 10 * p + 2) ∧ g 3 = s (514 + 10 * p + 3)) := by
  simp only [rightL]
  by_cases h : x = nI p
  · by_cases h0 : g 0 = s (514 + 10 * p + 0)
    · by_cases h1 : g 1 = s (514 + 10 * p + 1)
      · by_cases h2 : g 2 = s (514 + 10 * p + 2)
        · by_cases h3 : g 3 = s (514 + 10 * p + 3)
          · simp [h, h0, h1, h2, h3]
          · simp [h, h0, h1, h2, h3]
        · simp [h, h0, h1, h2]
      · simp [h, h0, h1]
    · simp [h, h0]
  · simp [h]
theorem late_o {s : Nat → Int32} {p j : Nat} (h : j ≠ 65) : lateF s p j = s j := upd_n h
theorem late_g {I : Nat → Nat → Int32} {s : Nat → Int32} {p : Nat} (q : GaR (I 0) s) : GaR (rlF I p) (lateF s p) := by
  have q10 := q.2.2.2.2.2.2.2.2
  refine GaR_cnt q (fun j hj => late_o (by omega)) (fun j hj => upd_n (by omega)) (fun i h1 h2 => ?_)
  by_cases g : i = 20
  · subst g
    unfold rlF lateF
    rw [upd_s, upd_s, q10 20 (by decide) (by decide), q10 10 (by decide) (by decide)]
    by_cases z : s 55 - nI p ≤ s 65
    · rw [if_pos z, if_neg (Int32.not_lt.mpr z)]
    · rw [if_neg z, if_pos (Int32.not_le.mp z)]
  · unfold rlF
    rw [upd_n g, late_o (by omega), q10 i h1 h2]
/-- what a record becomes -/
theorem keep_ok {H : Nat} {I K : Nat → Nat → Int32} {J M : Nat → Nat → Int64} {t g : Nat → Int32} {now hh : Int64} {st : Int32} {x : Nat} (iv : Iv H t) (hx : x ≤ H) (hH : H < 2 ^ 30) (k : LwR I J t now) (hd : Hd hh g) (sd : SdR st (g 4) (g 5)) (G : Nat → Int32) (hG : G = keG (I 0) (nI x))
    (h0 : K 0 = G) (h6 : K 6 = if G 10 - 64 < nI x then upd (kdF (I 6) (G 10) 64) (slotOf (nI x)) (nI x) else kdF (I 6) (G 10) 64) (h8 : K 8 = if G 10 - 64 < nI x then upd (I 8) (slotOf (nI x)) st else I 8) (hK : ∀ j, j ≠ 0 → j ≠ 6 → j ≠ 8 → K j = I j)
    (h7 : M 7 = if G 10 - 64 < nI x then vp_updL (J 7) (slotOf (nI x)) hh else J 7) (hM : ∀ j, j ≠ 7 → M j = J j) : LwR K M (keepF t g (nI x)) now := by
  obtain ⟨k1, k2, k3, k4, k5, k6, k7⟩ := k
  obtain ⟨h, hhH, hxh, hw, -⟩ := keep_h hx hH iv.2.2.2.1
  obtain ⟨a1, a2, a3, a4⟩ := keep_at (g := g) hw (by omega) (by omega)
  have q10 := k2.2.2.2.2.2.2.2.2
  have eG : G 10 = nI h := by
    rw [hG]
    unfold keG
    rw [upd_s, q10 10 (by decide) (by decide), ← hw]
    by_cases z : nI x ≤ t 55
    · rw [if_pos z, if_neg (Int32.not_lt.mpr z)]
    · rw [if_neg z, if_pos (Int32.not_le.mp z)]
  have ec : nI h - 64 < nI x ↔ h < x + 64 := (sub64 (by omega) (by omega)).1
  have es : slotOf (nI x) = x % 64 := slot_nI x (by omega)
  rw [eG, es] at h6 h8 h7
  have en := nOfE (a4 9 (Or.inl ⟨by decide, by decide⟩))
  refine ⟨Hd_congr (fun i hi => a4 i (Or.inl ⟨by omega, by omega⟩)) k1, ?_, fun p hp => PaR_congr (fun j hj => a4 _ (Or.inr (by omega))) (by rw [hM 1 (by decide)]) (by rw [hK 2 (by decide) (by decide) (by decide)]) (by rw [hK 3 (by decide) (by decide) (by decide)]) (k3 p (by rw [← en]; exact hp)), ?_, ?_, fun j hj => ?_, by rw [en]; exact k7⟩
  · rw [h0]
    refine GaR_cnt k2 (fun j hj => a4 j (Or.inl (by omega))) (fun j hj => ?_) (fun i h1 h2 => ?_)
    · rw [hG]
      unfold keG
      rw [upd_n (by omega)]
    · by_cases z : i = 10
      · subst z
        rw [eG, a1]
      · rw [a4 (45 + i) (Or.inl (by omega)), hG]
        unfold keG
        rw [upd_n z]
        exact q10 i h1 h2
  · rw [hK 4 (by decide) (by decide) (by decide)]
    exact LnR_congr (fun j h1 h2 => a4 j (Or.inl (by omega))) (Iv_n iv).2 k4
  · rw [hK 5 (by decide) (by decide) (by decide)]
    exact LnR_congr (fun j h1 h2 => a4 j (Or.inl (by omega))) (Iv_b iv) k5
  · obtain ⟨q1, q2⟩ := k6 j hj
    have b2 := a2 j hj
    have b3 := fun i hi => a3 j i hj hi
    by_cases c : h < x + 64 ∧ j = x % 64
    · rw [if_pos c] at b2
      have b3' : ∀ i, i < 6 → keepF t g (nI x) (67 + 7 * j + i) = g i := fun i hi => by rw [b3 i hi, if_pos c]
      rw [if_pos (ec.mpr c.1)] at h6 h8 h7
      rw [b2, h6, h8, h7, c.2]
      rw [← c.2, upd_s, upd_s, pk_uLs, b3' 4 (by decide), b3' 5 (by decide)]
      exact ⟨rfl, fun _ => ⟨Hd_congr (fun i hi => b3' i (by omega)) hd, sd⟩⟩
    · rw [if_neg c] at b2
      have b6 : K 6 j = kdF (I 6) (nI h) 64 j := by
        rw [h6]
        by_cases z : h < x + 64
        · rw [if_pos (ec.mpr z), upd_n (fun q => c ⟨z, q⟩)]
        · rw [if_neg (fun q => z (ec.mp q))]
      have b8 : K 8 j = I 8 j := by
        rw [h8]
        by_cases z : h < x + 64
        · rw [if_pos (ec.mpr z), upd_n (fun q => c ⟨z, q⟩)]
        · rw [if_neg (fun q => z (ec.mp q))]
      have b7 : M 7 j = J 7 j := by
        rw [h7]
        by_cases z : h < x + 64
        · rw [if_pos (ec.mpr z), pk_uLn (fun q => c ⟨z, q⟩)]
        · rw [if_neg (fun q => z (ec.mp q))]
      rw [b6, b7, b8, b2]
      by_cases gn : gone t (nI h) j
      · rw [if_pos gn]
        refine ⟨?_, fun z => absurd rfl z⟩
        unfold kdF
        rw [if_pos ⟨hj, by rw [q1]; exact gn.2⟩]
      · rw [if_neg gn]
        have b3' : ∀ i, i < 6 → keepF t g (nI x) (67 + 7 * j + i) = t (67 + 7 * j + i) := fun i hi => by rw [b3 i hi, if_neg c, if_neg gn]
        rw [b3' 4 (by decide), b3' 5 (by decide)]
        refine ⟨?_, fun z => ⟨Hd_congr (fun i hi => b3' i (by omega)) (q2 z).1, (q2 z).2⟩⟩
        unfold kdF
        by_cases z : t (66 + 7 * j) = -1
        · rw [q1, z]
          by_cases y : j < 64 ∧ (-1 : Int32) ≤ nI h - 64
          · rw [if_pos y]
          · rw [if_neg y]
        · rw [if_neg (fun y => gn ⟨z, by rw [← q1]; exact y.2⟩), q1]
