/-! ===== a packet is received: the law's rows and the state ===== -/
theorem LwR_c {H : Nat} {I I' : Nat → Nat → Int32} {J : Nat → Nat → Int64} {s t : Nat → Int32} {now : Int64} (iv : Iv H s) (h : ∀ j, ¬ (55 ≤ j ∧ j ≤ 65) → t j = s j) (hI : ∀ k, k ≠ 0 → I' k = I k) (g : GaR (I' 0) t) (k : LwR I J s now) : LwR I' J t now := by
  obtain ⟨k1, k2, k3, k4, k5, k6, k7⟩ := k
  have e := nOfE (h 9 (by omega))
  refine ⟨Hd_congr (fun i hi => h i (by omega)) k1, g, fun p hp => PaR_congr (fun j hj => h _ (by omega)) rfl (by rw [hI 2 (by decide)]) (by rw [hI 3 (by decide)]) (k3 p (by rw [← e]; exact hp)), ?_, ?_, KaR_congr (fun j h1 h2 => h j (by omega)) (hI 6 (by decide)) rfl (hI 8 (by decide)) k6, by rw [e]; exact k7⟩
  · rw [hI 4 (by decide)]
    exact LnR_congr (fun j h1 h2 => h j (by omega)) (Iv_n iv).2 k4
  · rw [hI 5 (by decide)]
    exact LnR_congr (fun j h1 h2 => h j (by omega)) (Iv_b iv) k5
/-- some of the counts anew -/
theorem GaR_cnt {g g' s t : Nat → Int32} (q : GaR g s) (h : ∀ j, (4 ≤ j ∧ j ≤ 9) ∨ (52 ≤ j ∧ j ≤ 54) → t j = s j) (hg : ∀ j, j < 10 → g' j = g j) (hc : ∀ i, 10 ≤ i → i ≤ 20 → g' i = t (45 + i)) : GaR g' t := by
  obtain ⟨q0, q1, q2, q3, q4, q7, q8, q9, q10⟩ := q
  refine ⟨?_, ?_, ?_, ?_, ?_, ?_, ?_, ?_, hc⟩
  · rw [hg 0 (by decide), h 9 (by omega)]; exact q0
  · rw [hg 1 (by decide), h 8 (by omega)]; exact q1
  · rw [hg 2 (by decide), h 6 (by omega)]; exact q2
  · rw [hg 3 (by decide), h 7 (by omega)]; exact q3
  · rw [hg 4 (by decide), h 4 (by omega), h 5 (by omega)]; exact q4
  · rw [hg 7 (by decide), h 52 (by omega)]; exact q7
  · rw [hg 8 (by decide), h 53 (by omega)]; exact q8
  · rw [hg 9 (by decide), h 54 (by omega)]; exact q9
theorem place_iff {s : Nat → Int32} {x : Int32} : placeF s x = -1 ↔ ¬ (0 ≤ x ∧ s (66 + 7 * slotOf x) = x) := by
  unfold placeF
  have := slot_lt x
  by_cases h : 0 ≤ x ∧ s (66 + 7 * slotOf x) = x
  · rw [if_pos h]
    exact ⟨fun q => absurd q (nI_m1 (by omega)), fun q => absurd h q⟩
  · rw [if_neg h]
    exact ⟨fun _ => h, fun _ => rfl⟩
theorem sub3 (x p r : Int32) : x - (p - r) = x - p + r := by
  simp only [Int32.sub_eq_add_neg, Int32.neg_add, Int32.neg_neg]
  ac_rfl
theorem add3 (x p r : Int32) : x + p - r = x + (p - r) := by
  simp only [Int32.sub_eq_add_neg]
  ac_rfl
theorem bk_ok {I : Nat → Nat → Int32} {J : Nat → Nat → Int64} {s : Nat → Int32} {j : Nat} (k1 : Hd (J 7 j) (fun i => s (67 + 7 * j + i))) (k2 : SdR (I 8 j) (s (67 + 7 * j + 4)) (s (67 + 7 * j + 5))) (hj : j < 2 ^ 31) (form d : Int32) : Hd (bsF (J 7) (I 8) form (nI j) d) (fun f => baseF form (nI f) (s (66 + 7 * j + 1 + f)) (if 1 ≤ f ∧ f ≤ 2 then s (66 + 7 * j + 4 + f) else 0) d) := by
  unfold bsF
  rw [nI_clamp hj]
  have e : ∀ f, 66 + 7 * j + 1 + f = 67 + 7 * j + f := fun f => by omega
  have b0 : baseF form (nI 0) (s (66 + 7 * j + 1 + 0)) (if 1 ≤ 0 ∧ 0 ≤ 2 then s (66 + 7 * j + 4 + 0) else 0) d = s (67 + 7 * j + 0) := by
    unfold baseF
    rw [if_neg (fun q => absurd q.2.1 (by decide)), e]
  have b3 : baseF form (nI 3) (s (66 + 7 * j + 1 + 3)) (if 1 ≤ 3 ∧ 3 ≤ 2 then s (66 + 7 * j + 4 + 3) else 0) d = s (67 + 7 * j + 3) := by
    unfold baseF
    rw [if_neg (fun q => absurd q.2.2 (by decide)), e]
  by_cases h : form = 2
  · rw [if_pos h]
    refine mov_ok k1 k2 b0 ?_ ?_ b3
    · unfold baseF
      rw [if_pos ⟨h, by decide, by decide⟩, if_pos (by decide), e, show 66 + 7 * j + 4 + 1 = 67 + 7 * j + 4 by omega]
    · unfold baseF
      rw [if_pos ⟨h, by decide, by decide⟩, if_pos (by decide), e, show 66 + 7 * j + 4 + 2 = 67 + 7 * j + 5 by omega]
  · rw [if_neg h]
    refine Hd_congr (fun i hi => ?_) k1
    rcases (by omega : i = 0 ∨ i = 1 ∨ i = 2 ∨ i = 3) with rfl | rfl | rfl | rfl
    · exact b0
    · show baseF form (nI 1) _ _ d = _
      unfold baseF
      rw [if_neg (fun q => h q.1), e]
    · show baseF form (nI 2) _ _ d = _
      unfold baseF
      rw [if_neg (fun q => h q.1), e]
    · exact b3
theorem rem_p {p : Nat} (hp : p < 64) : remF (nI p) 64 = nI p &&& 63 := rem_nn (nI_pos' (by omega))
theorem dec_at {s g : Nat → Int32} {p a f : Nat} {d : Int32} (hf : f < 4) : decF s p a d g f = decV s p a d f := by
  unfold decF
  rw [upd_n (by omega), upd_n (by omega)]
  simp only [decL]
  rcases (by omega : f = 0 ∨ f = 1 ∨ f = 2 ∨ f = 3) with rfl | rfl | rfl | rfl
  · rw [upd_n (by decide), upd_n (by decide), upd_n (by decide), upd_s]
  · rw [upd_n (by decide), upd_n (by decide), upd_s]
  · rw [upd_n (by decide), upd_s]
  · rw [upd_s]
theorem cpyG5 {s g : Nat → Int32} {p f : Nat} : ∀ k, f < k → cpyG s p g k f = s (514 + 10 * p + f)
  | 0, h => absurd h (by omega)
  | k + 1, h => by
    unfold cpyG
    by_cases e : f = k
    · subst e
      rw [upd_s]
    · rw [upd_n e]
      exact cpyG5 k (by omega)
/-- what is decoded: the law's header and strides are the state's -/
theorem got_ok {I : Nat → Nat → Int32} {J : Nat → Nat → Int64} {s g : Nat → Int32} {p : Nat} (hp : p < 64) (kp : ∀ r, r ≤ p → PaR I J s r) (kk : KaR I J s) (ep : s (514 + 10 * p + 7) = 0 ∨ ∃ r : Nat, r < p ∧ s (514 + 10 * p + 8) = nI r) (ex : rxF I p = xF s p) (hu : ¬ (¬ s (514 + 10 * p + 7) = 0 ∧ placeF s (xF s p - dF s p) = -1)) : Hd (rhF I J p) (gotF s g p) ∧ SdR (rsF I p) (gotF s g p 4) (gotF s g p 5) := by
  have pk := kp p (Nat.le_refl _)
  obtain ⟨f1, f2, f3, f4⟩ := IfR_at pk.2.2
  obtain ⟨fN, rN, aN, zN, b1, b2, b3, b4, c1, c2, c3, c4, c5⟩ := pk.2.2
  unfold rhF rsF gotF
  dsimp only
  rw [f1]
  by_cases g0 : s (514 + 10 * p + 7) = 0
  · have z0 : s (514 + 10 * p + 7) ≤ 0 := by rw [g0]; decide
    rw [if_pos z0, if_pos z0, if_pos g0]
    refine ⟨Hd_congr (fun i hi => cpyG5 6 (by omega)) pk.1, ?_⟩
    rw [cpyG5 6 (by decide), cpyG5 6 (by decide)]
    exact pk.2.1
  · obtain ⟨r, hr, er⟩ := ep.resolve_left g0
    have hle : ¬ s (514 + 10 * p + 7) ≤ 0 := by
      rw [c1] at g0 ⊢
      exact nI_nle (by rcases Nat.eq_zero_or_pos fN with z | z
                       · exact absurd (by rw [z]; rfl) g0
                       · exact z) (by omega)
    rw [if_neg hle, if_neg hle, if_neg g0]
    have err : rrF I p = nI r := f2.trans er
    have ed : dF s p = nI p - nI r := by
      show nI p - s (514 + 10 * p + 8) = _
      rw [er]
    have era : raF I p = xF s p - dF s p := by
      unfold raF
      rw [ex, err, ed, sub3]
    have hpl : ¬ placeF s (xF s p - dF s p) = -1 := fun q => hu ⟨g0, q⟩
    have hpl2 := fun q => hpl (place_iff.mpr q)
    have hpl3 := Classical.not_not.mp hpl2
    rw [era, err]
    generalize xF s p - dF s p = ar at *
    have hs := slot_lt ar
    have epl : (placeF s ar).toNatClampNeg = 66 + 7 * slotOf ar := by
      unfold placeF
      rw [if_pos hpl3, nI_clamp (by omega)]
    have nm : ¬ s (66 + 7 * slotOf ar) = -1 := by
      rw [hpl3.2]
      intro q
      rw [q] at hpl3
      exact absurd hpl3.1 (by decide)
    obtain ⟨-, q2⟩ := kk (slotOf ar) hs
    obtain ⟨q2, q3⟩ := q2 nm
    have hm := bs_ok (kp r (by omega)) (by omega) (s (514 + 10 * p + 7)) (nI p - nI r)
    have hi := bk_ok q2 q3 (by omega) (s (514 + 10 * p + 7)) (nI p - nI r)
    rw [epl, ed]
    constructor
    · obtain ⟨p0, p1, p2, p3⟩ := Hd_pt pk.1
      obtain ⟨m0, m1, m2, m3⟩ := Hd_pt hm
      obtain ⟨i0, i1, i2, i3⟩ := Hd_pt hi
      rw [p0, p1, p2, p3, m0, m1, m2, m3, i0, i1, i2, i3]
      obtain ⟨h0, -, -, h3⟩ := Hd_rg pk.1
      obtain ⟨t0, -, -, t3⟩ := Hd_rg hi
      refine Hd_mk ?_ ?_ ?_ ?_ ?_ ?_
      · by_cases q : s (514 + 10 * p + 0) = sbF s (s (514 + 10 * p + 7)) r (nI p - nI r) 0
        · rw [if_pos q]; exact t0
        · rw [if_neg q]; exact h0
      · by_cases q : s (514 + 10 * p + 3) = sbF s (s (514 + 10 * p + 7)) r (nI p - nI r) 3
        · rw [if_pos q]; exact t3
        · rw [if_neg q]; exact h3
      · rw [dec_at (by decide)]
        unfold decV
        dsimp only
        rw [er, nI_clamp (by omega), if_neg (by decide)]
      · rw [dec_at (by decide)]
        unfold decV
        dsimp only
        rw [er, nI_clamp (by omega), if_pos (by decide), and16, add3]
      · rw [dec_at (by decide)]
        unfold decV
        dsimp only
        rw [er, nI_clamp (by omega), if_pos (by decide), and16, add3]
      · rw [dec_at (by decide)]
        unfold decV
        dsimp only
        rw [er, nI_clamp (by omega), if_neg (by decide)]
    · unfold decF
      rw [upd_n (by decide), upd_s, upd_s, show 66 + 7 * slotOf ar + 5 = 67 + 7 * slotOf ar + 4 by omega, show 66 + 7 * slotOf ar + 6 = 67 + 7 * slotOf ar + 5 by omega]
      exact q3
