/-! ===== a packet is sent: the law's rows and the state ===== -/
theorem snd_v {H : Nat} {I : Nat → Nat → Int32} {J : Nat → Nat → Int64} {s : Nat → Int32} {now : Int64} (iv : Iv H s) (k : LwR I J s now) : ∃ fo z : Nat, fo < 3 ∧ z < 100 ∧ formF s = nI fo ∧ sizeF s (formF s) (refF s) = nI z ∧ nxF (I 0) (J 1) (I 2) (I 3) now (I 0 2) (I 0 3) = nI (10 * z + fo) ∧ (nxF (I 0) (J 1) (I 2) (I 3) now (I 0 2) (I 0 3) = 120 ↔ fo = 0) ∧ (fo = 0 ∨ ∃ r, r < nOf s ∧ refF s = nI r) := by
  have g2 : I 0 2 = s 6 := k.2.1.2.2.1
  have g3 : I 0 3 = s 7 := k.2.1.2.2.2.1
  rw [g2, g3, nx_ok iv k]
  have er : truF s (s 7) = refF s := rfl
  rw [er]
  have h6 : s 6 = 0 ∨ s 6 = 1 ∨ s 6 = 2 := iv.2.2.2.2.2.2.1
  by_cases g : s 6 = 0 ∨ refF s = -1 ∨ s 8 = 1
  · have ef : formF s = 0 := by
      by_cases g' : refF s = -1 ∨ s 8 = 1
      · exact if_pos g'
      · exact (if_neg g').trans (g.resolve_right g')
    rw [if_pos g, ef]
    exact ⟨0, 12, by decide, by decide, rfl, rfl, by decide, ⟨fun _ => rfl, fun _ => rfl⟩, Or.inl rfl⟩
  · have g' : ¬ (refF s = -1 ∨ s 8 = 1) := fun q => g (Or.inr q)
    have ef : formF s = s 6 := if_neg g'
    rw [if_neg g, ef]
    rcases tru_r iv (s 7) with e | ⟨r, h1, h2, e⟩
    · exact absurd (Or.inl e) g'
    · obtain ⟨z, hz, e2⟩ := szL_r s (s 6) (s 9 - refF s) r 4
      have e3 : sizeF s (s 6) (refF s) = nI z := by
        unfold sizeF
        have hr : refF s = nI r := e
        have hm : r < 63 := by have := k.2.2.2.2.2.2; omega
        rw [if_neg (fun q => g (Or.inl q)), hr, nI_clamp (by omega), ← hr]
        exact e2
      rw [e3]
      have c10 : (10 : Int32) = nI 10 := rfl
      have c120 : (120 : Int32) = nI 120 := rfl
      rcases h6 with z0 | z1 | z2
      · exact absurd (Or.inl z0) g
      · refine ⟨1, z, by decide, by omega, z1, rfl, ?_, ?_, Or.inr ⟨r, h1, e⟩⟩
        · rw [z1, c10, pk_mul, show (1 : Int32) = nI 1 from rfl, nI_add]
        · rw [z1, c10, pk_mul, show (1 : Int32) = nI 1 from rfl, nI_add, c120, nI_eq (by omega) (by decide)]
          omega
      · refine ⟨2, z, by decide, by omega, z2, rfl, ?_, ?_, Or.inr ⟨r, h1, e⟩⟩
        · rw [z2, c10, pk_mul, show (2 : Int32) = nI 2 from rfl, nI_add]
        · rw [z2, c10, pk_mul, show (2 : Int32) = nI 2 from rfl, nI_add, c120, nI_eq (by omega) (by decide)]
          omega
theorem send_ok {H : Nat} {I I' : Nat → Nat → Int32} {J J' : Nat → Nat → Int64} {s : Nat → Int32} {now : Int64} {f : Nat} (iv : Iv H s) (k : LwR I J s now) (hn : nOf s < 63) (hf : f < 20) (h10 : s 10 = nI f) (hI : ∀ k, k < 9 → I' k = seI I J now k) (hJ : ∀ k, k < 9 → J' k = seJ I J now k) : LwR I' J' (sendF s) now := by
  obtain ⟨fo, z, b1, b2, e1, e2, e3, e4, e5⟩ := snd_v iv k
  obtain ⟨k1, k2, k3, k4, k5, k6, k7⟩ := id k
  have h9 := (Iv_n iv).1
  generalize hnn : nOf s = n at *
  have hr : formF s = 0 ∨ (refF s).toNatClampNeg < n := by
    rcases e5 with q | ⟨r, q1, q2⟩
    · exact Or.inl (by rw [e1, q]; rfl)
    · exact Or.inr (by rw [q2, nI_clamp (by omega)]; exact q1)
  obtain ⟨a1, a2, a3, a4, a5, a6, a7, a8, a9, a10, a11⟩ := send_at (size := sizeF s (formF s) (refF s)) h9 hr
  have eS : sendF s = joinF 10 (nI n) (sendG s n (refF s) (formF s) (sizeF s (formF s) (refF s))) := by
    unfold sendF
    rw [hnn]
  have g10 : sendG s n (refF s) (formF s) (sizeF s (formF s) (refF s)) 10 = nI f := by
    rw [a11 10 (by decide) (by decide) (by decide) (by decide) (by omega), h10]
  rw [eS]
  have tu : tuF (I 0) (I 3) (I 0 3) = refF s := by
    rw [k2.2.2.2.1]
    exact tu_ok k (s 7)
  have c10 : (10 : Int32) = nI 10 := rfl
  have f1 : remF (nxF (I 0) (J 1) (I 2) (I 3) now (I 0 2) (I 0 3)) 10 = nI fo := by
    unfold remF
    rw [e3, c10, pk_rem (by omega) (by decide) (by decide)]
    congr 1
    omega
  have f2 : nxF (I 0) (J 1) (I 2) (I 3) now (I 0 2) (I 0 3) / 10 = nI z := by
    rw [e3, c10, pk_div (by omega) (by decide) (by decide)]
    congr 1
    omega
  have i00 : I 0 0 = nI n := k2.1.trans h9
  have i40 : I 4 0 = nI f := k4.1.trans h10
  have r0 : I' 0 = upd (upd (upd (upd (I 0) 1 0) 18 (I 0 18 + (if fo = 0 then 1 else 0))) 19 (I 0 19 + nI z)) 0 (nI (n + 1)) := by
    rw [hI 0 (by decide)]
    unfold seI
    rw [if_pos rfl, f1, f2, i00, nI_1]
    congr 4
    by_cases q : fo = 0
    · subst q; rfl
    · rw [if_neg q, if_neg (nI_ne0 (by omega) (by omega))]
  have r2 : I' 2 = upd (I 2) n (if fo = 0 then I 0 4 else I 2 (refF s).toNatClampNeg) := by
    rw [hI 2 (by decide)]
    unfold seI
    rw [if_neg (by decide), if_pos rfl, i00, nI_clamp (by omega), tu]
    congr 1
    by_cases q : fo = 0
    · rw [if_pos (e4.mpr q), if_pos q]
    · rw [if_neg (fun x => q (e4.mp x)), if_neg q]
  have r3 : I' 3 = upd (I 3) n (nI fo + 4 * (if fo = 0 then 0 else refF s + 1) + 10000 * nI z) := by
    rw [hI 3 (by decide)]
    unfold seI
    rw [if_neg (by decide), if_neg (by decide), if_pos rfl, i00, nI_clamp (by omega), tu, f1, f2]
    congr 4
    by_cases q : fo = 0
    · subst q; rfl
    · rw [if_neg q, if_neg (nI_ne0 (by omega) (by omega))]
  have r4 : I' 4 = upd (upd (I 4) 0 (nI (f + 1))) (f + 1) (nI n) := by
    rw [hI 4 (by decide)]
    unfold seI
    rw [if_neg (by decide), if_neg (by decide), if_neg (by decide), if_pos rfl, i40, i00, nI_1, nI_clamp (by omega)]
  have ro : ∀ k, k < 9 → k ≠ 0 → k ≠ 2 → k ≠ 3 → k ≠ 4 → I' k = I k := fun k hk q0 q2 q3 q4 => by
    rw [hI k hk]
    unfold seI
    rw [if_neg q0, if_neg q2, if_neg q3, if_neg q4]
  have j1 : J' 1 = vp_updL (J 1) n now := by
    rw [hJ 1 (by decide)]
    unfold seJ
    rw [if_pos rfl, i00, nI_clamp (by omega)]
  have j7 : J' 7 = J 7 := by
    rw [hJ 7 (by decide)]
    exact if_neg (by decide)
  have o : ∀ j, j < 10 ∨ 30 < j → joinF 10 (nI n) (sendG s n (refF s) (formF s) (sizeF s (formF s) (refF s))) j = sendG s n (refF s) (formF s) (sizeF s (formF s) (refF s)) j := fun j hj => join_o (by omega) g10 (by omega)
  have en : nOf (joinF 10 (nI n) (sendG s n (refF s) (formF s) (sizeF s (formF s) (refF s)))) = n + 1 := by
    unfold nOf
    rw [o 9 (by omega), a10, nI_clamp (by omega)]
  generalize hG : sendG s n (refF s) (formF s) (sizeF s (formF s) (refF s)) = G at *
  have hfo : formF s = 0 ↔ fo = 0 := by
    rw [e1]
    exact ⟨fun q => (nI_eq (by omega) (by decide)).mp q, fun q => by rw [q]; rfl⟩
  refine ⟨Hd_congr (fun i hi => ?_) k1, ?_, fun p hp => ?_, ?_, ?_, ?_, by rw [en]; omega⟩
  · rw [o i (by omega), a11 i (by omega) (by omega) (by omega) (by omega) (by omega)]
  · obtain ⟨q0, q1, q2, q3, q4, q7, q8, q9, q10⟩ := k2
    rw [r0]
    refine ⟨?_, ?_, ?_, ?_, ?_, ?_, ?_, ?_, fun i h1 h2 => ?_⟩
    · rw [upd_s, o 9 (by omega), a10]
    · rw [upd_n (by decide), upd_n (by decide), upd_n (by decide), upd_s, o 8 (by omega), a7]
    · rw [upd_n (by decide), upd_n (by decide), upd_n (by decide), upd_n (by decide), o 6 (by omega), a11 6 (by decide) (by decide) (by decide) (by decide) (by omega)]; exact q2
    · rw [upd_n (by decide), upd_n (by decide), upd_n (by decide), upd_n (by decide), o 7 (by omega), a11 7 (by decide) (by decide) (by decide) (by decide) (by omega)]; exact q3
    · rw [upd_n (by decide), upd_n (by decide), upd_n (by decide), upd_n (by decide), o 4 (by omega), o 5 (by omega), a11 4 (by decide) (by decide) (by decide) (by decide) (by omega), a11 5 (by decide) (by decide) (by decide) (by decide) (by omega)]; exact q4
    · rw [upd_n (by decide), upd_n (by decide), upd_n (by decide), upd_n (by decide), o 52 (by omega), a11 52 (by decide) (by decide) (by decide) (by decide) (by omega)]; exact q7
    · rw [upd_n (by decide), upd_n (by decide), upd_n (by decide), upd_n (by decide), o 53 (by omega), a11 53 (by decide) (by decide) (by decide) (by decide) (by omega)]; exact q8
    · rw [upd_n (by decide), upd_n (by decide), upd_n (by decide), upd_n (by decide), o 54 (by omega), a11 54 (by decide) (by decide) (by decide) (by decide) (by omega)]; exact q9
    · rw [upd_n (show i ≠ 0 by omega), o (45 + i) (by omega)]
      by_cases i19 : i = 19
      · subst i19
        rw [upd_s, a8, e2, q10 19 (by decide) (by decide)]
      · rw [upd_n i19]
        by_cases i18 : i = 18
        · subst i18
          rw [upd_s, a9, q10 18 (by decide) (by decide)]
          congr 1
          by_cases q : fo = 0
          · rw [if_pos q, if_pos (hfo.mpr q)]
          · rw [if_neg q, if_neg (fun x => q (hfo.mp x))]
        · rw [upd_n i18, upd_n (show i ≠ 1 by omega), a11 (45 + i) (by omega) (by omega) (by omega) (by omega) (by omega)]
          exact q10 i h1 h2
  · rw [en] at hp
    by_cases gp : p = n
    · subst gp
      unfold PaR
      rw [j1, pk_uLs, r2, r3, upd_s, upd_s, o (514 + 10 * p + 4) (by omega), o (514 + 10 * p + 5) (by omega), o (514 + 10 * p + 6) (by omega), o (514 + 10 * p + 7) (by omega), o (514 + 10 * p + 8) (by omega), o (514 + 10 * p + 9) (by omega), a3, e2, a4, a5, a6, e1]
      have s4 := a2 0 (by decide)
      have s5 := a2 1 (by decide)
      rw [show 514 + 10 * p + (4 + 0) = 514 + 10 * p + 4 from rfl] at s4
      rw [show 514 + 10 * p + (4 + 1) = 514 + 10 * p + 5 from rfl] at s5
      rw [s4, s5]
      refine ⟨Hd_congr (fun i hi => by rw [o _ (by omega)]; exact a1 i hi) k1, ?_, ?_⟩
      · rcases e5 with q | ⟨r, q1, q2⟩
        · rw [if_pos q, if_pos (hfo.mpr q), if_pos (hfo.mpr q)]
          exact k2.2.2.2.2.1
        · by_cases q : fo = 0
          · rw [if_pos q, if_pos (hfo.mpr q), if_pos (hfo.mpr q)]
            exact k2.2.2.2.2.1
          · rw [if_neg q, if_neg (fun x => q (hfo.mp x)), if_neg (fun x => q (hfo.mp x)), q2, nI_clamp (by omega)]
            exact (k3 r (by omega)).2.1
      · have c4 : (4 : Int32) = nI 4 := rfl
        have c10000 : (10000 : Int32) = nI 10000 := rfl
        by_cases q : fo = 0
        · rw [if_pos q, if_pos (by rw [q]; rfl)]
          refine ⟨fo, 0, 0, z, b1, by decide, by decide, b2, rfl, by decide, rfl, rfl, ?_⟩
          rw [show (4 : Int32) * 0 = nI 0 by decide, c10000, pk_mul, nI_add, nI_add]
        · obtain ⟨r, q1, q2⟩ := e5.resolve_left q
          rw [if_neg q, if_neg (nI_ne0 (by omega) (by omega)), q2]
          refine ⟨fo, r + 1, 0, z, b1, by omega, by decide, b2, rfl, (nI_pred r).symm, rfl, rfl, ?_⟩
          rw [nI_1, c4, pk_mul, c10000, pk_mul, nI_add, nI_add]
          congr 1
    · refine PaR_congr (fun j hj => ?_) ?_ ?_ ?_ (k3 p (by omega))
      · rw [o _ (by omega), a11 _ (by omega) (by omega) (by omega) (by omega) (by omega)]
      · rw [j1, pk_uLn gp]
      · rw [r2, upd_n gp]
      · rw [r3, upd_n gp]
  · rw [r4]
    exact LnR_join (LnR_congr (fun j h1 h2 => a11 j (by omega) (by omega) (by omega) (by omega) (by omega)) ⟨f, by omega, h10⟩ k4) g10 hf
  · rw [ro 5 (by decide) (by decide) (by decide) (by decide) (by decide)]
    exact LnR_congr (fun j h1 h2 => by rw [o j (by omega), a11 j (by omega) (by omega) (by omega) (by omega) (by omega)]) (Iv_b iv) k5
  · exact KaR_congr (fun j h1 h2 => by rw [o j (by omega), a11 j (by omega) (by omega) (by omega) (by omega) (by omega)]) (ro 6 (by decide) (by decide) (by decide) (by decide) (by decide)) j7 (ro 8 (by decide) (by decide) (by decide) (by decide) (by decide)) k6
/-- what the law's sending asks -/
theorem send_p {H : Nat} {I : Nat → Nat → Int32} {J : Nat → Nat → Int64} {s : Nat → Int32} {now : Int64} (iv : Iv H s) (k : LwR I J s now) : nxF (I 0) (J 1) (I 2) (I 3) now (I 0 2) (I 0 3) = 120 ∨ ∃ r : Nat, r < 64 ∧ tuF (I 0) (I 3) (I 0 3) = nI r := by
  obtain ⟨fo, z, b1, b2, e1, e2, e3, e4, e5⟩ := snd_v iv k
  rcases e5 with q | ⟨r, q1, q2⟩
  · exact Or.inl (e4.mpr q)
  · right
    have := k.2.2.2.2.2.2
    refine ⟨r, by omega, ?_⟩
    rw [k.2.1.2.2.2.1]
    exact (tu_ok k (s 7)).trans q2
