/-! ===== the law: what its cases need ===== -/
theorem qIld_s {n : Nat} {xs : Nat → Int32} {μ : qMM} {a : Nat} {i : Int32} {k : Int32 → Prop} : qIld (some (n, xs)) μ a i k = (vp_in i n ∧ k (xs i.toNatClampNeg)) := rfl
theorem qAln_s {n : Nat} {xs : Nat → Int32} {μ : qMM} {a : Nat} {k : Int32 → Prop} : qAln (some (n, xs)) μ a k = k (nI n) := rfl
theorem xL_cell {sc : Nat → Option (Nat × (Nat → Int32))} {b L : Nat} {xs : Nat → Int32} (hsc : sc b = some (L, xs)) (hL : L ≤ 260) (x1 : Nat) (x2 : Int32) (μ : qMM) (hp : PL_cell b x1 x2 μ) : EX (SL_cell sc (rti 0 0 (QL_cell L xs x1 x2 μ)) (fun _ _ _ => False)) 0 [some (.ref x1), some (.int x2)] [] [] μ (0, 0) := by
  obtain ⟨rfl, n, hn, rfl⟩ := hp
  have cn : (nI n).toNatClampNeg = n := nI_clamp (by omega)
  by_cases h : nI L ≤ nI n
  · simp only [eL_cell_0, eL_cell_1, eL_cell_2, eL_cell_3, eL_cell_6, eL_cell_7, eL_cell_8, eL_cell_9, eL_cell_12, eL_cell_14, eL_cell_15, eL_cell_16, eL_cell_17, eL_cell_18, hsc, qAln_s, h, rtv_at, rti_at, rtj_at, rtd_at, rta_at, qOk, qOkR, QL_cell, cellF, cn, one0, eq_self, or_true, true_or, not_true_eq_false, not_false_eq_true, true_imp_iff, false_imp_iff, true_and, and_true, Classical.not_not]
    refine ⟨?_, Nat.le_refl _, Nat.le_refl _⟩
    simp
  · have hlt : n < L := by
      rcases Nat.lt_or_ge n L with q | q
      · exact q
      · exact absurd (nI_le q (by omega)) h
    have vn : vp_in (nI n) L := vpn hlt (by omega)
    simp only [eL_cell_0, eL_cell_1, eL_cell_2, eL_cell_3, eL_cell_6, eL_cell_7, eL_cell_8, eL_cell_9, eL_cell_12, eL_cell_14, eL_cell_15, eL_cell_16, eL_cell_17, eL_cell_18, hsc, qAln_s, qIld_s, h, vn, rtv_at, rti_at, rtj_at, rtd_at, rta_at, qOk, qOkR, QL_cell, cellF, cn, one0, eq_self, or_true, true_or, not_true_eq_false, not_false_eq_true, true_imp_iff, false_imp_iff, true_and, and_true, Classical.not_not]
    refine ⟨?_, Nat.le_refl _, Nat.le_refl _⟩
    simp
theorem sav6 {m : Mod} {s : Nat → Int32} : (savM m s).f 6 = 0 := rfl
theorem savS {m : Mod} {s : Nat → Int32} : (savM m s).s = s := rfl
theorem endS {m : Mod} : (endM m).s = m.s := rfl
theorem SoV_mono {H H' x : Nat} {m : Mod} {I : Nat → Nat → Int32} {J : Nat → Nat → Int64} {ν : qMM} (hH : H ≤ H') (hB : H' + 2000 < 2 ^ 30) (h : SoV H x m I J ν) : SoV H' x m I J ν := ⟨⟨h.1.1, h.1.2.1, hB, HsV_up hH h.1.2.2.2⟩, h.2⟩
/-- where a turn's case ends: all agrees again -/
def LcK (b L : Nat) (xs : Nat → Int32) (R : Option Value → qMM → Nat × Nat → Prop) (X : String → qMM → Nat × Nat → Prop) (x H c s : Nat) (tu tt z v : Int32) : Prop :=
  ∀ (ν : qMM) (m : Mod) (I : Nat → Nat → Int32) (J : Nat → Nat → Int64) (now : Int64) (c' s' : Nat) (l18 l19 l20 l21 l22 l23 : Option Value), SoV (H + 2000) x m I J ν → LwR I J m.s now → c' ≤ c + 1 → s' ≤ s + 6 → EX (SL_law b L xs R X) 1308 [some (.ref b), some (.ref x), some (.ref (x + 1492)), some (.ref (x + 1492 + 1)), some (.ref (x + 1492 + 2)), some (.ref (x + 1492 + 3)), some (.ref (x + 1492 + 4)), some (.ref (x + 1492 + 5)), some (.ref (x + 1492 + 6)), some (.ref (x + 1492 + 7)), some (.ref (x + 1492 + 8)), none, none, some (.int 1), some (.int tu), some (.int tt), some (.int z), some (.int v), l18, l19, l20, l21, l22, l23] [none, none, none, none, none, none, none, none, none, none, none, some (.long now), none, none, none, none, none, none, none, none, none, none, none, none] [] (lm ν (x + 1492) I J) (c', s')
theorem go_hd {s : Nat → Int32} {now : Int64} {v : Int32} (h : Hd now s) (sd : SdR v (s 4) (s 5)) : Hd (movF now v 1) (goesF s) := by
  refine mov_ok h sd ?_ ?_ ?_ ?_
  · unfold goesF
    rw [upd_n (by decide), upd_n (by decide)]
  · unfold goesF
    rw [upd_n (by decide), upd_s, Int32.one_mul]
  · unfold goesF
    rw [upd_s, Int32.one_mul]
  · unfold goesF
    rw [upd_n (by decide), upd_n (by decide)]
theorem go_ok {H : Nat} {I : Nat → Nat → Int32} {J : Nat → Nat → Int64} {s : Nat → Int32} {now : Int64} (iv : Iv H s) (k : LwR I J s now) : LwR I J (goesF s) (movF now (I 0 4) 1) := LwR_now iv (fun j hj => by
    unfold goesF
    rw [upd_n (by omega), upd_n (by omega)]) (go_hd k.1 k.2.1.2.2.2.2.1) k
theorem and_id {q : Nat} (h : q < 65536) : nI q &&& 65535 = nI q := by
  rw [pk_andN (by omega) (m := 65535) 16 (by decide)]
  congr 1
  omega
theorem so_la {H x : Nat} {m : Mod} {I I' I2 : Nat → Nat → Int32} {J J' J2 : Nat → Nat → Int64} {ν μ' : qMM} (h : SoV H x m I J ν) (q : LaU (lm ν (x + 1492) I J) μ' (x + 1492) I' J') (hI : ∀ k, k < 9 → I' k = I2 k) (hJ : ∀ k, k < 9 → J' k = J2 k) : ∃ ν', μ' = lm ν' (x + 1492) I2 J2 ∧ SoV H x m I2 J2 ν' := by
  obtain ⟨q1, q2, q3, q4⟩ := q
  have e : lm μ' (x + 1492) I2 J2 = μ' := lm_eq (fun k hk => (q2 k hk).trans (hI k hk)) (fun k hk => (q3 k hk).trans (hJ k hk))
  have eS : ∀ b, mS μ' b = mS (lm ν (x + 1492) I J) b := fun b => by unfold mS; rw [q1]
  obtain ⟨⟨h1, h2, h3, h4⟩, h5⟩ := h
  refine ⟨μ', e.symm, ?_⟩
  unfold SoV
  rw [e]
  refine ⟨⟨?_, ?_, h3, HsV_fr2 eS (fun b b1 b2 => (q4 b (by omega)).1) h4⟩, LaS_1 q1 h5⟩
  · refine ⟨?_, ?_, ?_, ?_, ?_, ?_⟩
    · unfold obX8; rw [eS]; exact h1.1
    · exact LgS_fr (μ := lm ν (x + 1492) I J) (fun b b1 b2 => ⟨eS b, (q4 b (by omega)).1⟩) h1.2.1
    · exact StS_fr (μ := lm ν (x + 1492) I J) (fun b b1 b2 => ⟨eS b, (q4 b (by omega)).1⟩) h1.2.2.1
    · unfold PlA; rw [eS]; exact h1.2.2.2.1
    · exact fun i hi => StS_fr (μ := lm ν (x + 1492) I J) (fun b b1 b2 => ⟨eS b, (q4 b (by omega)).1⟩) (h1.2.2.2.2.1 i hi)
    · obtain ⟨a1, a2, a3, a4⟩ := h1.2.2.2.2.2
      refine ⟨?_, ?_, ?_, ?_⟩
      · unfold obX4; rw [eS]; exact a1
      · unfold iA; rw [eS]; exact a2
      · unfold iA; rw [eS]; exact a3
      · unfold iA; rw [eS]; exact a4
  · unfold mN; rw [q1]; exact h2
section
variable {ν : qMM} {a : Nat} {I : Nat → Nat → Int32} {J : Nat → Nat → Int64} {now : Int64} {p : Nat}
theorem lJ_lm {k : Nat} (hk : k < 9) : lJ (lm ν a I J) a k = J k := mJ_lm hk
theorem seI_lm (k : Nat) (hk : k < 9) : seI (lI (lm ν a I J) a) (lJ (lm ν a I J) a) now k = seI I J now k := by
  unfold seI
  rw [lI_lm (k := 0) (by decide), lI_lm (k := 2) (by decide), lI_lm (k := 3) (by decide), lI_lm (k := 4) (by decide), lI_lm hk, lJ_lm (k := 1) (by decide)]
theorem seJ_lm (k : Nat) (hk : k < 9) : seJ (lI (lm ν a I J) a) (lJ (lm ν a I J) a) now k = seJ I J now k := by
  unfold seJ
  rw [lI_lm (k := 0) (by decide), lJ_lm (k := 1) (by decide), lJ_lm hk]
theorem rx_lm : rxF (lI (lm ν a I J) a) p = rxF I p := by
  unfold rxF
  rw [lI_lm (k := 0) (by decide), lI_lm (k := 3) (by decide)]
theorem rr_lm : rrF (lI (lm ν a I J) a) p = rrF I p := by
  unfold rrF
  rw [lI_lm (k := 3) (by decide)]
theorem ra_lm : raF (lI (lm ν a I J) a) p = raF I p := by
  unfold raF
  rw [rx_lm, rr_lm]
theorem rl_lm : rlF (lI (lm ν a I J) a) p = rlF I p := by
  unfold rlF
  rw [lI_lm (k := 0) (by decide)]
theorem rD_lm : rcD (lI (lm ν a I J) a) p = rcD I p := by
  unfold rcD
  rw [rx_lm, lI_lm (k := 6) (by decide)]
theorem rU_lm : rcU (lI (lm ν a I J) a) p = rcU I p := by
  unfold rcU
  rw [ra_lm, lI_lm (k := 6) (by decide), lI_lm (k := 3) (by decide)]
theorem rh_lm : rhF (lI (lm ν a I J) a) (lJ (lm ν a I J) a) p = rhF I J p := by
  unfold rhF
  rw [ra_lm, rr_lm, lI_lm (k := 3) (by decide), lI_lm (k := 2) (by decide), lI_lm (k := 8) (by decide), lJ_lm (k := 1) (by decide), lJ_lm (k := 7) (by decide)]
theorem rs_lm : rsF (lI (lm ν a I J) a) p = rsF I p := by
  unfold rsF
  rw [ra_lm, lI_lm (k := 3) (by decide), lI_lm (k := 2) (by decide), lI_lm (k := 8) (by decide)]
theorem RcP_lm (h : RcP I p) : RcP (lI (lm ν a I J) a) p := by
  unfold RcP at h ⊢
  rw [rr_lm, rx_lm, rD_lm, rU_lm, lI_lm (k := 0) (by decide), lI_lm (k := 3) (by decide), lI_lm (k := 5) (by decide)]
  exact h
theorem rcR_lm : rcR (lI (lm ν a I J) a) (lJ (lm ν a I J) a) p = rcR I J p := by
  unfold rcR
  simp only [rD_lm, rU_lm, rh_lm, rx_lm, lJ_lm (k := 1) (show 1 < 9 by decide)]
theorem rcI_lm (k : Nat) (hk : k < 9) : rcI (lI (lm ν a I J) a) (lJ (lm ν a I J) a) p k = rcI I J p k := by
  unfold rcI
  simp only [rD_lm, rU_lm, rh_lm, rx_lm, rl_lm, rs_lm, lJ_lm (k := 1) (show 1 < 9 by decide), lI_lm (k := 0) (show 0 < 9 by decide), lI_lm (k := 5) (show 5 < 9 by decide), lI_lm (k := 6) (show 6 < 9 by decide), lI_lm (k := 8) (show 8 < 9 by decide), lI_lm hk]
theorem rcJ_lm (k : Nat) (hk : k < 9) : rcJ (lI (lm ν a I J) a) (lJ (lm ν a I J) a) p k = rcJ I J p k := by
  unfold rcJ
  simp only [rD_lm, rU_lm, rh_lm, rx_lm, rl_lm, lJ_lm (k := 7) (show 7 < 9 by decide), lJ_lm hk]
end
theorem Iv_dl {H : Nat} {s : Nat → Int32} {f i : Nat} (iv : Iv H s) (h : s 10 = nI f) (hf : f ≤ 20) (hi : i < f) : ∃ p : Nat, p < nOf s ∧ s (11 + i) = nI p := by
  have h9 := (Iv_n iv).1
  obtain ⟨-, ⟨n, hn, e9, -, f', hf', e10, q⟩, -⟩ := iv
  have e : f' = f := (nI_eq (by omega) (by omega)).mp (e10.symm.trans h)
  subst e
  obtain ⟨p, hp, ep⟩ := q i hi
  have : nOf s = n := by
    unfold nOf
    rw [e9, nI_clamp (by omega)]
  exact ⟨p, by omega, ep⟩
theorem hol_s {m : Mod} : (holM m).s = m.s := Mds
theorem hol_g {m : Mod} : (holM m).g = m.g := Mdg
theorem dlv_a {m : Mod} {i p : Nat} (h : inL m.s 10 (nI i)) (hi : i < 2 ^ 31) (cp : (m.s (11 + i)).toNatClampNeg = p) : (deliverA m (nI i)).1 = outF (lateF (takeF m.s 10 i) p) m.g p ∧ (deliverA m (nI i)).2.s = recS (takeF m.s 10 i) m.g p ∧ (deliverA m (nI i)).2.f 6 = 0 := by
  have e : deliverA m (nI i) = ((dlvM (holM m) i).f 8, endM (dlvM (holM m) i)) := by
    unfold deliverA
    rw [if_pos h, nI_clamp hi]
  generalize hD : dlvM (holM m) i = D at e
  have f8 : D.f 8 = outF (lateF (takeF m.s 10 i) p) m.g p := by
    rw [← hD]
    unfold dlvM takeM
    rw [Mgf, Msf, Mff, upd_s, hol_s, cp]
    unfold recA
    rw [Mss, Msg, hol_g]
  have fs : D.s = recS (takeF m.s 10 i) m.g p := by
    rw [← hD]
    unfold dlvM
    rw [Mgs, Mss, hol_s, hol_g, cp]
  rw [e]
  exact ⟨f8, endS.trans fs, end6⟩
theorem los_a {m : Mod} {k i : Nat} (h : inL m.s k (nI i)) (hi : i < 2 ^ 31) : (loseA m k (nI i)).1 = m.s (k + 1 + i) ∧ (loseA m k (nI i)).2.s = takeF m.s k i ∧ (loseA m k (nI i)).2.f 6 = 0 := by
  have e : loseA m k (nI i) = ((losM (holM m) k i).f 8, endM (losM (holM m) k i)) := by
    unfold loseA
    rw [if_pos h, nI_clamp hi]
  generalize hD : losM (holM m) k i = D at e
  have f8 : D.f 8 = m.s (k + 1 + i) := by
    rw [← hD]
    unfold losM
    rw [Msf, Mff, upd_s, hol_s]
  have fs : D.s = takeF m.s k i := by
    rw [← hD]
    unfold losM
    rw [Mss, hol_s]
  rw [e]
  exact ⟨f8, endS.trans fs, end6⟩
theorem ret_a {m : Mod} {i : Nat} (h : inL m.s 31 (nI i)) (hi : i < 2 ^ 31) : (deliverBackA m (nI i)).1 = m.s (32 + i) ∧ (deliverBackA m (nI i)).2.s = hearF (takeF m.s 31 i) (m.s (32 + i)) ∧ (deliverBackA m (nI i)).2.f 6 = 0 := by
  have e : deliverBackA m (nI i) = ((retM (holM m) i).f 8, endM (retM (holM m) i)) := by
    unfold deliverBackA
    rw [if_pos h, nI_clamp hi]
  generalize hD : retM (holM m) i = D at e
  have f8 : D.f 8 = m.s (32 + i) := by
    rw [← hD]
    unfold retM
    rw [Msf, Mff, upd_s, hol_s]
  have fs : D.s = hearF (takeF m.s 31 i) (m.s (32 + i)) := by
    rw [← hD]
    unfold retM
    rw [Mss, hol_s]
  rw [e]
  exact ⟨f8, endS.trans fs, end6⟩
theorem cpy_a {m : Mod} {i : Nat} (h : cpyR m.s (nI i) = 0) (hi : i < 2 ^ 31) : (copyA m (nI i)).1 = joinF 10 (m.s (11 + i)) m.s 10 ∧ (copyA m (nI i)).2.s = joinF 10 (m.s (11 + i)) m.s ∧ (copyA m (nI i)).2.f 6 = 0 := by
  have e : copyA m (nI i) = ((cpyM (holM m) i).f 8, endM (cpyM (holM m) i)) := by
    unfold copyA
    rw [if_pos h, nI_clamp hi]
  generalize hD : cpyM (holM m) i = D at e
  have f8 : D.f 8 = joinF 10 (m.s (11 + i)) m.s 10 := by
    rw [← hD]
    unfold cpyM
    rw [Msf, Mff, upd_s, hol_s]
  have fs : D.s = joinF 10 (m.s (11 + i)) m.s := by
    rw [← hD]
    unfold cpyM
    rw [Mss, hol_s]
  rw [e]
  exact ⟨f8, endS.trans fs, end6⟩
theorem fai_f {m : Mod} {k : Int32} : (faiM (holM m) k).f 6 = k := fai6
theorem fail_57 {s : Nat → Int32} {b : Nat} (hb : b ≤ 20) (h : s 31 = nI b) : failF s 57 = s 57 := by
  simp only [failF]
  by_cases q : upd (upd s 60 (s 60 + 1)) 56 (upd s 60 (s 60 + 1) 56 + 1) 56 < upd (upd s 60 (s 60 + 1)) 56 (upd s 60 (s 60 + 1) 56 + 1) 54
  · rw [if_pos q, upd_n (by decide), upd_n (by decide)]
  · rw [if_neg q, join_o (n := b) hb (by rw [upd_n (by decide), upd_n (by decide), upd_n (by decide), upd_n (by decide)]; exact h) (by omega), upd_n (by decide), upd_n (by decide), upd_n (by decide), upd_n (by decide)]
theorem tell_57 {s : Nat → Int32} {x out : Int32} {b : Nat} (hb : b ≤ 20) (h : s 31 = nI b) : tellF s x out 57 = s 57 + 1 := by
  simp only [tellF]
  generalize hv : upd (if out = 0 then upd (upd s 57 (s 57 + 1)) 58 (upd s 57 (s 57 + 1) 58 + 1) else upd (upd s 57 (s 57 + 1)) 59 (upd s 57 (s 57 + 1) 59 + 1)) 56 0 = v
  have v57 : v 57 = s 57 + 1 := by
    rw [← hv, upd_n (by decide)]
    by_cases q : out = 0
    · rw [if_pos q, upd_n (by decide), upd_s]
    · rw [if_neg q, upd_n (by decide), upd_s]
  have v31 : v 31 = nI b := by
    rw [← hv, upd_n (by decide), ← h]
    by_cases q : out = 0
    · rw [if_pos q, upd_n (by decide), upd_n (by decide)]
    · rw [if_neg q, upd_n (by decide), upd_n (by decide)]
  by_cases q : v 57 - v 57 / v 53 * v 53 = 0
  · rw [if_pos q, join_o hb v31 (by omega), v57]
  · rw [if_neg q, v57]
theorem rec_57 {H : Nat} {s g : Nat → Int32} {p : Nat} (iv : Iv H s) : recS s g p 57 = s 57 + (if outF (lateF s p) g p < 2 then 1 else 0) := by
  obtain ⟨b, hb, h31⟩ := Iv_b iv
  have t31 : lateF s p 31 = nI b := (late_o (by decide)).trans h31
  have t57 : lateF s p 57 = s 57 := late_o (by decide)
  show recS1 (lateF s p) g p 57 = _
  generalize lateF s p = t at *
  unfold recS1
  rcases out_4 (s := t) (g := g) (p := p) with e | e | e | e
  · rw [e, if_neg (by decide), if_neg (by decide), if_pos (by decide), tell_57 hb (by rw [keep_o (by decide) (by decide)]; exact t31), keep_o (by decide) (by decide), t57]
  · rw [e, if_neg (by decide), if_neg (by decide), if_pos (by decide), tell_57 hb (by rw [keep_o (by decide) (by decide)]; exact t31), keep_o (by decide) (by decide), t57]
  · rw [e, if_neg (by decide), if_pos rfl, if_neg (by decide), fail_57 hb t31, t57, Int32.add_zero]
  · rw [e, if_pos rfl, if_neg (by decide), upd_n (by decide), t57, Int32.add_zero]
theorem subadd (a b c : Int32) : a - b + c = a + c - b := by
  simp only [Int32.sub_eq_add_neg]
  ac_rfl
theorem nx_div {H : Nat} {I : Nat → Nat → Int32} {J : Nat → Nat → Int64} {s : Nat → Int32} {now : Int64} {c : Int32} {p : Nat} (iv : Iv H s) (k : LwR I J s now) (hp : p < 3) : nxF (I 0) (J 1) (I 2) (I 3) now (nI p) c / 10 = sizeF s (if truF s c = -1 ∨ s 8 = 1 then 0 else nI p) (truF s c) := by
  rw [nx_ok iv k]
  have e12 : (120 : Int32) / 10 = 12 := by decide
  by_cases g : truF s c = -1 ∨ s 8 = 1
  · rw [if_pos g, if_pos (Or.inr g), e12]
    rfl
  · rw [if_neg g]
    by_cases g0 : nI p = 0
    · rw [if_pos (Or.inl g0), e12, g0]
      rfl
    · rw [if_neg (fun q => q.elim g0 g)]
      have h63 := k.2.2.2.2.2.2
      rcases tru_r iv c with e | ⟨r, h1, h2, e⟩
      · exact absurd (Or.inl e) g
      · obtain ⟨z, hz, e2⟩ := szL_r s (nI p) (s 9 - nI r) r 4
        have es : sizeF s (nI p) (truF s c) = nI z := by
          unfold sizeF
          rw [if_neg g0, e, nI_clamp (by omega)]
          exact e2
        rw [es, show (10 : Int32) = nI 10 from rfl, pk_mul, nI_add, pk_div (by omega) (by decide) (by decide)]
        congr 1
        omega
