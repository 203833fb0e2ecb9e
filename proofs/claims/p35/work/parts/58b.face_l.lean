/-! ===== what lies behind the face ===== -/
theorem Iv_seg {H : Nat} {s t : Nat → Int32} (h : ∀ j, j < 5514 → t j = s j) (iv : Iv H s) : Iv H t := by
  obtain ⟨h0, ha, hb, hc, hd⟩ := iv
  exact ⟨h0, IvA_congr (fun j hj => h j (by omega)) (fun p hp => ⟨h _ (by omega), h _ (by omega), h _ (by omega), h _ (by omega)⟩) ha, IvB_congr (fun j hj => h j (by omega)) hb, IvC_congr (h _ (by omega)) (fun k hk => h _ (by omega)) hc, IvD_congr (fun j hj => h j (by omega)) hd⟩
theorem nOf_le {H : Nat} {s : Nat → Int32} (iv : Iv H s) : nOf s ≤ 500 ∧ s 9 = nI (nOf s) := by
  obtain ⟨n, hn, hn9, -⟩ := iv.2.1
  have : nOf s = n := by unfold nOf; rw [hn9, nI_clamp (by omega)]
  rw [this]
  exact ⟨hn, hn9⟩
theorem nOf_seg {s t : Nat → Int32} (h : ∀ j, j < 5514 → t j = s j) : nOf t = nOf s := by unfold nOf; rw [h 9 (by omega)]
theorem CsR_seg {μ : qMM} {o H : Nat} {s t : Nat → Int32} (h : ∀ j, j < 5514 → t j = s j) (iv : Iv H s) (r : CsR μ o s) : CsR μ o t := by
  obtain ⟨r1, r2, r3, r4⟩ := r
  have hn := (nOf_le iv).1
  obtain ⟨n, hn0, hn9, hpk, f, hf, hf1, -⟩ := id iv.2.1
  obtain ⟨b, hb, hb1, -⟩ := id iv.2.2.1
  exact ⟨SnR_congr (fun j hj => h j (by omega)) (fun p hp => h _ (by omega)) r1, RcR_congr (fun j j1 j2 j3 j4 => h j (by omega)) r2, LkR_congr hf1 hf (fun j j1 j2 => h j (by omega)) r3, LkR_congr hb1 hb (fun j j1 j2 => h j (by omega)) r4⟩
theorem LgR_seg {μ : qMM} {lg H : Nat} {s t : Nat → Int32} (h : ∀ j, j < 5514 → t j = s j) (iv : Iv H s) (r : LgR μ lg s) : LgR μ lg t := by
  have hn := (nOf_le iv).1
  exact LgR_keep iv.2.1 (h 9 (by omega)) (fun p hp j hj => h _ (by omega)) (fun p hp => ⟨rfl, rfl, rfl, rfl, rfl⟩) r
theorem CsR_mem {μ μ' : qMM} {o : Nat} {s : Nat → Int32} (h : ∀ b, o ≤ b → b < o + 80 → mI μ' b = mI μ b) (r : CsR μ o s) : CsR μ' o s :=
  ⟨SnR_mem (fun b b1 b2 => h b (by omega) (by omega)) r.1, RcR_mem (fun b b1 b2 => h b (by omega) (by omega)) r.2.1, LkR_mem (h _ (by omega) (by omega)) (h _ (by omega) (by omega)) r.2.2.1, LkR_mem (h _ (by omega) (by omega)) (h _ (by omega) (by omega)) r.2.2.2⟩
theorem LgR_mem {μ μ' : qMM} {lg : Nat} {s : Nat → Int32} (hA : IvA s) (h : ∀ b, lg + 2 ≤ b → b < lg + 1006 → mI μ' b = mI μ b) (r : LgR μ lg s) : LgR μ' lg s := by
  obtain ⟨n, hn, hn9, -⟩ := id hA
  have e2 : nOf s = n := by unfold nOf; rw [hn9, nI_clamp (by omega)]
  exact LgR_keep hA rfl (fun _ _ _ _ => rfl) (fun p hp => by
    rw [h (lg + 2 + p) (by omega) (by omega), h (lg + 503 + p) (by omega) (by omega), h (lg + 1003) (by omega) (by omega), h (lg + 1004) (by omega) (by omega), h (lg + 1005) (by omega) (by omega)]
    exact ⟨rfl, rfl, rfl, rfl, rfl⟩) r
theorem Iv_up {H H' : Nat} {s : Nat → Int32} (h : H ≤ H') (iv : Iv H s) : Iv H' s := Iv_mono h iv
/-- the present state goes on -/
theorem HsG_op {H H' : Nat} {μ μ' : qMM} {h w c : Nat} {s s' : Nat → Int32} {sg : Nat → Nat → Int32} (q : StQ μ μ' (h + 1) (h + 1007) s s') (g : HsG H μ h s w c sg) (iv : Iv H' s') (hH : H ≤ H') (hn : nOf s ≤ nOf s') : HsG H' μ' h s' w c sg := by
  obtain ⟨⟨g1, g2, g3, g4⟩, ⟨g5, g6, g7⟩, g8, g9⟩ := g
  obtain ⟨q1, q2, q3, q4, q5⟩ := q
  refine ⟨⟨by rw [q4 h (by omega) (by omega)]; exact g1, g2, by rw [q4 h (by omega) (by omega)]; exact g3, g4⟩, ⟨q2, q3, iv⟩, fun i hi => ?_, g9⟩
  obtain ⟨e1, e2, e3, e4⟩ := g8 i hi
  refine ⟨CsR_mem (fun b b1 b2 => q4 b ?_ ?_) e1, LgR_keep e3.2.1 rfl (fun _ _ _ _ => rfl) (fun p hp => ?_) e2, Iv_up hH e3, by omega⟩
  · unfold plC at b1 b2
    omega
  · unfold plC at b1 b2
    omega
  · obtain ⟨u1, u2, u3, u4, u5⟩ := q5 p (by omega)
    exact ⟨u1, u2, u3, u4, u5⟩
abbrev plN (h w : Nat) : Nat := h + 1088 + 80 * ((w + 1) % 5)
theorem HsG_copy {H : Nat} {μ μ' : qMM} {h w c : Nat} {s : Nat → Int32} {sg : Nat → Nat → Int32} (g : HsG H μ h s w c sg) (hb : ∀ b, ¬ (plN h w ≤ b ∧ b < plN h w + 80) → mI μ' b = mI μ b) : HsG H μ' h s w c sg := by
  obtain ⟨⟨g1, g2, g3, g4⟩, ⟨g5, g6, g7⟩, g8, g9⟩ := g
  have hb' : ∀ b, b < h + 1088 → mI μ' b = mI μ b := fun b h1 => hb b (by unfold plN; omega)
  refine ⟨⟨by rw [hb' h (by omega)]; exact g1, g2, by rw [hb' h (by omega)]; exact g3, g4⟩, ⟨CsR_mem (fun b b1 b2 => hb' b (by omega)) g5, LgR_mem g7.2.1 (fun b b1 b2 => hb' b (by omega)) g6, g7⟩, fun i hi => ?_, g9⟩
  obtain ⟨e1, e2, e3, e4⟩ := g8 i hi
  refine ⟨CsR_mem (fun b b1 b2 => hb b ?_) e1, LgR_mem e3.2.1 (fun b b1 b2 => hb' b (by omega)) e2, e3, e4⟩
  unfold plC at b1 b2
  unfold plN
  omega
theorem rem5_nI {w : Nat} (hw : w < 100) : rem5 (nI w) = nI (w % 5) := pk_rem (d := 5) (by omega) (by decide) (by decide)
/-- the state that lies in the next place is kept -/
theorem HsG_keep {H : Nat} {μ : qMM} {h w c : Nat} {s s0 : Nat → Int32} {sg : Nat → Nat → Int32} (g : HsG H μ h s w c sg) (k1 : CsR μ (plN h w) s0) (k2 : LgR μ (h + 1) s0) (k3 : Iv H s0) (k4 : nOf s0 ≤ nOf s) (k5 : ∀ i, i < c → nOf (sg i) ≤ nOf s0) : HsG H (wR μ h (kepC μ h)) h s ((w + 1) % 5) (if c = 4 then 4 else c + 1) (sgN sg c s0) := by
  obtain ⟨⟨g1, g2, g3, g4⟩, ⟨g5, g6, g7⟩, g8, g9⟩ := g
  have hb : ∀ b, b ≠ h → mI (wR μ h (kepC μ h)) b = mI μ b := fun b h1 => mI_wR_n h1
  have e2 : kepC μ h 2 = nI ((w + 1) % 5) := by
    unfold kepC
    rw [upd_n (by decide), upd_s, g1, nI_1]
    exact rem5_nI (by omega)
  have e3 : kepC μ h 3 = nI (if c = 4 then 4 else c + 1) := by
    unfold kepC
    rw [upd_s, g3, nI_1]
    by_cases q : c = 4
    · rw [if_pos q, q]
      rfl
    · rw [if_neg q, if_neg]
      intro z
      have := (nI_ltI (a := 4) (by decide) (by omega)).mp z
      omega
  have hS : ∀ t : Nat → Int32, CsR μ (h + 1007) t → CsR (wR μ h (kepC μ h)) (h + 1007) t := fun t r => CsR_mem (fun b b1 b2 => hb b (by omega)) r
  have hL : ∀ t : Nat → Int32, Iv H t → LgR μ (h + 1) t → LgR (wR μ h (kepC μ h)) (h + 1) t := fun t i r => LgR_mem i.2.1 (fun b b1 b2 => hb b (by omega)) r
  have hP : ∀ (t : Nat → Int32) (k : Nat), k ≥ h + 1088 → CsR μ k t → CsR (wR μ h (kepC μ h)) k t := fun t k hk r => CsR_mem (fun b b1 b2 => hb b (by omega)) r
  refine ⟨⟨by rw [mI_wR_s, e2], Nat.mod_lt _ (by decide), by rw [mI_wR_s, e3], by split <;> omega⟩, ⟨hS s g5, hL s g7 g6, g7⟩, fun i hi => ?_, fun i j hij hj => ?_⟩
  · unfold sgN
    by_cases q : c = 4
    · rw [if_pos q] at hi ⊢
      rw [if_pos q]
      by_cases q3 : i < 3
      · rw [if_pos q3]
        obtain ⟨f1, f2, f3, f4⟩ := g8 (i + 1) (by omega)
        have ep : plC h ((w + 1) % 5) 4 i = plC h w c (i + 1) := by
          unfold plC
          omega
        rw [ep]
        exact ⟨hP _ _ (by unfold plC; omega) f1, hL _ f3 f2, f3, f4⟩
      · rw [if_neg q3]
        have ep : plC h ((w + 1) % 5) 4 i = plN h w := by
          unfold plC plN
          omega
        rw [ep]
        exact ⟨hP _ _ (by unfold plN; omega) k1, hL _ k3 k2, k3, k4⟩
    · rw [if_neg q] at hi ⊢
      rw [if_neg q]
      by_cases q3 : i < c
      · rw [if_pos q3]
        obtain ⟨f1, f2, f3, f4⟩ := g8 i q3
        have ep : plC h ((w + 1) % 5) (c + 1) i = plC h w c i := by
          unfold plC
          omega
        rw [ep]
        exact ⟨hP _ _ (by unfold plC; omega) f1, hL _ f3 f2, f3, f4⟩
      · rw [if_neg q3]
        have ep : plC h ((w + 1) % 5) (c + 1) i = plN h w := by
          unfold plC plN
          omega
        rw [ep]
        exact ⟨hP _ _ (by unfold plN; omega) k1, hL _ k3 k2, k3, k4⟩
  · unfold sgN
    by_cases q : c = 4
    · rw [if_pos q] at hj ⊢
      rw [if_pos q]
      by_cases q3 : j < 3
      · rw [if_pos (by omega), if_pos q3]
        exact g9 _ _ (by omega) (by omega)
      · rw [if_neg q3]
        by_cases q4 : i < 3
        · rw [if_pos q4]
          exact k5 _ (by omega)
        · rw [if_neg q4]
          exact Nat.le_refl _
    · rw [if_neg q] at hj ⊢
      rw [if_neg q]
      by_cases q3 : j < c
      · rw [if_pos (by omega), if_pos q3]
        exact g9 _ _ (by omega) (by omega)
      · rw [if_neg q3]
        by_cases q4 : i < c
        · rw [if_pos q4]
          exact k5 _ (by omega)
        · rw [if_neg q4]
          exact Nat.le_refl _
theorem HsG_congr {H : Nat} {μ : qMM} {h w c : Nat} {s t : Nat → Int32} {sg sg' : Nat → Nat → Int32} (e : ∀ i, i < c → ∀ j, j < 5514 → sg' i j = sg i j) (es : ∀ j, j < 5514 → t j = s j) (g : HsG H μ h s w c sg) : HsG H μ h t w c sg' := by
  obtain ⟨g1, ⟨g5, g6, g7⟩, g8, g9⟩ := g
  refine ⟨g1, ⟨CsR_seg es g7 g5, LgR_seg es g7 g6, Iv_seg es g7⟩, fun i hi => ?_, fun i j hij hj => ?_⟩
  · obtain ⟨e1, e2, e3, e4⟩ := g8 i hi
    exact ⟨CsR_seg (e i hi) e3 e1, LgR_seg (e i hi) e3 e2, Iv_seg (e i hi) e3, by rw [nOf_seg (e i hi), nOf_seg es]; exact e4⟩
  · rw [nOf_seg (e i (by omega)), nOf_seg (e j hj)]
    exact g9 i j hij hj
theorem sg_past {d p s0 : Nat → Int32} {c : Nat} (hc : c ≤ 4) (hd : ∀ j, j < 5514 → d j = s0 j) : ∀ i, i < (if c = 4 then 4 else c + 1) → ∀ j, j < 5514 → sgP (pastF d p c) i j = sgN (sgP p) c s0 i j := by
  intro i hi j hj
  unfold sgP sgN pastF
  by_cases q : c = 4
  · rw [if_pos q] at hi
    rw [if_pos q, if_pos q, cpyE]
    by_cases q3 : i < 3
    · rw [if_neg (by omega), if_pos q3, cpyE, if_pos (by omega)]
      congr 1
      omega
    · rw [if_pos (by omega), if_neg q3, show 0 + (5514 * i + j - 16542) = j by omega]
      exact hd j hj
  · rw [if_neg q] at hi
    rw [if_neg q, if_neg q, cpyE]
    by_cases q3 : i < c
    · rw [if_neg (by omega), if_pos q3]
    · rw [if_pos (by omega), if_neg q3, show 0 + (5514 * i + j - 5514 * c) = j by
        have : i = c := by omega
        rw [this]
        omega]
      exact hd j hj
theorem TxG_mem {μ μ' : qMM} {h : Nat} {m m' : Mod} (h1 : mI μ' (h + 1488) = mI μ (h + 1488)) (h2 : mI μ' (h + 1489) = mI μ (h + 1489)) (e5 : m'.f 5 = m.f 5) (et : m'.t = m.t) (r : TxG μ h m) : TxG μ' h m' := by
  unfold TxG
  rw [h1, h2, e5, et]
  exact r
/-- a call that saves: the reference's end of it -/
theorem HsV_end {H : Nat} {μ : qMM} {h w c : Nat} {m m2 : Mod} (e3 : m2.f 3 = nI c) (hc : c ≤ 4) (ep : m2.p = m.p) (ed : ∀ j, j < 5514 → m2.d j = m.s j) (g : HsG H μ h m2.s ((w + 1) % 5) (if c = 4 then 4 else c + 1) (sgN (sgP m.p) c m.s)) (tx : TxG μ h m2) : HsV H μ h (endM m2) := by
  have f3 : (endM m2).f 3 = nI (if c = 4 then 4 else c + 1) := by
    show (upd (upd m2.f 3 (if m2.f 3 = 4 then 4 else m2.f 3 + 1)) 6 0) 3 = _
    rw [upd_n (by decide), upd_s, e3]
    by_cases q : c = 4
    · rw [if_pos q, q]
      rfl
    · rw [if_neg q, if_neg (show ¬ nI c = (4 : Int32) from fun z => q ((nI_eq (b := 4) (by omega) (by decide)).mp z)), nI_1]
  have fs : (endM m2).s = m2.s := rfl
  have fp : (endM m2).p = pastF m2.d m2.p (m2.f 3).toNatClampNeg := rfl
  refine ⟨⟨(w + 1) % 5, _, f3, ?_⟩, TxG_mem (m := m2) rfl rfl ?_ rfl tx⟩
  · rw [fs, fp, e3, nI_clamp (by omega), ep]
    exact HsG_congr (sg_past hc ed) (fun _ _ => rfl) g
  · show (upd (upd m2.f 3 (if m2.f 3 = 4 then 4 else m2.f 3 + 1)) 6 0) 5 = _
    rw [upd_n (by decide), upd_n (by decide)]
theorem HsS_Sm {μ μ' : qMM} {h : Nat} (k : Sm μ μ') (r : HsS μ h) : HsS μ' h := by
  obtain ⟨F, rfl⟩ := k
  exact r
theorem HsV_id {H : Nat} {μ : qMM} {h : Nat} {m m' : Mod} (e3 : m'.f 3 = m.f 3) (e5 : m'.f 5 = m.f 5) (es : m'.s = m.s) (ep : m'.p = m.p) (et : m'.t = m.t) (r : HsV H μ h m) : HsV H μ h m' := by
  obtain ⟨⟨w, c, h3, g⟩, tx⟩ := r
  exact ⟨⟨w, c, by rw [e3]; exact h3, by rw [es, ep]; exact g⟩, TxG_mem rfl rfl e5 et tx⟩
theorem HsG_up {H H' : Nat} {μ : qMM} {h w c : Nat} {s : Nat → Int32} {sg : Nat → Nat → Int32} (hH : H ≤ H') (g : HsG H μ h s w c sg) : HsG H' μ h s w c sg := by
  obtain ⟨g1, ⟨g5, g6, g7⟩, g8, g9⟩ := g
  exact ⟨g1, ⟨g5, g6, Iv_up hH g7⟩, fun i hi => ⟨(g8 i hi).1, (g8 i hi).2.1, Iv_up hH (g8 i hi).2.2.1, (g8 i hi).2.2.2⟩, g9⟩
theorem HsV_up {H H' : Nat} {μ : qMM} {h : Nat} {m : Mod} (hH : H ≤ H') (r : HsV H μ h m) : HsV H' μ h m := by
  obtain ⟨⟨w, c, h3, g⟩, tx⟩ := r
  exact ⟨⟨w, c, h3, HsG_up hH g⟩, tx⟩
/-- a call that only tells -/
theorem HsQ_tel {H : Nat} {μ : qMM} {h : Nat} {m : Mod} (r : HsP H μ h m) : HsQ H μ μ h (telM m) := by
  refine ⟨Sm_refl, HsV_up (by omega) (HsV_id ?_ ?_ rfl rfl rfl r.2.2.2), fun _ _ => rfl⟩
  · show upd m.f 6 0 3 = _
    exact upd_n (by decide)
  · show upd m.f 6 0 5 = _
    exact upd_n (by decide)
theorem StP_of {H : Nat} {μ : qMM} {h w c : Nat} {s : Nat → Int32} {sg : Nat → Nat → Int32} (k : HsS μ h) (hN : mN μ = none) (g : HsG H μ h s w c sg) : StP μ (h + 1) (h + 1007) H s := ⟨k.2.2.1, k.2.1, by omega, g.2.1.1, g.2.1.2.1, hN, g.2.1.2.2⟩
/-- a call that saves, and then goes on with the present state -/
theorem HsQ_sav {H H' : Nat} {μ μ1 μ2 : qMM} {h : Nat} {m m2 : Mod} (r : HsP H μ h m) (q : QX8_saveState h μ μ1) (p : ∀ w c sg, HsG H μ1 h m.s w c sg → StQ μ1 μ2 (h + 1) (h + 1007) m.s m2.s) (iv : Iv H' m2.s) (h1 : H ≤ H') (h2 : H' ≤ H + 2000) (hn : nOf m.s ≤ nOf m2.s) (e3 : m2.f 3 = m.f 3) (e5 : m2.f 5 = m.f 5) (et : m2.t = m.t) (ep : m2.p = m.p) (ed : ∀ j, j < 5514 → m2.d j = m.s j) : HsQ H μ μ2 h (endM m2) := by
  obtain ⟨k1, k2, k3, ⟨w, c, f3, g⟩, tx⟩ := r
  obtain ⟨q1, q2, q3⟩ := q
  have g1 := q2 _ _ _ _ _ g
  have hp := p _ _ _ g1
  obtain ⟨p1, p2, p3, p4, p5⟩ := id hp
  have g2 := HsG_op hp g1 iv h1 hn
  have hb : ∀ b, b ≠ h → ¬ (h + 3 ≤ b ∧ b < h + 1488) → mI μ2 b = mI μ b := fun b b1 b2 => by rw [p4 b (by omega) (by omega), q3 b b1 (by omega)]
  refine ⟨Sm_trans q1 p1, HsV_up h2 (HsV_end (w := w) (m := m) (by rw [e3, f3]) g.1.2.2.2 ep ed g2 (TxG_mem (hb _ (by omega) (by omega)) (hb _ (by omega) (by omega)) e5 et tx)), fun b b1 => hb b (by omega) (by omega)⟩
