/-! ===== a packet is received: the law and the state go together ===== -/
/-- with the lateness in the first row -/
abbrev ltI (I : Nat → Nat → Int32) (p : Nat) : Nat → Nat → Int32 := up2 I 0 (rlF I p)
theorem lt_n {I : Nat → Nat → Int32} {p k : Nat} (h : k ≠ 0) : ltI I p k = I k := if_neg h
theorem lt_0' {I : Nat → Nat → Int32} {p : Nat} : ltI I p 0 = rlF I p := if_pos rfl
theorem lt_x {I : Nat → Nat → Int32} {p : Nat} : rxF (ltI I p) p = rxF I p := by
  unfold rxF nuF
  rw [lt_n (by decide), lt_0']
  simp [rlF, up_at]
theorem lt_r {I : Nat → Nat → Int32} {p : Nat} : rrF (ltI I p) p = rrF I p := by
  unfold rrF
  rw [lt_n (by decide)]
theorem lt_a {I : Nat → Nat → Int32} {p : Nat} : raF (ltI I p) p = raF I p := by
  unfold raF
  rw [lt_x, lt_r]
theorem lt_U {I : Nat → Nat → Int32} {p : Nat} : rcU (ltI I p) p ↔ rcU I p := by
  unfold rcU
  rw [lt_n (by decide), lt_n (by decide), lt_a]
theorem lt_D {I : Nat → Nat → Int32} {p : Nat} : rcD (ltI I p) p ↔ rcD I p := by
  unfold rcD
  rw [lt_n (by decide), lt_x]
theorem lt_h {I : Nat → Nat → Int32} {J : Nat → Nat → Int64} {p : Nat} : rhF (ltI I p) J p = rhF I J p := by
  unfold rhF
  rw [lt_n (by decide), lt_n (by decide), lt_n (by decide), lt_r, lt_a]
theorem lt_st {I : Nat → Nat → Int32} {p : Nat} : rsF (ltI I p) p = rsF I p := by
  unfold rsF
  rw [lt_n (by decide), lt_n (by decide), lt_n (by decide), lt_a]
/-- what follows a decoded packet: counts, and the message -/
theorem tell_ok {H : Nat} {K K' : Nat → Nat → Int32} {J : Nat → Nat → Int64} {u : Nat → Int32} {now : Int64} {x out : Int32} (iv : Iv H u) (k : LwR K J u now) (hout : out = 0 ∨ out = 1)
    (h0 : K' 0 = if out = 0 then upd (upd (upd (K 0) 12 (K 0 12 + 1)) 11 0) 13 (K 0 13 + 1) else upd (upd (upd (K 0) 12 (K 0 12 + 1)) 11 0) 14 (K 0 14 + 1)) (h5 : K' 5 = if remF (K 0 12 + 1) (K 0 8) = 0 then msF (K 5) x else K 5) (hK : ∀ j, j ≠ 0 → j ≠ 5 → K' j = K j) : LwR K' J (tellF u x out) now := by
  have q10 := k.2.1.2.2.2.2.2.2.2.2
  have g8 : K 0 8 = u 53 := k.2.1.2.2.2.2.2.2.1
  have e57 : K 0 12 = u 57 := q10 12 (by decide) (by decide)
  have e58 : K 0 13 = u 58 := q10 13 (by decide) (by decide)
  have e59 : K 0 14 = u 59 := q10 14 (by decide) (by decide)
  simp only [tellF]
  generalize hv : upd (if out = 0 then upd (upd u 57 (u 57 + 1)) 58 (upd u 57 (u 57 + 1) 58 + 1) else upd (upd u 57 (u 57 + 1)) 59 (upd u 57 (u 57 + 1) 59 + 1)) 56 0 = v
  have vo : ∀ j, ¬ (56 ≤ j ∧ j ≤ 59) → v j = u j := fun j hj => by
    rw [← hv, upd_n (by omega)]
    by_cases q : out = 0
    · rw [if_pos q, upd_n (by omega), upd_n (by omega)]
    · rw [if_neg q, upd_n (by omega), upd_n (by omega)]
  have v56 : v 56 = 0 := by rw [← hv, upd_s]
  have v57 : v 57 = u 57 + 1 := by
    rw [← hv, upd_n (by decide)]
    by_cases q : out = 0
    · rw [if_pos q, upd_n (by decide), upd_s]
    · rw [if_neg q, upd_n (by decide), upd_s]
  have iv' : Iv H v := by
    rw [← hv]
    refine Iv_upd (irr_r (by decide)) ?_
    by_cases q : out = 0
    · rw [if_pos q]; exact Iv_upd (irr_r (by decide)) (Iv_upd (irr_r (by decide)) iv)
    · rw [if_neg q]; exact Iv_upd (irr_r (by decide)) (Iv_upd (irr_r (by decide)) iv)
  have kv : LwR (up2 K 0 (K' 0)) J v now := by
    refine LwR_c iv (fun j hj => vo j (by omega)) (fun j hj => up2_n hj) ?_ k
    rw [up2_s]
    refine GaR_cnt k.2.1 (fun j hj => vo j (by omega)) (fun j hj => ?_) (fun i h1 h2 => ?_)
    · rw [h0]
      by_cases q : out = 0
      · rw [if_pos q, upd_n (by omega), upd_n (by omega), upd_n (by omega)]
      · rw [if_neg q, upd_n (by omega), upd_n (by omega), upd_n (by omega)]
    · rw [h0]
      rcases (by omega : i = 11 ∨ i = 12 ∨ i = 13 ∨ i = 14 ∨ (i = 10 ∨ 15 ≤ i)) with rfl | rfl | rfl | rfl | c
      · rw [v56]
        by_cases q : out = 0
        · rw [if_pos q, upd_n (by decide), upd_s]
        · rw [if_neg q, upd_n (by decide), upd_s]
      · rw [v57, e57]
        by_cases q : out = 0
        · rw [if_pos q, upd_n (by decide), upd_n (by decide), upd_s]
        · rw [if_neg q, upd_n (by decide), upd_n (by decide), upd_s]
      · rw [← hv, upd_n (by decide), e58]
        by_cases q : out = 0
        · rw [if_pos q, if_pos q, upd_s, upd_s, upd_n (by decide)]
        · rw [if_neg q, if_neg q, upd_n (by decide), upd_n (by decide), upd_n (by decide), upd_n (by decide), upd_n (by decide), e58]
      · rw [← hv, upd_n (by decide), e59]
        by_cases q : out = 0
        · rw [if_pos q, if_pos q, upd_n (by decide), upd_n (by decide), upd_n (by decide), upd_n (by decide), upd_n (by decide), e59]
        · rw [if_neg q, if_neg q, upd_s, upd_s, upd_n (by decide)]
      · rw [vo (45 + i) (by omega), ← q10 i h1 h2]
        by_cases q : out = 0
        · rw [if_pos q, upd_n (by omega), upd_n (by omega), upd_n (by omega)]
        · rw [if_neg q, upd_n (by omega), upd_n (by omega), upd_n (by omega)]
  have e53 : v 53 = u 53 := vo 53 (by omega)
  rw [v57, e53]
  have er : remF (K 0 12 + 1) (K 0 8) = u 57 + 1 - (u 57 + 1) / u 53 * u 53 := by
    unfold remF
    rw [e57, g8]
  rw [er] at h5
  by_cases q : u 57 + 1 - (u 57 + 1) / u 53 * u 53 = 0
  · rw [if_pos q] at h5 ⊢
    obtain ⟨b, hb, hb2⟩ := Iv_b iv'
    refine LwR_l iv' (fun j hj => join_o hb hb2 (by omega)) (fun j j4 j5 => ?_) ?_ ?_ kv
    · by_cases z : j = 0
      · rw [z, up2_s]
      · rw [up2_n z]
        exact hK j z j5
    · rw [hK 4 (by decide) (by decide)]
      have := kv.2.2.2.1
      rw [up2_n (by decide)] at this
      exact LnR_congr (fun j h1 h2 => join_o hb hb2 (by omega)) (Iv_n iv').2 this
    · rw [h5]
      have := kv.2.2.2.2.1
      rw [up2_n (by decide)] at this
      exact LnR_ms this hb2 hb
  · rw [if_neg q] at h5 ⊢
    refine LwR_ext (fun j hj => ?_) (fun _ _ => rfl) kv
    by_cases z : j = 0
    · rw [z, up2_s]
    · rw [up2_n z]
      by_cases z5 : j = 5
      · rw [z5, h5]
      · exact hK j z z5
/-- a reference is missed -/
theorem fail_ok {H : Nat} {K K' : Nat → Nat → Int32} {J : Nat → Nat → Int64} {u : Nat → Int32} {now : Int64} (iv : Iv H u) (k : LwR K J u now) (h0 : K' 0 = flG (K 0)) (h5 : K' 5 = flB (K 0) (K 5)) (hK : ∀ j, j ≠ 0 → j ≠ 5 → K' j = K j) : LwR K' J (failF u) now := by
  have q10 := k.2.1.2.2.2.2.2.2.2.2
  have g9 : K 0 9 = u 54 := k.2.1.2.2.2.2.2.2.2.1
  have e56 : K 0 11 = u 56 := q10 11 (by decide) (by decide)
  have e60 : K 0 15 = u 60 := q10 15 (by decide) (by decide)
  have e62 : K 0 17 = u 62 := q10 17 (by decide) (by decide)
  have f11 : fl1 (K 0) 11 = u 56 + 1 := by
    unfold fl1
    rw [upd_s, e56]
  have c1 : upd (upd u 60 (u 60 + 1)) 56 (upd u 60 (u 60 + 1) 56 + 1) 56 = u 56 + 1 := by rw [upd_s, upd_n (by decide)]
  have c2 : upd (upd u 60 (u 60 + 1)) 56 (upd u 60 (u 60 + 1) 56 + 1) 54 = u 54 := by rw [upd_n (by decide), upd_n (by decide)]
  simp only [failF]
  rw [c1, c2]
  unfold flG at h0
  unfold flB at h5
  rw [f11, g9] at h0 h5
  by_cases q : u 56 + 1 < u 54
  · rw [if_pos q] at h0 h5 ⊢
    have kv : LwR (up2 K 0 (K' 0)) J (upd (upd u 60 (u 60 + 1)) 56 (upd u 60 (u 60 + 1) 56 + 1)) now := by
      refine LwR_c iv (fun j hj => by rw [upd_n (by omega), upd_n (by omega)]) (fun j hj => up2_n hj) ?_ k
      rw [up2_s, h0]
      refine GaR_cnt k.2.1 (fun j hj => by rw [upd_n (by omega), upd_n (by omega)]) (fun j hj => ?_) (fun i h1 h2 => ?_)
      · unfold fl1
        rw [upd_n (by omega), upd_n (by omega)]
      · rcases (by omega : i = 11 ∨ i = 15 ∨ (i ≠ 11 ∧ i ≠ 15)) with rfl | rfl | c
        · rw [c1, f11]
        · unfold fl1
          rw [upd_n (by decide), upd_s, upd_n (by decide), upd_s, e60]
        · unfold fl1
          rw [upd_n (by omega), upd_n (by omega), upd_n (by omega), upd_n (by omega)]
          exact q10 i h1 h2
    refine LwR_ext (fun j hj => ?_) (fun _ _ => rfl) kv
    by_cases z : j = 0
    · rw [z, up2_s]
    · rw [up2_n z]
      by_cases z5 : j = 5
      · rw [z5, h5]
      · exact hK j z z5
  · rw [if_neg q] at h0 h5 ⊢
    generalize hv : upd (upd (upd (upd u 60 (u 60 + 1)) 56 (upd u 60 (u 60 + 1) 56 + 1)) 56 0) 62 (upd (upd (upd u 60 (u 60 + 1)) 56 (upd u 60 (u 60 + 1) 56 + 1)) 56 0 62 + 1) = v
    have vo : ∀ j, j ≠ 56 → j ≠ 60 → j ≠ 62 → v j = u j := fun j a b c => by rw [← hv, upd_n c, upd_n a, upd_n a, upd_n b]
    have iv' : Iv H v := by
      rw [← hv]
      exact Iv_upd (irr_r (by decide)) (Iv_upd (irr_r (by decide)) (Iv_upd (irr_r (by decide)) (Iv_upd (irr_r (by decide)) iv)))
    have kv : LwR (up2 K 0 (K' 0)) J v now := by
      refine LwR_c iv (fun j hj => vo j (by omega) (by omega) (by omega)) (fun j hj => up2_n hj) ?_ k
      rw [up2_s, h0]
      refine GaR_cnt k.2.1 (fun j hj => vo j (by omega) (by omega) (by omega)) (fun j hj => ?_) (fun i h1 h2 => ?_)
      · unfold fl1
        rw [upd_n (by omega), upd_n (by omega), upd_n (by omega), upd_n (by omega)]
      · rcases (by omega : i = 11 ∨ i = 15 ∨ i = 17 ∨ (i ≠ 11 ∧ i ≠ 15 ∧ i ≠ 17)) with rfl | rfl | rfl | c
        · rw [← hv, upd_n (by decide), upd_s, upd_n (by decide), upd_s]
        · rw [← hv]
          unfold fl1
          rw [upd_n (by decide), upd_n (by decide), upd_n (by decide), upd_s, upd_n (by decide), upd_n (by decide), upd_n (by decide), upd_s, e60]
        · rw [← hv, upd_s, upd_s, upd_n (by decide), upd_n (by decide), upd_n (by decide), e62]
        · unfold fl1
          rw [upd_n (by omega), upd_n (by omega), upd_n (by omega), upd_n (by omega), vo _ (by omega) (by omega) (by omega)]
          exact q10 i h1 h2
    obtain ⟨b, hb, hb2⟩ := Iv_b iv'
    refine LwR_l iv' (fun j hj => join_o hb hb2 (by omega)) (fun j j4 j5 => ?_) ?_ ?_ kv
    · by_cases z : j = 0
      · rw [z, up2_s]
      · rw [up2_n z]
        exact hK j z j5
    · rw [hK 4 (by decide) (by decide)]
      have := kv.2.2.2.1
      rw [up2_n (by decide)] at this
      exact LnR_congr (fun j h1 h2 => join_o hb hb2 (by omega)) (Iv_n iv').2 this
    · rw [h5]
      have := kv.2.2.2.2.1
      rw [up2_n (by decide)] at this
      exact LnR_ms this hb2 hb
theorem rc_ok {H : Nat} {I : Nat → Nat → Int32} {J : Nat → Nat → Int64} {s g : Nat → Int32} {now : Int64} {p : Nat} (hH : H + 15 < 2 ^ 30) (iv : Iv H s) (k : LwR I J s now) (hp : p < nOf s) : RcP I p ∧ rcR I J p = outF (lateF s p) g p ∧ LwR (rcI I J p) (rcJ I J p) (recS s g p) now := by
  show RcP I p ∧ rcR I J p = outF (lateF s p) g p ∧ LwR (rcI I J p) (rcJ I J p) (recS1 (lateF s p) g p) now
  have ivt : Iv H (lateF s p) := Iv_late iv
  have kt : LwR (ltI I p) J (lateF s p) now := LwR_c iv (fun j hj => late_o (by omega)) (fun j hj => lt_n hj) (by rw [lt_0']; exact late_g k.2.1) k
  have hpt : p < nOf (lateF s p) := by rw [nOfE (late_o (by decide))]; exact hp
  have h63 := kt.2.2.2.2.2.2
  have n9 := (Iv_n ivt).1
  have hp9 : nI p < lateF s p 9 := by
    rw [n9]
    exact (nI_ltI (by omega) (by omega)).mpr hpt
  have ex := rx_ok kt hpt
  have eD := rD_ok kt hpt
  have eU := rU_ok ivt kt hpt
  have hpk := Iv_pk ivt hpt
  have g53 : ¬ I 0 8 = 0 := by
    rw [k.2.1.2.2.2.2.2.2.1]
    obtain ⟨v, v1, v2, v3⟩ := iv.2.2.2.2.2.1
    rw [v3]
    exact nI_ne0 (by omega) (by omega)
  obtain ⟨b, hb1, hb2⟩ := Iv_b iv
  obtain ⟨f1, f2, -⟩ := IfR_at (kt.2.2.1 p hpt).2.2
  rw [lt_n (by decide)] at f1 f2
  obtain ⟨fN, rN, aN, zN, b1, b2, b3, b4, c1, c2, -⟩ := (kt.2.2.1 p hpt).2.2
  rw [lt_x] at ex
  rw [lt_D] at eD
  rw [lt_U] at eU
  generalize lateF s p = t at *
  have gr := fun (hu : ¬ (¬ t (514 + 10 * p + 7) = 0 ∧ placeF t (xF t p - dF t p) = -1)) => got_ok (g := g) (show p < 64 by omega) (fun r hr => kt.2.2.1 r (by omega)) kt.2.2.2.2.2.1 (hpk.1.imp (fun z => z.1) (fun z => z.2.elim fun r hr => ⟨r, hr.1, hr.2.2⟩)) (lt_x.trans ex) hu
  rw [lt_h, lt_st] at gr
  have oD : rcD I p → outF t g p = 3 := fun h => if_pos (eD.mp h)
  have oU : ¬ rcD I p → rcU I p → outF t g p = 2 := fun h u => by
    unfold outF
    rw [if_neg (fun z => h (eD.mpr z)), if_pos (eU.mp u)]
  have hR : ¬ rcU I p → ((rxF I p = nI p ∧ rhF I J p = J 1 p) ↔ ¬ rightL t (gotF t g p) p (xF t p) 4 = 0) := fun u => by
    rw [right5, Classical.not_not, ex, Hd_inj (gr (fun z => u (eU.mpr z))).1 (kt.2.2.1 p hpt).1]
  have oK : ¬ rcD I p → ¬ rcU I p → outF t g p = if rxF I p = nI p ∧ rhF I J p = J 1 p then 0 else 1 := fun h u => by
    unfold outF
    rw [if_neg (fun z => h (eD.mpr z)), if_neg (fun z => u (eU.mpr z))]
    by_cases q : rxF I p = nI p ∧ rhF I J p = J 1 p
    · rw [if_pos q, if_neg ((hR u).mp q)]
    · rw [if_neg q, if_pos (Classical.not_not.mp (fun z => q ((hR u).mpr z)))]
  have oK3 : ¬ rcD I p → ¬ rcU I p → ¬ outF t g p = 3 ∧ ¬ outF t g p = 2 ∧ (outF t g p = 0 ∨ outF t g p = 1) := fun h u => by
    rw [oK h u]
    by_cases q : rxF I p = nI p ∧ rhF I J p = J 1 p
    · rw [if_pos q]; exact ⟨by decide, by decide, Or.inl rfl⟩
    · rw [if_neg q]; exact ⟨by decide, by decide, Or.inr rfl⟩
  have hx : ¬ rcD I p → ¬ rcU I p → ∃ x : Nat, x ≤ H + 15 ∧ xF t p = nI x := fun h u => rec_x (g := g) (by omega) ivt hp9 (by omega) (oK3 h u).1 (oK3 h u).2.1
  refine ⟨⟨⟨b, hb1, k.2.2.2.2.1.1.trans hb2⟩, g53, fun q => ?_, fun nD nU => ?_, ?_⟩, ?_, ?_⟩
  · rw [f1, c1] at q
    rcases hpk.1 with ⟨z, -⟩ | ⟨-, r, r1, r2, r3⟩
    · rw [c1] at z
      rw [z] at q
      exact absurd q (by decide)
    · exact ⟨r, by omega, f2.trans r3⟩
  · obtain ⟨x, h1, h2⟩ := hx nD nU
    rw [ex, h2]
    exact nI_pos' (by omega)
  · rw [f1, c1]
    exact nI_pos (by omega)
  · unfold rcR
    by_cases h : rcD I p
    · rw [if_pos h, oD h]
    · rw [if_neg h]
      by_cases u : rcU I p
      · rw [if_pos u, oU h u]
      · rw [if_neg u, oK h u]
  · unfold recS1
    by_cases h : rcD I p
    · rw [if_pos (oD h)]
      have kd : LwR (up2 (ltI I p) 0 (dupG (rlF I p))) J (upd t 61 (t 61 + 1)) now := by
        refine LwR_c ivt (fun j hj => upd_n (by omega)) (fun j hj => up2_n hj) ?_ kt
        rw [up2_s]
        have q := kt.2.1
        rw [lt_0'] at q
        refine GaR_cnt q (fun j hj => upd_n (by omega)) (fun j hj => upd_n (by omega)) (fun i h1 h2 => ?_)
        unfold dupG
        by_cases z : i = 16
        · subst z
          rw [upd_s, upd_s, q.2.2.2.2.2.2.2.2 16 (by decide) (by decide)]
        · rw [upd_n z, upd_n (by omega)]
          exact q.2.2.2.2.2.2.2.2 i h1 h2
      refine LwR_ext (fun j hj => ?_) (fun j hj => ?_) kd
      · unfold rcI
        dsimp only
        rw [if_pos h]
        by_cases z : j = 0
        · rw [if_pos z, z, up2_s]
        · rw [if_neg z, up2_n z, lt_n z]
      · unfold rcJ
        rw [if_pos h]
    · by_cases u : rcU I p
      · rw [if_neg (by rw [oU h u]; decide), if_pos (oU h u)]
        have kd : LwR (rcI I J p) J (failF t) now := by
          refine fail_ok ivt kt ?_ ?_ (fun j j0 j5 => ?_)
          · unfold rcI
            dsimp only
            rw [if_neg h, if_pos u, if_pos rfl, lt_0']
          · unfold rcI
            dsimp only
            rw [if_neg h, if_pos u, if_neg (by decide), if_pos rfl, lt_0', lt_n (by decide)]
          · unfold rcI
            dsimp only
            rw [if_neg h, if_pos u, if_neg j0, if_neg j5, lt_n j0]
        refine LwR_ext (fun _ _ => rfl) (fun j hj => ?_) kd
        unfold rcJ
        rw [if_neg h, if_pos u]
      · obtain ⟨o3, o2, o01⟩ := oK3 h u
        rw [if_neg o3, if_neg o2]
        obtain ⟨x, hx1, hx2⟩ := hx h u
        obtain ⟨gd, gs⟩ := gr (fun z => u (eU.mpr z))
        have iv15 : Iv (H + 15) t := Iv_mono (by omega) ivt
        rw [hx2] at ex ⊢
        have kG : ∀ j, j ≠ 10 → keG (rlF I p) (nI x) j = rlF I p j := fun j hj => upd_n hj
        have e0 : rcI I J p 0 = if rxF I p = nI p ∧ rhF I J p = J 1 p then upd (ke2 (rlF I p) (nI x)) 13 (rlF I p 13 + 1) else upd (ke2 (rlF I p) (nI x)) 14 (rlF I p 14 + 1) := by
          unfold rcI
          dsimp only
          rw [if_neg h, if_neg u, if_pos rfl]
          rw [show rxF I p = nI x from ex]
        have e5 : rcI I J p 5 = if remF (rlF I p 12 + 1) (rlF I p 8) = 0 then msF (I 5) (nI x) else I 5 := by
          unfold rcI
          dsimp only
          rw [if_neg h, if_neg u, if_neg (by decide), if_pos rfl, ex]
        have e6 : rcI I J p 6 = if keG (rlF I p) (nI x) 10 - 64 < nI x then upd (kdF (I 6) (keG (rlF I p) (nI x) 10) 64) (slotOf (nI x)) (nI x) else kdF (I 6) (keG (rlF I p) (nI x) 10) 64 := by
          unfold rcI
          dsimp only
          rw [if_neg h, if_neg u, if_neg (by decide), if_neg (by decide), if_pos rfl, ex]
        have e8 : rcI I J p 8 = if keG (rlF I p) (nI x) 10 - 64 < nI x then upd (I 8) (slotOf (nI x)) (rsF I p) else I 8 := by
          unfold rcI
          dsimp only
          rw [if_neg h, if_neg u, if_neg (by decide), if_neg (by decide), if_neg (by decide), if_pos rfl, ex]
        have eo : ∀ j, j ≠ 0 → j ≠ 5 → j ≠ 6 → j ≠ 8 → rcI I J p j = I j := fun j a1 a2 a3 a4 => by
          unfold rcI
          dsimp only
          rw [if_neg h, if_neg u, if_neg a1, if_neg a2, if_neg a3, if_neg a4]
        have e7 : rcJ I J p 7 = if keG (rlF I p) (nI x) 10 - 64 < nI x then vp_updL (J 7) (slotOf (nI x)) (rhF I J p) else J 7 := by
          unfold rcJ
          rw [if_neg h, if_neg u, if_pos rfl, ex]
        have ej : ∀ j, j ≠ 7 → rcJ I J p j = J j := fun j a => by
          unfold rcJ
          rw [if_neg h, if_neg u, if_neg a]
        obtain ⟨K, K0, K5, Ko⟩ : ∃ K : Nat → Nat → Int32, K 0 = keG (rlF I p) (nI x) ∧ K 5 = I 5 ∧ ∀ j, j ≠ 0 → j ≠ 5 → K j = rcI I J p j := ⟨fun j => if j = 0 then keG (rlF I p) (nI x) else if j = 5 then I 5 else rcI I J p j, if_pos rfl, (if_neg (by decide)).trans (if_pos rfl), fun j a1 a2 => (if_neg a1).trans (if_neg a2)⟩
        have kk := keep_ok (K := K) (M := rcJ I J p) iv15 hx1 (by omega) kt gd gs (keG (rlF I p) (nI x)) (by rw [lt_0']) K0 (by rw [Ko 6 (by decide) (by decide), e6, lt_n (by decide)]) (by rw [Ko 8 (by decide) (by decide), e8, lt_n (by decide)]) (fun j a1 a2 a3 => by
            rw [lt_n a1]
            by_cases z : j = 5
            · rw [z, K5]
            · rw [Ko j a1 z]
              exact eo j a1 z a2 a3) e7 ej
        refine tell_ok (Iv_keep hx1 (by omega) iv15) kk o01 ?_ ?_ (fun j a1 a2 => (Ko j a1 a2).symm)
        · rw [e0, K0, oK h u, kG 12 (by decide), kG 13 (by decide), kG 14 (by decide)]
          by_cases q : rxF I p = nI p ∧ rhF I J p = J 1 p
          · rw [if_pos q, if_pos q, if_pos rfl, ke2]
          · rw [if_neg q, if_neg q, if_neg (by decide), ke2]
        · rw [e5, K0, K5, kG 12 (by decide), kG 8 (by decide)]
