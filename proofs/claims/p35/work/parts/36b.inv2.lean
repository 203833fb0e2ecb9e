/-! ===== the records: what comes in, what goes ===== -/
theorem zero_at {s : Nat → Int32} {a k j : Nat} : zeroL s a k j = if j = a then -1 else if a < j ∧ j ≤ a + k then 0 else s j := by
  induction k with
  | zero =>
    unfold zeroL upd
    by_cases h : j = a
    · rw [if_pos h, if_pos h]
    · rw [if_neg h, if_neg h, if_neg (by omega)]
  | succ k ih =>
    unfold zeroL
    by_cases h : j = a + (k + 1)
    · subst h
      rw [upd_s, if_neg (by omega), if_pos (by omega)]
    · rw [upd_n h, ih]
      by_cases h1 : j = a
      · rw [if_pos h1, if_pos h1]
      · rw [if_neg h1, if_neg h1]
        by_cases h2 : a < j ∧ j ≤ a + k
        · rw [if_pos h2, if_pos (by omega)]
        · rw [if_neg h2, if_neg (by omega)]
abbrev gone (t : Nat → Int32) (w : Int32) (k : Nat) : Prop := ¬ t (66 + 7 * k) = -1 ∧ t (66 + 7 * k) ≤ w - 64
theorem drop_at {t : Nat → Int32} : ∀ j, j ≤ 64 → (∀ k, k < 64 → dropL t j (66 + 7 * k) = if k < j ∧ gone t (t 55) k then -1 else t (66 + 7 * k)) ∧ (∀ k i, k < 64 → i < 6 → dropL t j (67 + 7 * k + i) = if k < j ∧ gone t (t 55) k then 0 else t (67 + 7 * k + i)) ∧ (∀ q, q < 66 ∨ 514 ≤ q → dropL t j q = t q)
  | 0, _ => ⟨fun k hk => by rw [if_neg (by omega)]; rfl, fun k i hk hi => by rw [if_neg (by omega)]; rfl, fun q hq => rfl⟩
  | j + 1, hj => by
    obtain ⟨i1, i2, i3⟩ := drop_at (t := t) j (by omega)
    have e0 : dropL t j (66 + 7 * j) = t (66 + 7 * j) := by rw [i1 j (by omega), if_neg (by omega)]
    have e55 : dropL t j 55 = t 55 := i3 55 (by omega)
    unfold dropL
    rw [e0, e55]
    by_cases g : gone t (t 55) j
    · rw [if_pos g]
      refine ⟨fun k hk => ?_, fun k i hk hi => ?_, fun q hq => ?_⟩
      · rw [zero_at]
        by_cases h : k = j
        · subst h
          rw [if_pos rfl, if_pos ⟨by omega, g⟩]
        · rw [if_neg (by omega), if_neg (by omega), i1 k hk]
          by_cases h2 : k < j ∧ gone t (t 55) k
          · rw [if_pos h2, if_pos ⟨by omega, h2.2⟩]
          · rw [if_neg h2, if_neg (fun z => h2 ⟨by omega, z.2⟩)]
      · rw [zero_at, if_neg (by omega)]
        by_cases h : k = j
        · subst h
          rw [if_pos (by omega), if_pos ⟨by omega, g⟩]
        · rw [if_neg (by omega), i2 k i hk hi]
          by_cases h2 : k < j ∧ gone t (t 55) k
          · rw [if_pos h2, if_pos ⟨by omega, h2.2⟩]
          · rw [if_neg h2, if_neg (fun z => h2 ⟨by omega, z.2⟩)]
      · rw [zero_at, if_neg (by omega), if_neg (by omega), i3 q hq]
    · rw [if_neg g]
      refine ⟨fun k hk => ?_, fun k i hk hi => ?_, fun q hq => i3 q hq⟩
      · rw [i1 k hk]
        by_cases h2 : k < j ∧ gone t (t 55) k
        · rw [if_pos h2, if_pos ⟨by omega, h2.2⟩]
        · rw [if_neg h2, if_neg (fun z => ?_)]
          by_cases h : k = j
          · subst h
            exact g z.2
          · exact h2 ⟨by omega, z.2⟩
      · rw [i2 k i hk hi]
        by_cases h2 : k < j ∧ gone t (t 55) k
        · rw [if_pos h2, if_pos ⟨by omega, h2.2⟩]
        · rw [if_neg h2, if_neg (fun z => ?_)]
          by_cases h : k = j
          · subst h
            exact g z.2
          · exact h2 ⟨by omega, z.2⟩
theorem putR_at {t g : Nat → Int32} {a k j : Nat} : putR t g a k j = if a + 1 ≤ j ∧ j < a + 1 + k then g (j - (a + 1)) else t j := by
  induction k with
  | zero => unfold putR; rw [if_neg (by omega)]
  | succ k ih =>
    unfold putR
    by_cases h : j = a + 1 + k
    · subst h
      rw [upd_s, if_pos (by omega)]
      congr 1
      omega
    · rw [upd_n h, ih]
      by_cases h2 : a + 1 ≤ j ∧ j < a + 1 + k
      · rw [if_pos h2, if_pos (by omega)]
      · rw [if_neg h2, if_neg (by omega)]
theorem sub64 {h x : Nat} (hh : h < 2 ^ 30) (hx : x < 2 ^ 30) : (nI h - 64 < nI x ↔ h < x + 64) ∧ (nI x ≤ nI h - 64 ↔ x + 64 ≤ h) := by
  have e : (nI h - 64).toInt = (h : Int) - 64 := by
    show (nI h - nI 64).toInt = _
    rw [pk_sub_toInt (by omega) (by decide)]
    rfl
  have e2 : (nI x).toInt = x := nI_toInt (by omega)
  constructor
  · rw [Int32.lt_iff_toInt_lt, e, e2]
    omega
  · rw [Int32.le_iff_toInt_le, e, e2]
    omega
/-- the highest number when x came in: h; the state behind it -/
theorem keep_at {s g : Nat → Int32} {x h : Nat} (hw : (if s 55 < nI x then nI x else s 55) = nI h) (hx : x < 2 ^ 30) (hh : h < 2 ^ 30) :
    keepF s g (nI x) 55 = nI h ∧ (∀ k, k < 64 → keepF s g (nI x) (66 + 7 * k) = if h < x + 64 ∧ k = x % 64 then nI x else if gone s (nI h) k then -1 else s (66 + 7 * k)) ∧ (∀ k i, k < 64 → i < 6 → keepF s g (nI x) (67 + 7 * k + i) = if h < x + 64 ∧ k = x % 64 then g i else if gone s (nI h) k then 0 else s (67 + 7 * k + i)) ∧ (∀ q, (q < 66 ∧ q ≠ 55) ∨ 514 ≤ q → keepF s g (nI x) q = s q) := by
  simp only [keepF]
  rw [hw]
  obtain ⟨i1, i2, i3⟩ := drop_at (t := upd s 55 (nI h)) 64 (by decide)
  have e55 : upd s 55 (nI h) 55 = nI h := upd_s
  have eg : ∀ k, gone (upd s 55 (nI h)) (nI h) k ↔ gone s (nI h) k := fun k => by
    unfold gone
    rw [upd_n (by omega)]
  rw [e55] at i1 i2
  have j1 : ∀ k, k < 64 → dropL (upd s 55 (nI h)) 64 (66 + 7 * k) = if gone s (nI h) k then -1 else s (66 + 7 * k) := fun k hk => by
    rw [i1 k hk]
    by_cases g3 : gone s (nI h) k
    · rw [if_pos g3, if_pos ⟨hk, (eg k).mpr g3⟩]
    · rw [if_neg g3, if_neg (fun z => g3 ((eg k).mp z.2))]
      exact upd_n (by omega)
  have j2 : ∀ k i, k < 64 → i < 6 → dropL (upd s 55 (nI h)) 64 (67 + 7 * k + i) = if gone s (nI h) k then 0 else s (67 + 7 * k + i) := fun k i hk hi => by
    rw [i2 k i hk hi]
    by_cases g3 : gone s (nI h) k
    · rw [if_pos g3, if_pos ⟨hk, (eg k).mpr g3⟩]
    · rw [if_neg g3, if_neg (fun z => g3 ((eg k).mp z.2))]
      exact upd_n (by omega)
  rw [i3 55 (by omega), e55, slot_nI x (by omega)]
  have hm : x % 64 < 64 := Nat.mod_lt _ (by decide)
  by_cases gx : h < x + 64
  · rw [if_pos ((sub64 hh hx).1.mpr gx)]
    refine ⟨?_, fun k hk => ?_, fun k i hk hi => ?_, fun q hq => ?_⟩
    · rw [putR_at, if_neg (by omega), upd_n (by omega), i3 55 (by omega), e55]
    · rw [putR_at, if_neg (by omega)]
      by_cases g2 : k = x % 64
      · rw [if_pos ⟨gx, g2⟩, g2, upd_s]
      · rw [if_neg (fun z => g2 z.2), upd_n (by omega), j1 k hk]
    · rw [putR_at]
      by_cases g2 : k = x % 64
      · have e : (h < x + 64 ∧ k = x % 64) = True := eq_true ⟨gx, g2⟩
        rw [if_pos (show 66 + 7 * (x % 64) + 1 ≤ 67 + 7 * k + i ∧ 67 + 7 * k + i < 66 + 7 * (x % 64) + 1 + 6 by omega), if_pos (show h < x + 64 ∧ k = x % 64 from ⟨gx, g2⟩)]
        congr 1
        omega
      · rw [if_neg (show ¬ (66 + 7 * (x % 64) + 1 ≤ 67 + 7 * k + i ∧ 67 + 7 * k + i < 66 + 7 * (x % 64) + 1 + 6) by omega), if_neg (show ¬ (h < x + 64 ∧ k = x % 64) from fun z => g2 z.2), upd_n (by omega), j2 k i hk hi]
    · rw [putR_at, if_neg (by omega), upd_n (by omega), i3 q (by omega), upd_n (by omega)]
  · rw [if_neg (fun z => gx ((sub64 hh hx).1.mp z))]
    refine ⟨?_, fun k hk => ?_, fun k i hk hi => ?_, fun q hq => ?_⟩
    · rw [i3 55 (by omega), e55]
    · rw [if_neg (fun z => gx z.1), j1 k hk]
    · rw [if_neg (fun z => gx z.1), j2 k i hk hi]
    · rw [i3 q (by omega), upd_n (by omega)]
/-- the highest number when x comes in -/
theorem keep_h {H : Nat} {s : Nat → Int32} {x : Nat} (hx : x ≤ H) (hH : H < 2 ^ 30) (iv : IvC H s) : ∃ h : Nat, h ≤ H ∧ x ≤ h ∧ (if s 55 < nI x then nI x else s 55) = nI h ∧ (s 55 = -1 ∨ ∃ h0 : Nat, h0 ≤ h ∧ s 55 = nI h0) := by
  rcases iv with ⟨q, -⟩ | ⟨h, hh, q, -⟩
  · refine ⟨x, hx, Nat.le_refl _, ?_, Or.inl q⟩
    rw [q, if_pos]
    have := nI_pos (n := x) (by omega)
    rw [Int32.lt_iff_toInt_lt, nI_toInt (by omega)]
    show (-1 : Int) < _
    omega
  · rw [q]
    by_cases g : h < x
    · exact ⟨x, hx, Nat.le_refl _, by rw [if_pos ((nI_ltI (by omega) (by omega)).mpr g)], Or.inr ⟨h, by omega, rfl⟩⟩
    · exact ⟨h, hh, by omega, by rw [if_neg (fun z => g ((nI_ltI (by omega) (by omega)).mp z))], Or.inr ⟨h, Nat.le_refl _, rfl⟩⟩
theorem Iv_keep {H : Nat} {s g : Nat → Int32} {x : Nat} (hx : x ≤ H) (hH : H < 2 ^ 30) (iv : Iv H s) : Iv H (keepF s g (nI x)) := by
  obtain ⟨h0, ha, hb, hc, hd⟩ := iv
  obtain ⟨h, hh, hxh, hw, h55⟩ := keep_h hx hH hc
  obtain ⟨k1, k2, k3, k4⟩ := keep_at (g := g) hw (by omega) (by omega)
  refine ⟨h0, IvA_congr (fun j hj => k4 j (by omega)) (fun p hp => ⟨k4 _ (by omega), k4 _ (by omega), k4 _ (by omega), k4 _ (by omega)⟩) ha, IvB_congr (fun j hj => k4 j (by omega)) hb, Or.inr ⟨h, hh, k1, fun k hk => ?_⟩, IvD_congr (fun j hj => k4 j (by omega)) hd⟩
  unfold IvK
  rw [k2 k hk]
  by_cases g1 : h < x + 64 ∧ k = x % 64
  · rw [if_pos g1]
    exact Or.inr ⟨x, by omega, hxh, g1.1, rfl⟩
  · rw [if_neg g1]
    by_cases g2 : gone s (nI h) k
    · rw [if_pos g2]
      exact Or.inl rfl
    · rw [if_neg g2]
      rcases hc with ⟨q, q2⟩ | ⟨h1, hh1, q, q2⟩
      · exact Or.inl (q2 k hk)
      · rcases q2 k hk with z | ⟨y, y1, y2, y3, y4⟩
        · exact Or.inl z
        · right
          refine ⟨y, y1, ?_, ?_, y4⟩
          · rcases h55 with e | ⟨e0, e1, e2⟩
            · exact absurd (q.symm.trans e) (nI_m1 (by omega))
            · have := (nI_eq (by omega) (by omega)).mp (q.symm.trans e2)
              omega
          · rcases Nat.lt_or_ge h (y + 64) with z | z
            · exact z
            · exact absurd ⟨by rw [y4]; exact nI_m1 (by omega), by rw [y4]; exact (sub64 (by omega) (by omega)).2.mpr (by omega)⟩ g2
theorem Iv_tell {H : Nat} {s : Nat → Int32} {x : Nat} {out : Int32} (hx : x ≤ H) (iv : Iv H s) : Iv H (tellF s (nI x) out) := by
  have h1 : Iv H (upd s 57 (s 57 + 1)) := Iv_upd (irr_r (by decide)) iv
  simp only [tellF]
  have h2 : ∀ t, Iv H t → Iv H (if upd t 56 0 57 - upd t 56 0 57 / upd t 56 0 53 * upd t 56 0 53 = 0 then joinF 31 (nI x) (upd t 56 0) else upd t 56 0) := fun t ht => by
    split
    · exact Iv_join31 (Or.inr ⟨x, hx, rfl⟩) (Iv_upd (irr_r (by decide)) ht)
    · exact Iv_upd (irr_r (by decide)) ht
  apply h2
  split
  · exact Iv_upd (irr_r (by decide)) h1
  · exact Iv_upd (irr_r (by decide)) h1
/-- the number of a packet that is kept -/
theorem rec_x {H : Nat} {s g : Nat → Int32} {p : Nat} (hH : H < 2 ^ 30) (iv : Iv H s) (hp : nI p < s 9) (hp2 : p < 2 ^ 31) (h3 : ¬ outF s g p = 3) (h2 : ¬ outF s g p = 2) : ∃ x : Nat, x ≤ H + 15 ∧ xF s p = nI x := by
  obtain ⟨h0, ⟨n, hn, h9, hk, -⟩, hb, hc, hd⟩ := iv
  rw [h9] at hp
  have hp := (nI_ltI hp2 (by omega)).mp hp
  obtain ⟨hf, -, -⟩ := hk p hp
  have e : xF s p = if s (514 + 10 * p + 7) = 0 then nI p else numF s (nI p &&& 63) := rfl
  rcases hf with ⟨hf, -⟩ | ⟨hf, r, hr1, hr2, hr⟩
  · rw [e, if_pos hf]
    exact ⟨p, by omega, rfl⟩
  · have full : ¬ s (514 + 10 * p + 7) = 0 := by rcases hf with q | q <;> rw [q] <;> decide
    unfold outF at h3 h2
    by_cases g1 : ¬ placeF s (xF s p) = -1
    · rw [if_pos g1] at h3
      exact absurd rfl h3
    · rw [if_neg g1] at h2
      by_cases g2 : placeF s (xF s p - dF s p) = -1
      · rw [if_pos ⟨full, g2⟩] at h2
        exact absurd rfl h2
      · unfold placeF at g2
        by_cases g3 : 0 ≤ xF s p - dF s p ∧ s (66 + 7 * slotOf (xF s p - dF s p)) = xF s p - dF s p
        · have hs := slot_lt (xF s p - dF s p)
          have : ∃ y : Nat, y ≤ H ∧ xF s p - dF s p = nI y := by
            rw [← g3.2]
            rcases hc with ⟨q, q2⟩ | ⟨h1, hh1, q, q2⟩
            · exfalso
              have z := q2 _ hs
              have z1 := g3.1
              rw [← g3.2, z] at z1
              exact absurd z1 (by decide)
            · rcases q2 _ hs with z | ⟨y, y1, y2, y3, y4⟩
              · exfalso
                have z1 := g3.1
                rw [← g3.2, z] at z1
                exact absurd z1 (by decide)
              · exact ⟨y, by omega, y4⟩
          obtain ⟨y, hy, ey⟩ := this
          have ed : dF s p = nI (p - r) := by
            unfold dF
            rw [hr]
            exact pk_sub (by omega)
          refine ⟨y + (p - r), by omega, ?_⟩
          rw [← nI_add, ← ey, ed]
          simp
        · rw [if_neg g3] at g2
          exact absurd rfl g2
theorem Iv_late {H : Nat} {s : Nat → Int32} {p : Nat} (iv : Iv H s) : Iv H (lateF s p) := Iv_upd (irr_r (by decide)) iv
theorem Iv_rec {H : Nat} {s g : Nat → Int32} {p : Nat} (hH : H + 15 < 2 ^ 30) (iv : Iv H s) (hp : nI p < s 9) (hp2 : p < 2 ^ 31) : Iv (H + 15) (recS s g p) := by
  have i1 : Iv H (lateF s p) := Iv_late iv
  have hp' : nI p < lateF s p 9 := by
    unfold lateF
    rw [upd_n (by decide)]
    exact hp
  show Iv (H + 15) (recS1 (lateF s p) g p)
  generalize lateF s p = t at i1 hp'
  unfold recS1
  by_cases h3 : outF t g p = 3
  · rw [if_pos h3]
    exact Iv_mono (by omega) (Iv_upd (irr_r (by decide)) i1)
  · rw [if_neg h3]
    by_cases h2 : outF t g p = 2
    · rw [if_pos h2]
      exact Iv_mono (by omega) (Iv_fail i1)
    · rw [if_neg h2]
      obtain ⟨x, hx, ex⟩ := rec_x (by omega) i1 hp' hp2 h3 h2
      rw [ex]
      exact Iv_tell hx (Iv_keep hx (by omega) (Iv_mono (by omega) i1))

