/-! ===== what a sender keeps, in the reference's words ===== -/
theorem trust_congr {a b : Nat → Int32} {c : Int32} {n : Nat} (h : ∀ p, p < n → a p = b p) : ∀ k, k ≤ n → trust a c n k = trust b c n k
  | 0, _ => rfl
  | k + 1, hk => by
    unfold trust
    rw [h k (by omega), trust_congr h k (by omega)]
theorem putB_at {form d : Int32} {rec old : Nat → Int32} {j : Nat} (hj : j < 6) : putB form d rec old j = if form = 2 ∧ j = 1 then (rec 1 + d * rec 4) &&& 65535 else if form = 2 ∧ j = 2 then (rec 2 + d * rec 5) &&& 65535 else rec j := by
  unfold putB
  by_cases g : form = 2
  · rw [if_pos g]
    by_cases h1 : j = 1
    · rw [if_pos ⟨g, h1⟩, h1, upd_n (by decide), upd_s]
    · rw [if_neg (fun z => h1 z.2)]
      by_cases h2 : j = 2
      · rw [if_pos ⟨g, h2⟩, h2, upd_s]
      · rw [if_neg (fun z => h2 z.2), upd_n h2, upd_n h1, cpyE, if_pos (by omega)]
        congr 1
        omega
  · rw [if_neg g, if_neg (fun z => g z.1), if_neg (fun z => g z.1), cpyE, if_pos (by omega)]
    congr 1
    omega
theorem putB_congr {form d : Int32} {rec rec' old old' : Nat → Int32} (h : ∀ j, j < 6 → rec j = rec' j) {j : Nat} (hj : j < 6) : putB form d rec old j = putB form d rec' old' j := by
  rw [putB_at hj, putB_at hj, h 1 (by decide), h 2 (by decide), h 4 (by decide), h 5 (by decide), h j hj]
theorem putC_at {h b old : Nat → Int32} {j : Nat} (hj : j < 4) : putC h b old j = if j = 0 ∨ j = 3 then (if h j = b j then -1 else h j) else (h j - b j).toInt16.toInt32 := by
  unfold putC
  rcases (by omega : j = 0 ∨ j = 1 ∨ j = 2 ∨ j = 3) with rfl | rfl | rfl | rfl
  · rw [upd_n (by decide), upd_n (by decide), upd_n (by decide), upd_s]; rfl
  · rw [upd_n (by decide), upd_n (by decide), upd_s]; rfl
  · rw [upd_n (by decide), upd_s]; rfl
  · rw [upd_s]; rfl
theorem putC_congr {h h' b b' old old' : Nat → Int32} (e1 : ∀ j, j < 4 → h j = h' j) (e2 : ∀ j, j < 4 → b j = b' j) {j : Nat} (hj : j < 4) : putC h b old j = putC h' b' old' j := by
  rw [putC_at hj, putC_at hj, e1 j hj, e2 j hj]
theorem sizeC_congr {c c' : Nat → Int32} (h : ∀ j, j < 4 → c j = c' j) : sizeC c = sizeC c' := by
  unfold sizeC
  rw [h 0 (by decide), h 1 (by decide), h 2 (by decide), h 3 (by decide)]
theorem sb_eq {s : Nat → Int32} {form d : Int32} {r f : Nat} {old : Nat → Int32} (hf : f < 4) : sbF s form r d f = putB form d (rowF s r) old f := by
  rw [putB_at (by omega)]
  unfold sbF baseF rowF
  rcases (by omega : f = 0 ∨ f = 1 ∨ f = 2 ∨ f = 3) with rfl | rfl | rfl | rfl
  · rw [if_neg (fun z => absurd z.2.1 (by decide)), if_neg (fun z => absurd z.2 (by decide)), if_neg (fun z => absurd z.2 (by decide))]
  · by_cases g : form = 2
    · rw [if_pos ⟨g, by decide, by decide⟩, if_pos (by decide), if_pos ⟨g, rfl⟩]
    · rw [if_neg (fun z => g z.1), if_neg (fun z => g z.1), if_neg (fun z => g z.1)]
  · by_cases g : form = 2
    · rw [if_pos ⟨g, by decide, by decide⟩, if_pos (by decide), if_neg (fun z => absurd z.2 (by decide)), if_pos ⟨g, rfl⟩]
    · rw [if_neg (fun z => g z.1), if_neg (fun z => g z.1), if_neg (fun z => g z.1)]
  · rw [if_neg (fun z => absurd z.2.2 (by decide)), if_neg (fun z => absurd z.2 (by decide)), if_neg (fun z => absurd z.2 (by decide))]
theorem size_eq {s : Nat → Int32} {form d : Int32} {r : Nat} {old old' : Nat → Int32} (h0 : ¬ s 0 = -1) (h3 : ¬ s 3 = -1) : sizeC (putC s (putB form d (rowF s r) old) old') = szL s form r d 4 := by
  unfold sizeC szL szL szL szL szL
  rw [putC_at (by decide), putC_at (by decide), putC_at (by decide), putC_at (by decide), sb_eq (old := old) (by decide), sb_eq (old := old) (by decide), sb_eq (old := old) (by decide), sb_eq (old := old) (by decide)]
  generalize putB form d (rowF s r) old = b
  have t0 : (if (if (0 = 0 ∨ 0 = 3) then (if s 0 = b 0 then -1 else s 0) else (s 0 - b 0).toInt16.toInt32) = -1 then (0 : Int32) else 1) = if s 0 = b 0 then 0 else 1 := by
    by_cases g : s 0 = b 0
    · simp [g]
    · simp [g, h0]
  have t3 : (if (if (3 = 0 ∨ 3 = 3) then (if s 3 = b 3 then -1 else s 3) else (s 3 - b 3).toInt16.toInt32) = -1 then (0 : Int32) else 1) = if s 3 = b 3 then 0 else 1 := by
    by_cases g : s 3 = b 3
    · simp [g]
    · simp [g, h3]
  rw [t0, t3]
  simp only [show ¬ (1 ≤ 0 ∧ 0 ≤ 2) by decide, show ¬ (1 ≤ 3 ∧ 3 ≤ 2) by decide, show (1 ≤ 1 ∧ 1 ≤ 2) by decide, show (1 ≤ 2 ∧ 2 ≤ 2) by decide, show ¬ (1 = 0 ∨ 1 = 3) by decide, show ¬ (2 = 0 ∨ 2 = 3) by decide, if_true, if_false, and_self]
  generalize bytesOf (s 1 - b 1).toInt16.toInt32 = x1
  generalize bytesOf (s 2 - b 2).toInt16.toInt32 = x2
  generalize (if s 0 = b 0 then (0 : Int32) else 1) = x0
  generalize (if s 3 = b 3 then (0 : Int32) else 1) = x3
  ac_rfl
theorem carF_congr {s t : Nat → Int32} {p r : Nat} (h8 : s (514 + 10 * p + 8) = nI r) (hr : r < 500) (h : ∀ j, (514 + 10 * p ≤ j ∧ j < 514 + 10 * p + 10) ∨ (514 + 10 * r ≤ j ∧ j < 514 + 10 * r + 10) → j ≠ 514 + 10 * p + 9 → j ≠ 514 + 10 * r + 9 → t j = s j) {j : Nat} (hj : j < 4) : carF t p j = carF s p j := by
  unfold carF
  rw [h _ (Or.inl (by omega)) (by omega) (by omega), h (514 + 10 * p + 8) (Or.inl (by omega)) (by omega) (by omega), h8, nIc hr]
  refine putC_congr (fun k hk => ?_) (fun k hk => putB_congr (fun i hi => ?_) (by omega)) hj
  · unfold rowF
    exact h _ (Or.inl (by omega)) (by omega) (by omega)
  · unfold rowF
    exact h _ (Or.inr (by omega)) (by omega) (by omega)
/-- the reference that the class uses -/
theorem use_eq {μ : qMM} {o n : Nat} {s : Nat → Int32} (hS : SnR μ o s) (h9 : s 9 = nI n) (hn : n ≤ 500) (h8 : s 8 = 0 ∨ s 8 = 1) : truC μ o (s 7) = refF s ∧ useC μ o (mI μ o 2) (mI μ o 3) = if formF s = 0 then -1 else refF s := by
  obtain ⟨-, e2, e3, e4, e5, -, -, ea⟩ := hS
  have en : nOf s = n := by unfold nOf; rw [h9, nI_clamp (by omega)]
  have et : truC μ o (s 7) = refF s := by
    unfold truC refF
    rw [e5, h9, nI_clamp (by omega), en]
    exact trust_congr (fun p hp => ea p (by rw [en]; exact hp)) n (Nat.le_refl _)
  refine ⟨et, ?_⟩
  unfold useC
  rw [e2, e3, e4, et]
  unfold formF
  by_cases g1 : refF s = -1
  · simp [g1]
  · rcases h8 with z | z
    · by_cases g2 : s 6 = 0 <;> simp [z, g1, g2]
    · simp [z, g1]
/-- what sendPresent leaves -/
def SndFx (μ μ' : qMM) (lg o n r : Nat) (u z form : Int32) (car : Nat → Int32) : Prop :=
  Sm μ μ' ∧ (mI μ' o 2 = mI μ o 2 ∧ mI μ' o 3 = mI μ o 3 ∧ mI μ' o 4 = 0 ∧ mI μ' o 5 = mI μ o 5 + 1 ∧ mI μ' o 6 = mI μ o 6 + (if u = -1 then 1 else 0) ∧ mI μ' o 7 = mI μ o 7 + z) ∧ mI μ' (o + 1) = mI μ (o + 1) ∧ mI μ' (o + 2) = upd (mI μ (o + 2)) n 0 ∧ (∀ j, j < 6 → mI μ' (lg + 2 + n) j = if j < 4 ∨ u = -1 then mI μ (o + 1) j else mI μ (lg + 2 + r) j) ∧ mI μ' (lg + 1003) = upd (mI μ (lg + 1003)) n form ∧ mI μ' (lg + 1004) = upd (mI μ (lg + 1004)) n u ∧ mI μ' (lg + 1005) = upd (mI μ (lg + 1005)) n z ∧ (¬ u = -1 → ∀ j, j < 4 → mI μ' (lg + 503 + n) j = car j) ∧ ∀ b, b ≠ o → b ≠ o + 2 → b ≠ o + 3 → b ≠ o + 4 → b ≠ lg + 2 + n → b ≠ lg + 503 + n → b ≠ lg + 1003 → b ≠ lg + 1004 → b ≠ lg + 1005 → mI μ' b = mI μ b
theorem snd_key {μ μ' : qMM} {lg o n r : Nat} {s : Nat → Int32} {u z form d : Int32} {old old' : Nat → Int32} (hP : SeP μ lg o s) (h9 : s 9 = nI n) (hn : n < 500) (hu : u = if formF s = 0 then -1 else refF s) (hr : ¬ u = -1 → u = nI r ∧ r < n) (hz : z = sizeF s (formF s) (refF s)) (hf : form = formF s) (hd : d = s 9 - refF s) (fx : SndFx μ μ' lg o n r u z form (putC (mI μ (o + 1)) (putB form d (mI μ (lg + 2 + r)) old) old')) :
    SnR μ' o (sndS s) ∧ LgR μ' lg (sndS s) ∧ StU μ μ' o 5 lg n := by
  obtain ⟨h0, hl, hd', hS, hL, hA, hD, hN⟩ := hP
  obtain ⟨e1, e2, e3, e4, e5, e6, e7, ea⟩ := id hS
  obtain ⟨-, ⟨f2, f3, f4, f5, f6, f7⟩, f8, f9, f10, f11, f12, f13, f14, f15⟩ := fx
  obtain ⟨q1, q2, q3⟩ := ref_ok h9 (show n ≤ 500 by omega)
  have hr' : formF s = 0 ∨ (refF s).toNatClampNeg < n := by
    rcases q3 with h | ⟨-, h⟩
    · exact Or.inl h
    · obtain ⟨r, hr, -, h⟩ := q2.resolve_left h
      right
      rw [h, nIc (by omega)]
      exact hr
  have hun : u = -1 ↔ formF s = 0 := by
    rw [hu]
    by_cases g : formF s = 0
    · simp [g]
    · rw [if_neg g]
      rcases q3 with h | ⟨-, h⟩
      · exact absurd h g
      · exact ⟨fun z => absurd z h, fun z => absurd z g⟩
  have hrr : ¬ formF s = 0 → (refF s).toNatClampNeg = r := fun g => by
    obtain ⟨w1, w2⟩ := hr (fun z => g (hun.mp z))
    rw [if_neg g] at hu
    rw [← hu, w1, nIc (by omega)]
  obtain ⟨a1, a2, a3, a4, a5, a6, a7, a8, a9, a10, a11⟩ := send_at (size := sizeF s (formF s) (refF s)) h9 hr'
  have en : nOf (sndS s) = n + 1 := by
    unfold nOf sndS
    rw [q1, a10, nI_clamp (by omega)]
  have es : sndS s = sendG s n (refF s) (formF s) (sizeF s (formF s) (refF s)) := by unfold sndS; rw [q1]
  rw [← es] at a1 a2 a3 a4 a5 a6 a7 a8 a9 a10 a11
  refine ⟨⟨fun j hj => ?_, ?_, ?_, ?_, ?_, ?_, ?_, fun p hp => ?_⟩, fun p hp => ?_, fun b b1 b2 => f15 b (by omega) (by omega) (by omega) (by omega) (by omega) (by omega) (by omega) (by omega) (by omega), fun p hp => ⟨f15 _ (by omega) (by omega) (by omega) (by omega) (by omega) (by omega) (by omega) (by omega) (by omega), f15 _ (by omega) (by omega) (by omega) (by omega) (by omega) (by omega) (by omega) (by omega) (by omega), by rw [f11, upd_n (by omega)], by rw [f12, upd_n (by omega)], by rw [f13, upd_n (by omega)]⟩⟩
  · rw [f8, a11 j (by omega) (by omega) (by omega) (by omega) (by omega)]
    exact e1 j hj
  · rw [f2, a11 6 (by omega) (by omega) (by omega) (by omega) (by omega), e2]
  · rw [f3, a11 7 (by omega) (by omega) (by omega) (by omega) (by omega), e3]
  · rw [f4, a7]
  · rw [f5, e5, a10, h9, nI_1]
  · rw [f6, a9, e6]
    by_cases g : formF s = 0
    · rw [if_pos g, if_pos (hun.mpr g)]
    · rw [if_neg g, if_neg (fun z => g (hun.mp z))]
  · rw [f7, a8, e7, hz]
  · rw [en] at hp
    rw [f9]
    by_cases g : p = n
    · rw [g, upd_s, a6]
    · rw [upd_n g, a11 _ (by omega) (by omega) (by omega) (by omega) (by omega)]
      exact ea p (by rw [q1]; omega)
  · rw [en] at hp
    by_cases g : p = n
    · subst g
      refine ⟨fun j hj => ?_, ?_, ?_, ?_, fun hfm j hj => ?_⟩
      · rw [f10 j hj]
        by_cases g4 : j < 4
        · rw [if_pos (Or.inl g4), a1 j g4]
          exact e1 j hj
        · have h2 := a2 (j - 4) (by omega)
          rw [show 4 + (j - 4) = j by omega] at h2
          rw [h2]
          by_cases g : formF s = 0
          · rw [if_pos g, if_pos (Or.inr (hun.mpr g))]
            exact e1 j hj
          · rw [if_neg g, if_neg (fun z => z.elim g4 (fun z => g (hun.mp z))), hrr g]
            have := hr (fun z => g (hun.mp z))
            exact (hL r (by rw [q1]; exact this.2)).1 j hj
      · rw [f13, upd_s, a3, hz]
      · rw [f11, upd_s, a4, hf]
      · rw [f12, upd_s, a5, hu]
      · rw [a4] at hfm
        have hu1 : ¬ u = -1 := fun z => hfm (hun.mp z)
        obtain ⟨w1, w2⟩ := hr hu1
        have wr : refF s = nI r := by rw [← w1, hu, if_neg hfm]
        rw [f14 hu1 j hj]
        unfold carF
        rw [a4, a5, if_neg hfm, wr, nIc (by omega), hf]
        refine putC_congr (fun k hk => ?_) (fun k hk => ?_) hj
        · unfold rowF
          rw [a1 k hk]
          exact e1 k (by omega)
        · rw [hd, h9, wr]
          refine putB_congr (fun i hi => ?_) (by omega)
          unfold rowF
          rw [a11 _ (by omega) (by omega) (by omega) (by omega) (by omega)]
          exact (hL r (by rw [q1]; exact w2)).1 i hi
    · have hp' : p < n := by omega
      obtain ⟨l1, l2, l3, l4, l5⟩ := hL p (by rw [q1]; exact hp')
      refine ⟨fun j hj => ?_, ?_, ?_, ?_, fun hfm j hj => ?_⟩
      · rw [f15 _ (by omega) (by omega) (by omega) (by omega) (by omega) (by omega) (by omega) (by omega) (by omega), a11 _ (by omega) (by omega) (by omega) (by omega) (by omega)]
        exact l1 j hj
      · rw [f13, upd_n g, a11 _ (by omega) (by omega) (by omega) (by omega) (by omega)]
        exact l2
      · rw [f11, upd_n g, a11 _ (by omega) (by omega) (by omega) (by omega) (by omega)]
        exact l3
      · rw [f12, upd_n g, a11 _ (by omega) (by omega) (by omega) (by omega) (by omega)]
        exact l4
      · rw [a11 _ (by omega) (by omega) (by omega) (by omega) (by omega)] at hfm
        rw [f15 _ (by omega) (by omega) (by omega) (by omega) (by omega) (by omega) (by omega) (by omega) (by omega)]
        obtain ⟨nn, hnn, hn9, hpk, -⟩ := hA
        have : nn = n := (nI_eq (by omega) (by omega)).mp (hn9.symm.trans h9)
        subst this
        rcases (hpk p hp').1 with ⟨z1, -⟩ | ⟨-, r', hr1, hr2, hr3⟩
        · exact absurd z1 hfm
        · rw [l5 hfm j hj]
          exact (carF_congr hr3 (by omega) (fun k hk _ _ => a11 k (by omega) (by omega) (by omega) (by omega) (by omega)) hj).symm
