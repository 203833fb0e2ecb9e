/-! ===== the law's rows I, J and the header now agree with the state s ===== -/
def GaR (g s : Nat → Int32) : Prop := g 0 = s 9 ∧ g 1 = s 8 ∧ g 2 = s 6 ∧ g 3 = s 7 ∧ SdR (g 4) (s 4) (s 5) ∧ g 7 = s 52 ∧ g 8 = s 53 ∧ g 9 = s 54 ∧ ∀ i, 10 ≤ i → i ≤ 20 → g i = s (45 + i)
def PaR (I : Nat → Nat → Int32) (J : Nat → Nat → Int64) (s : Nat → Int32) (p : Nat) : Prop := Hd (J 1 p) (fun i => s (514 + 10 * p + i)) ∧ SdR (I 2 p) (s (514 + 10 * p + 4)) (s (514 + 10 * p + 5)) ∧ IfR (I 3 p) (s (514 + 10 * p + 7)) (s (514 + 10 * p + 8)) (s (514 + 10 * p + 9)) (s (514 + 10 * p + 6))
def LnR (f s : Nat → Int32) (k : Nat) : Prop := f 0 = s k ∧ ∀ i, i < (s k).toNatClampNeg → f (1 + i) = s (k + 1 + i)
def KaR (I : Nat → Nat → Int32) (J : Nat → Nat → Int64) (s : Nat → Int32) : Prop := ∀ j, j < 64 → I 6 j = s (66 + 7 * j) ∧ (¬ s (66 + 7 * j) = -1 → Hd (J 7 j) (fun i => s (67 + 7 * j + i)) ∧ SdR (I 8 j) (s (67 + 7 * j + 4)) (s (67 + 7 * j + 5)))
def LwR (I : Nat → Nat → Int32) (J : Nat → Nat → Int64) (s : Nat → Int32) (now : Int64) : Prop := Hd now s ∧ GaR (I 0) s ∧ (∀ p, p < nOf s → PaR I J s p) ∧ LnR (I 4) s 10 ∧ LnR (I 5) s 31 ∧ KaR I J s ∧ nOf s ≤ 63
theorem Iv_n {H : Nat} {s : Nat → Int32} (iv : Iv H s) : s 9 = nI (nOf s) ∧ ∃ f : Nat, f ≤ 20 ∧ s 10 = nI f := by
  obtain ⟨-, ⟨n, hn, h9, -, f, hf, h10, -⟩, -⟩ := iv
  have : nOf s = n := by
    unfold nOf
    rw [h9, nI_clamp (by omega)]
  rw [this]
  exact ⟨h9, f, hf, h10⟩
theorem trustC {a b : Nat → Int32} {c : Int32} {n : Nat} (h : ∀ m, m < n → a m = b m) : ∀ k, k ≤ n → trust a c n k = trust b c n k
  | 0, _ => rfl
  | k + 1, hk => by
    unfold trust
    rw [h k (by omega), trustC h k (by omega)]
theorem ak_ok {I : Nat → Nat → Int32} {J : Nat → Nat → Int64} {s : Nat → Int32} {p : Nat} (k : PaR I J s p) : akL (I 3) p = s (514 + 10 * p + 9) := (IfR_at k.2.2).2.2.1
theorem tu_ok {I : Nat → Nat → Int32} {J : Nat → Nat → Int64} {s : Nat → Int32} {now : Int64} (k : LwR I J s now) (c : Int32) : tuF (I 0) (I 3) c = truF s c := by
  obtain ⟨-, g, p, -⟩ := k
  unfold tuF truF
  rw [g.1]
  exact trustC (fun m hm => ak_ok (p m hm)) _ (Nat.le_refl _)
theorem tru_r {H : Nat} {s : Nat → Int32} (iv : Iv H s) (c : Int32) : truF s c = -1 ∨ ∃ m, m < nOf s ∧ nOf s ≤ m + 15 ∧ truF s c = nI m := by
  rcases trust_r (ackF s) c (nOf s) (nOf s) with h | ⟨m, h1, h2, h3⟩
  · exact Or.inl h
  · exact Or.inr ⟨m, h1, by omega, h3⟩
/-- a header moved -/
theorem mov_ok {h : Int64} {w u : Nat → Int32} {v a b d : Int32} (k : Hd h w) (s : SdR v a b) (e0 : u 0 = w 0) (e1 : u 1 = (w 1 + d * a) &&& 65535) (e2 : u 2 = (w 2 + d * b) &&& 65535) (e3 : u 3 = w 3) : Hd (movF h v d) u := by
  obtain ⟨p0, p1, p2, p3⟩ := Hd_pt k
  obtain ⟨q1, q2⟩ := SdR_at s
  obtain ⟨r0, -, -, r3⟩ := Hd_rg k
  unfold movF
  rw [p0, p1, p2, p3, q2, q1]
  exact Hd_mk r0 r3 e0 e1 e2 e3
theorem sb_0 {s : Nat → Int32} {form d : Int32} {r : Nat} : sbF s form r d 0 = s (514 + 10 * r) := by
  unfold sbF baseF
  rw [if_neg (fun q => absurd q.2.1 (by decide))]
  rfl
theorem sb_3 {s : Nat → Int32} {form d : Int32} {r : Nat} : sbF s form r d 3 = s (514 + 10 * r + 3) := by
  unfold sbF baseF
  rw [if_neg (fun q => absurd q.2.2 (by decide))]
theorem sb_1 {s : Nat → Int32} {form d : Int32} {r : Nat} : sbF s form r d 1 = if form = 2 then (s (514 + 10 * r + 1) + d * s (514 + 10 * r + 4)) &&& 65535 else s (514 + 10 * r + 1) := by
  unfold sbF baseF
  by_cases h : form = 2
  · rw [if_pos ⟨h, by decide, by decide⟩, if_pos h, if_pos (by decide)]
  · rw [if_neg (fun q => h q.1), if_neg h]
theorem sb_2 {s : Nat → Int32} {form d : Int32} {r : Nat} : sbF s form r d 2 = if form = 2 then (s (514 + 10 * r + 2) + d * s (514 + 10 * r + 5)) &&& 65535 else s (514 + 10 * r + 2) := by
  unfold sbF baseF
  by_cases h : form = 2
  · rw [if_pos ⟨h, by decide, by decide⟩, if_pos h, if_pos (by decide)]
  · rw [if_neg (fun q => h q.1), if_neg h]
theorem bs_ok {I : Nat → Nat → Int32} {J : Nat → Nat → Int64} {s : Nat → Int32} {r : Nat} (k : PaR I J s r) (hr : r < 2 ^ 31) (form d : Int32) : Hd (bsF (J 1) (I 2) form (nI r) d) (sbF s form r d) := by
  unfold bsF
  rw [nI_clamp hr]
  by_cases h : form = 2
  · rw [if_pos h]
    refine mov_ok k.1 k.2.1 sb_0 ?_ ?_ sb_3
    · rw [sb_1, if_pos h]
    · rw [sb_2, if_pos h]
  · rw [if_neg h]
    refine Hd_congr (fun i hi => ?_) k.1
    rcases (by omega : i = 0 ∨ i = 1 ∨ i = 2 ∨ i = 3) with rfl | rfl | rfl | rfl
    · exact sb_0
    · rw [sb_1, if_neg h]
    · rw [sb_2, if_neg h]
    · exact sb_3
theorem si_ok {h b : Int64} {w : Nat → Int32} {s : Nat → Int32} {form d : Int32} {r : Nat} (k : Hd h s) (kb : Hd b (sbF s form r d)) : siF h b = szL s form r d 4 := by
  obtain ⟨p0, p1, p2, p3⟩ := Hd_pt k
  obtain ⟨q0, q1, q2, q3⟩ := Hd_pt kb
  unfold siF
  rw [p0, p1, p2, p3, q0, q1, q2, q3, by_eq, by_eq]
  simp only [szL]
  rw [if_neg (show ¬ (1 ≤ 0 ∧ 0 ≤ 2) by decide), if_pos (show 1 ≤ 1 ∧ 1 ≤ 2 by decide), if_pos (show 1 ≤ 2 ∧ 2 ≤ 2 by decide), if_neg (show ¬ (1 ≤ 3 ∧ 3 ≤ 2) by decide)]
  ac_rfl
theorem by_r (x : Int32) : ∃ z : Nat, z ≤ 2 ∧ bytesOf x = nI z := by
  unfold bytesOf
  by_cases h : x = 0
  · rw [if_pos h]; exact ⟨0, by decide, rfl⟩
  · rw [if_neg h]
    by_cases h2 : -128 ≤ x ∧ x ≤ 127
    · rw [if_pos h2]; exact ⟨1, by decide, rfl⟩
    · rw [if_neg h2]; exact ⟨2, by decide, rfl⟩
theorem szL_r (s : Nat → Int32) (form d : Int32) (r : Nat) : ∀ f, ∃ z : Nat, z ≤ 3 + 2 * f ∧ szL s form r d f = nI z
  | 0 => ⟨3, by omega, rfl⟩
  | f + 1 => by
    obtain ⟨z, hz, e⟩ := szL_r s form d r f
    unfold szL
    rw [e]
    by_cases h : 1 ≤ f ∧ f ≤ 2
    · rw [if_pos h]
      obtain ⟨y, hy, e2⟩ := by_r (s f - sbF s form r d f).toInt16.toInt32
      rw [e2, nI_add]
      exact ⟨z + y, by omega, rfl⟩
    · rw [if_neg h]
      by_cases h2 : s f = sbF s form r d f
      · rw [if_pos h2, show (0 : Int32) = nI 0 from rfl, nI_add]
        exact ⟨z + 0, by omega, rfl⟩
      · rw [if_neg h2, show (1 : Int32) = nI 1 from rfl, nI_add]
        exact ⟨z + 1, by omega, rfl⟩
theorem nx_ok {H : Nat} {I : Nat → Nat → Int32} {J : Nat → Nat → Int64} {s : Nat → Int32} {now : Int64} (iv : Iv H s) (k : LwR I J s now) (p c : Int32) : nxF (I 0) (J 1) (I 2) (I 3) now p c = if p = 0 ∨ truF s c = -1 ∨ s 8 = 1 then 120 else 10 * sizeF s p (truF s c) + p := by
  unfold nxF
  rw [tu_ok k c]
  have g1 : I 0 1 = s 8 := k.2.1.2.1
  have g0 : I 0 0 = s 9 := k.2.1.1
  rw [g1, g0]
  rcases tru_r iv c with e | ⟨m, h1, h2, e⟩
  · rw [e, if_pos (Or.inr (Or.inl (by decide))), if_pos (Or.inr (Or.inl rfl))]
  · have hm : m < 63 := by have := k.2.2.2.2.2.2; omega
    rw [e]
    by_cases g : p = 0 ∨ s 8 = 1
    · rw [if_pos (g.elim Or.inl (fun z => Or.inr (Or.inr z))), if_pos (g.elim Or.inl (fun z => Or.inr (Or.inr z)))]
    · have n1 : ¬ (p = 0 ∨ nI m < 0 ∨ s 8 = 1) := fun q => q.elim (fun z => g (Or.inl z)) (fun q => q.elim (fun z => nI_pos (by omega) z) (fun z => g (Or.inr z)))
      have n2 : ¬ (p = 0 ∨ nI m = -1 ∨ s 8 = 1) := fun q => q.elim (fun z => g (Or.inl z)) (fun q => q.elim (fun z => nI_m1 (by omega) z) (fun z => g (Or.inr z)))
      rw [if_neg n1, if_neg n2]
      unfold sizeF
      rw [if_neg (fun z => g (Or.inl z)), nI_clamp (by omega)]
      rw [si_ok (w := s) k.1 (bs_ok (k.2.2.1 m h1) (by omega) p (s 9 - nI m))]
