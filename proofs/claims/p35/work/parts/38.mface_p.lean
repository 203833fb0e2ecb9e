/-! ===== bodies: the reference's calls ===== -/
theorem pst_s {m : Mod} {x : Nat → Int32} : pstOK (m.ws x) = pstOK m := (by cases m; rfl)
theorem pst_p {m : Mod} {x : Nat → Int32} : pstOK (m.wp x) = pstOK m := (by cases m; rfl)
theorem pst_d {m : Mod} {x : Nat → Int32} : pstOK (m.wd x) = pstOK m := (by cases m; rfl)
theorem pst_t {m : Mod} {x : Nat → Int32} : pstOK (m.wt x) = pstOK m := (by cases m; rfl)
theorem pst_g {m : Mod} {x : Nat → Int32} : pstOK (m.wg x) = pstOK m := (by cases m; rfl)
theorem pst_h {m : Mod} {x : Int64} : pstOK (m.wh x) = pstOK m := (by cases m; rfl)
theorem pst_f {m : Mod} {k : Nat} {v : Int32} (h : k ≠ 3) : pstOK (m.wf (upd m.f k v)) = pstOK m := by
  unfold pstOK
  rw [Mff, upd_n (by omega)]
theorem inR_idx {x : Int32} {b : Nat} (hb : b < 2 ^ 31) (h : 0 ≤ x ∧ x ≤ nI b) : ∃ j : Nat, j ≤ b ∧ x = nI j := by
  obtain ⟨h1, h2⟩ := h
  have h1' : (0 : Int) ≤ x.toInt := by
    have := Int32.le_iff_toInt_le.mp h1
    simpa using this
  have h2' := Int32.le_iff_toInt_le.mp h2
  rw [nI_toInt hb] at h2'
  refine ⟨x.toInt.toNat, by omega, ?_⟩
  apply Int32.toInt_inj.mp
  rw [nI_toInt (by omega)]
  omega
theorem vp100 {n : Nat} (h : n < 100) : vp_in (nI n) 100 := vp_in_nI h (by decide)
theorem pst_m {m : Mod} : pstOK m → pstOK m := id
/-- k may be sent -/
theorem may_ok {s : Nat → Int32} {n f k : Nat} (h9 : s 9 = nI n) (hn : n ≤ 500) (h10 : s 10 = nI f) (hf : f ≤ 20) (hk : k ≤ 20) : mayS s (nI k) ↔ n + k ≤ 500 ∧ f + k ≤ 20 := by
  unfold mayS
  rw [h9, h10, nI_add, nI_add]
  have a1 : nI (n + k) ≤ 500 ↔ n + k ≤ 500 := nI_leI (b := 500) (by omega) (by decide)
  have a2 : nI (f + k) ≤ 20 ↔ f + k ≤ 20 := nI_leI (b := 20) (by omega) (by decide)
  rw [a1, a2]
theorem send_9 {H : Nat} {s : Nat → Int32} {n f : Nat} (iv : Iv H s) (h9 : s 9 = nI n) (hn : n < 500) (h10 : s 10 = nI f) (hf : f < 20) : sendF s 9 = nI (n + 1) ∧ sendF s 10 = nI (f + 1) := by
  obtain ⟨e1, e2, e3⟩ := ref_ok h9 (by omega)
  have hr : formF s = 0 ∨ (refF s).toNatClampNeg < n := by
    rcases e3 with h | ⟨-, h⟩
    · exact Or.inl h
    · obtain ⟨r, hr, -, h⟩ := e2.resolve_left h
      right
      rw [h, nI_clamp (by omega)]
      exact hr
  obtain ⟨a1, a2, a3, a4, a5, a6, a7, a8, a9, a10, a11⟩ := send_at (size := sizeF s (formF s) (refF s)) h9 hr
  have b10 : sendG s n (refF s) (formF s) (sizeF s (formF s) (refF s)) 10 = nI f := by
    rw [a11 10 (by decide) (by decide) (by decide) (by decide) (by omega), h10]
  unfold sendF
  rw [e1]
  exact ⟨by rw [join_o (by omega) b10 (by omega), a10], (join_in hf b10).1⟩
theorem str_ok {H : Nat} {s : Nat → Int32} {n f : Nat} (iv : Iv H s) (h9 : s 9 = nI n) (h10 : s 10 = nI f) : ∀ k, n + k ≤ 500 → f + k ≤ 20 → Iv H (strL s k) ∧ strL s k 9 = nI (n + k) ∧ strL s k 10 = nI (f + k)
  | 0, _, _ => ⟨iv, h9, h10⟩
  | k + 1, hn, hf => by
    obtain ⟨i1, i2, i3⟩ := str_ok iv h9 h10 k (by omega) (by omega)
    have j := Iv_goes i1
    have j9 : goesF (strL s k) 9 = nI (n + k) := by unfold goesF; rw [upd_n (by decide), upd_n (by decide), i2]
    have j10 : goesF (strL s k) 10 = nI (f + k) := by unfold goesF; rw [upd_n (by decide), upd_n (by decide), i3]
    unfold strL
    exact ⟨Iv_send (n := n + k) j9 (by omega) j, send_9 (n := n + k) (f := f + k) j j9 (by omega) j10 (by omega)⟩
theorem keep_o2 {s g : Nat → Int32} {x : Int32} {j : Nat} (h : (j < 66 ∧ j ≠ 55) ∨ 514 ≤ j) : keepF s g x j = s j := by
  have hs := slot_lt x
  simp only [keepF]
  generalize (if s 55 < x then x else s 55) = w
  obtain ⟨-, -, i3⟩ := drop_at (t := upd s 55 w) 64 (by decide)
  split
  · rw [putR_at, if_neg (by omega), upd_n (by omega), i3 j (by omega), upd_n (by omega)]
  · rw [i3 j (by omega), upd_n (by omega)]
theorem fail_o {H : Nat} {s : Nat → Int32} {j : Nat} (iv : IvB H s) (h : j < 31 ∨ (52 ≤ j ∧ j ≤ 54) ∨ 66 ≤ j) : failF s j = s j := by
  obtain ⟨b, hb, hb1, -⟩ := iv
  simp only [failF]
  split
  · rw [upd_n (by omega), upd_n (by omega)]
  · rw [join_o hb (by rw [upd_n (by decide), upd_n (by decide), upd_n (by decide), upd_n (by decide), hb1]) (by omega), upd_n (by omega), upd_n (by omega), upd_n (by omega), upd_n (by omega)]
theorem tell_o {H : Nat} {s : Nat → Int32} {x out : Int32} {j : Nat} (iv : IvB H s) (h : j < 31 ∨ (52 ≤ j ∧ j ≤ 54) ∨ 66 ≤ j) : tellF s x out j = s j := by
  obtain ⟨b, hb, hb1, -⟩ := iv
  have key : ∀ t : Nat → Int32, t 31 = nI b → t j = s j → (if upd t 56 0 57 - upd t 56 0 57 / upd t 56 0 53 * upd t 56 0 53 = 0 then joinF 31 x (upd t 56 0) else upd t 56 0) j = s j := by
    intro t h1 h2
    split
    · rw [join_o hb (by rw [upd_n (by decide), h1]) (by omega), upd_n (by omega), h2]
    · rw [upd_n (by omega), h2]
  simp only [tellF]
  apply key
  · split
    · rw [upd_n (by decide), upd_n (by decide), hb1]
    · rw [upd_n (by decide), upd_n (by decide), hb1]
  · split
    · rw [upd_n (by omega), upd_n (by omega)]
    · rw [upd_n (by omega), upd_n (by omega)]
theorem rec_o {H : Nat} {s g : Nat → Int32} {p j : Nat} (iv : IvB H s) (h : j < 31 ∨ (52 ≤ j ∧ j ≤ 54) ∨ 514 ≤ j) : recS s g p j = s j := by
  have hl : ∀ q, q ≠ 65 → lateF s p q = s q := fun q hq => by unfold lateF; rw [upd_n hq]
  have ib : IvB H (lateF s p) := IvB_congr (fun q hq => hl q (by omega)) iv
  rw [← hl j (by omega)]
  show recS1 (lateF s p) g p j = _
  generalize lateF s p = t at ib
  unfold recS1
  split
  · rw [upd_n (by omega)]
  · split
    · exact fail_o ib (by omega)
    · rw [tell_o (H := H) (IvB_congr (fun q hq => keep_o2 (by omega)) ib) (by omega), keep_o2 (by omega)]
theorem cpy_succ4 {f g : Nat → Int32} {sp n : Nat} : upd (va_cpy f g sp 0 n) n (f (sp + n)) = va_cpy f g sp 0 (n + 1) := by
  rw [Nat.add_comm]
  exact cpy_succ2
