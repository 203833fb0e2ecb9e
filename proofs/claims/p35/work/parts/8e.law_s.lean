/-! ===== the law's beginning ===== -/
theorem fgt_id {μ : qMM} (h : mN μ = none) : fgt μ = μ := by
  obtain ⟨⟨n, f⟩, g⟩ := μ
  have : n = none := h
  subst this
  rfl
theorem HsS_fr {μ μ' : qMM} {x : Nat} (h : Agr μ μ' x (x + 1492)) (g : HsS μ x) : HsS μ' x := by
  obtain ⟨g1, g2, g3, g4, g5, g6⟩ := g
  refine ⟨?_, LgS_fr (fun c a b => h c (by omega) (by omega)) g2, StS_fr (fun c a b => h c (by omega) (by omega)) g3, ?_, fun i hi => StS_fr (fun c a b => h c (by omega) (by omega)) (g5 i hi), ?_⟩
  · unfold obX8 at g1 ⊢
    rw [(h x (by omega) (by omega)).1, g1]
  · unfold PlA at g4 ⊢
    rw [(h _ (by omega) (by omega)).1, g4]
  · have k : Agr μ μ' (x + 1488) (x + 1492) := fun c a b => h c (by omega) (by omega)
    refine ⟨?_, iA_fr (k _ (by omega) (by omega)).1 g6.2.1, iA_fr (k _ (by omega) (by omega)).1 g6.2.2.1, iA_fr (k _ (by omega) (by omega)).1 g6.2.2.2⟩
    have := g6.1
    unfold obX4 at this ⊢
    rw [(k _ (by omega) (by omega)).1, this]
theorem Iv_stI : Iv 600 stI := ⟨by decide, ⟨0, by decide, by decide, fun p hp => absurd hp (by omega), 0, by decide, by decide, fun i hi => absurd hi (by omega)⟩, ⟨0, by decide, by decide, fun i hi => absurd hi (by omega)⟩, Or.inl ⟨by decide, fun k hk => stI_k hk⟩, ⟨3, by decide, by decide⟩, ⟨1, by decide, by decide, by decide⟩, Or.inl (by decide), Or.inl (by decide), by decide, by decide⟩
def mu0 (n : Nat) : qMM := ((some n, fun _ => none), (fun _ _ => 0, fun _ _ => 0))
/-- a new object's state -/
def mod0 : Mod := (zI, stI, zI, zI, zI, zI, 0)
/-- what the law's rows are -/
def rwT (i : Nat) : Nat × Nat × (Nat → Option Nat) := (if i = 1 ∨ i = 7 then 1 else 0, if i = 0 then 21 else if i = 4 ∨ i = 5 then 22 else 64, fun _ => none)
/-- k of the law's rows are made behind a memory -/
def Sta (x k : Nat) (μ1 μ : qMM) : Prop := mN μ = some (x + 1492 + k) ∧ (∀ b, b < x + 1492 → mS μ b = mS μ1 b ∧ mI μ b = mI μ1 b) ∧ ∀ i, i < k → mS μ (x + 1492 + i) = some (.inr (rwT i)) ∧ mI μ (x + 1492 + i) = zI ∧ mJ μ (x + 1492 + i) = fun _ => 0
theorem Sta_mk {x k : Nat} {μ1 μ : qMM} (h : Sta x k μ1 μ) : Sta x (k + 1) μ1 (mk1 μ (x + 1492 + k) (.inr (rwT k))) := by
  obtain ⟨h1, h2, h3⟩ := h
  refine ⟨by rw [mN_mk1]; rfl, fun b hb => ?_, fun i hi => ?_⟩
  · rw [mS_mk1, mI_mk1, if_neg (by omega), if_neg (by omega)]
    exact h2 b hb
  · rw [mS_mk1, mI_mk1, mJ_mk1]
    by_cases e : i = k
    · subst e
      rw [if_pos rfl, if_pos rfl, if_pos rfl]
      exact ⟨rfl, rfl, rfl⟩
    · rw [if_neg (by omega), if_neg (by omega), if_neg (by omega)]
      exact h3 i (by omega)
theorem fgt_lm {ν : qMM} {a : Nat} {I : Nat → Nat → Int32} {J : Nat → Nat → Int64} (h : mN ν = none) : fgt (lm ν a I J) = lm ν a I J := fgt_id h
/-- the rows at the start of the first turn -/
theorem st_ok {I : Nat → Nat → Int32} {J : Nat → Nat → Int64} (h0 : I 0 = upd (upd (upd (upd (upd zI 4 4256) 7 3) 8 1) 9 2) 10 (-1)) (h4 : I 4 = zI) (h5 : I 5 = zI) (h6 : ∀ j, j < 64 → I 6 j = -1) : LwR I J stI 0 := by
  have n0 : nOf stI = 0 := by decide
  refine ⟨⟨0, 0, 0, 0, by decide, by decide, by decide, by decide, by decide, by decide, by decide, by decide, by decide⟩, ?_, fun p hp => absurd hp (by omega), ⟨?_, fun i hi => ?_⟩, ⟨?_, fun i hi => ?_⟩, fun j hj => ?_, by omega⟩
  · rw [h0]
    refine ⟨by decide, by decide, by decide, by decide, ⟨1, 160, by decide, by decide, by decide, by decide, by decide⟩, by decide, by decide, by decide, fun i h1 h2 => ?_⟩
    rcases (by omega : i = 10 ∨ i = 11 ∨ i = 12 ∨ i = 13 ∨ i = 14 ∨ i = 15 ∨ i = 16 ∨ i = 17 ∨ i = 18 ∨ i = 19 ∨ i = 20) with rfl | rfl | rfl | rfl | rfl | rfl | rfl | rfl | rfl | rfl | rfl <;> decide
  · rw [h4]; decide
  · have : (stI 10).toNatClampNeg = 0 := by decide
    omega
  · rw [h5]; decide
  · have : (stI 31).toNatClampNeg = 0 := by decide
    omega
  · rw [h6 j hj, stI_k hj]
    exact ⟨rfl, fun z => absurd rfl z⟩
theorem fil_s (f : Nat → Int32) (j : Nat) : upd (filF f (-1) j) j (-1) = filF f (-1) (j + 1) := by
  funext q
  unfold filF
  by_cases g : q = j
  · subst g
    rw [pk_us, if_pos (by omega)]
  · rw [pk_un g]
    by_cases g2 : q < j
    · rw [if_pos g2, if_pos (by omega)]
    · rw [if_neg g2, if_neg (by omega)]
