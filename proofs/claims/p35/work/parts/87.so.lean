/-! ===== what the law asks changes nothing that counts ===== -/
theorem Hq {H : Nat} {μ μ' : qMM} {h : Nat} {m m' : Mod} (hP : HsP H μ h m) (q : HsQ H μ μ' h m') (e : m' = telM m) : HsP H μ' h m := by
  subst e
  obtain ⟨⟨F, rfl⟩, ⟨⟨w, c, f3, g1, ⟨g2, g3, g4⟩, g5, g6⟩, n, t1, t2, t3, t4⟩, -⟩ := q
  obtain ⟨k1, k2, k3, ⟨w0, c0, f0, p1, ⟨p2, p3, p4⟩, p5, p6⟩, n0, u1, u2, u3, u4⟩ := hP
  have e3 : (telM m).f 3 = m.f 3 := by
    show upd m.f 6 0 3 = _
    exact upd_n (by decide)
  have e5 : (telM m).f 5 = m.f 5 := by
    show upd m.f 6 0 5 = _
    exact upd_n (by decide)
  rw [e3] at f3
  rw [e5] at t3
  have hc : c = c0 := (nI_eq (by omega) (by omega)).mp (f3.symm.trans f0)
  subst hc
  refine ⟨k1, k2, k3, ⟨w, c, f0, g1, ⟨g2, g3, p4⟩, fun i hi => ⟨(g5 i hi).1, (g5 i hi).2.1, (p5 i hi).2.2.1, (g5 i hi).2.2.2⟩, g6⟩, n, t1, t2, t3, t4⟩
theorem Hn {H : Nat} {μ μ' : qMM} {h : Nat} {m m' : Mod} (hH : H + 4000 < 2 ^ 30) (hP : HsP H μ h m) (q : HsQ H μ μ' h m') : HsP (H + 2000) μ' h m' := by
  obtain ⟨⟨F, rfl⟩, q2, -⟩ := q
  exact ⟨hP.1, hP.2.1, by omega, q2⟩
theorem HsP_iv {H : Nat} {μ : qMM} {h : Nat} {m : Mod} (hP : HsP H μ h m) : Iv H m.s := by
  obtain ⟨-, -, -, ⟨w, c, -, -, ⟨-, -, p4⟩, -⟩, -⟩ := hP
  exact p4
theorem lm_eq {μ : qMM} {a : Nat} {I : Nat → Nat → Int32} {J : Nat → Nat → Int64} (hI : ∀ k, k < 9 → mI μ (a + k) = I k) (hJ : ∀ k, k < 9 → mJ μ (a + k) = J k) : lm μ a I J = μ := by
  obtain ⟨m1, m2, m3⟩ := μ
  unfold lm
  simp only [Prod.mk.injEq, true_and]
  constructor
  · funext b
    by_cases h : a ≤ b ∧ b < a + 9
    · rw [if_pos h, ← hI _ (by omega), show a + (b - a) = b by omega]
      rfl
    · rw [if_neg h]
  · funext b
    by_cases h : a ≤ b ∧ b < a + 9
    · rw [if_pos h, ← hJ _ (by omega), show a + (b - a) = b by omega]
      rfl
    · rw [if_neg h]
/-- the class at x with the state of m, the law's rows I, J behind it -/
def SoV (H x : Nat) (m : Mod) (I : Nat → Nat → Int32) (J : Nat → Nat → Int64) (ν : qMM) : Prop := HsP H (lm ν (x + 1492) I J) x m ∧ LaS (lm ν (x + 1492) I J) (x + 1492)
section
variable {H H' x : Nat} {m m' : Mod} {I : Nat → Nat → Int32} {J : Nat → Nat → Int64} {ν μ' : qMM}
theorem so_mk (h : SoV H x m I J ν) (hP : HsP H' μ' x m') (hS : Sm (lm ν (x + 1492) I J) μ') (hF : ∀ b, ¬ (x ≤ b ∧ b < x + 1492) → mI μ' b = mI (lm ν (x + 1492) I J) b) : μ' = lm μ' (x + 1492) I J ∧ SoV H' x m' I J μ' := by
  obtain ⟨F, rfl⟩ := hS
  have e : lm (wA (lm ν (x + 1492) I J) F) (x + 1492) I J = wA (lm ν (x + 1492) I J) F := lm_eq (fun k hk => by rw [hF _ (by omega), mI_lm hk]) (fun k hk => by rw [mJ_wA, mJ_lm hk])
  refine ⟨e.symm, ?_⟩
  unfold SoV
  rw [e]
  exact ⟨hP, h.2⟩
theorem so_tel {A : Mod → Int32 × Mod} {r : Int32} (h : SoV H x m I J ν) (q : ∀ H m, HsP H (lm ν (x + 1492) I J) x m → r = (A m).1 ∧ HsQ H (lm ν (x + 1492) I J) μ' x (A m).2) (e : (A m).2 = telM m) : ∃ ν', μ' = lm ν' (x + 1492) I J ∧ r = (A m).1 ∧ SoV H x m I J ν' := by
  obtain ⟨q1, q2⟩ := q H m h.1
  obtain ⟨a1, a2⟩ := so_mk h (Hq h.1 q2 e) q2.1 q2.2.2
  exact ⟨μ', a1, q1, a2⟩
theorem so_d {r : UInt64} (h : SoV H x m I J ν) (q : ∀ H m, HsP H (lm ν (x + 1492) I J) x m → r = meaF m.s ∧ HsQ H (lm ν (x + 1492) I J) μ' x (telM m)) : ∃ ν', μ' = lm ν' (x + 1492) I J ∧ r = meaF m.s ∧ SoV H x m I J ν' := by
  obtain ⟨q1, q2⟩ := q H m h.1
  obtain ⟨a1, a2⟩ := so_mk h (Hq h.1 q2 rfl) q2.1 q2.2.2
  exact ⟨μ', a1, q1, a2⟩
theorem so_hl {A : Mod → Int32 × Mod} {k1 k2 r : Int32} (h : SoV H x m I J ν) (q : HlR A k1 k2 x (lm ν (x + 1492) I J) r μ') (e : (A m).2 = telM m) : ∃ ν', μ' = lm ν' (x + 1492) I J ∧ r = (A m).1 ∧ SoV H x m I J ν' := by
  rcases q H m h.1 with ⟨z, q1, q2⟩ | ⟨z, -⟩ | ⟨z, -⟩
  · obtain ⟨a1, a2⟩ := so_mk h (Hq h.1 q2 e) q2.1 q2.2.2
    exact ⟨μ', a1, q1, a2⟩
  · rw [e, tel6] at z
    exact absurd z (by decide)
  · rw [e, tel6] at z
    exact absurd z (by decide)
theorem so_f1 {A : Mod → Int32 × Mod} {k1 k2 r : Int32} (h : SoV H x m I J ν) (q : HlR A k1 k2 x (lm ν (x + 1492) I J) r μ') (e : (A m).2.f 6 = 1) : μ' = lm ν (x + 1492) I J ∧ r = k1 := by
  rcases q H m h.1 with ⟨z, -⟩ | ⟨-, q1, q2⟩ | ⟨z, -⟩
  · rw [e] at z
    exact absurd z (by decide)
  · exact ⟨q2, q1⟩
  · rw [e] at z
    exact absurd z (by decide)
theorem so_f2 {A : Mod → Int32 × Mod} {k1 k2 r : Int32} (h : SoV H x m I J ν) (q : HlR A k1 k2 x (lm ν (x + 1492) I J) r μ') (e : (A m).2.f 6 = 2) : μ' = lm ν (x + 1492) I J ∧ r = k2 := by
  rcases q H m h.1 with ⟨z, -⟩ | ⟨z, -⟩ | ⟨-, q1, q2⟩
  · rw [e] at z
    exact absurd z (by decide)
  · rw [e] at z
    exact absurd z (by decide)
  · exact ⟨q2, q1⟩
/-- an order that is carried out -/
theorem so_up {A : Mod → Int32 × Mod} {k1 k2 r : Int32} (hH : H + 4000 < 2 ^ 30) (h : SoV H x m I J ν) (q : HlR A k1 k2 x (lm ν (x + 1492) I J) r μ') (e : (A m).2.f 6 = 0) : ∃ ν', μ' = lm ν' (x + 1492) I J ∧ r = (A m).1 ∧ SoV (H + 2000) x (A m).2 I J ν' := by
  rcases q H m h.1 with ⟨-, q1, q2⟩ | ⟨z, -⟩ | ⟨z, -⟩
  · obtain ⟨a1, a2⟩ := so_mk h (Hn hH h.1 q2) q2.1 q2.2.2
    exact ⟨μ', a1, q1, a2⟩
  · rw [e] at z
    exact absurd z (by decide)
  · rw [e] at z
    exact absurd z (by decide)
theorem so_upd {A : Mod → Int32 × Mod} {r : Int32} (hH : H + 4000 < 2 ^ 30) (h : SoV H x m I J ν) (q : ∀ H m, HsP H (lm ν (x + 1492) I J) x m → r = (A m).1 ∧ HsQ H (lm ν (x + 1492) I J) μ' x (A m).2) : ∃ ν', μ' = lm ν' (x + 1492) I J ∧ r = (A m).1 ∧ SoV (H + 2000) x (A m).2 I J ν' := by
  obtain ⟨q1, q2⟩ := q H m h.1
  obtain ⟨a1, a2⟩ := so_mk h (Hn hH h.1 q2) q2.1 q2.2.2
  exact ⟨μ', a1, q1, a2⟩
theorem so_t (h : SoV H x m I J ν) : ∃ t, mS (lm ν (x + 1492) I J) x = some (.inl (7, t)) := tX8 h.1.1.1
end
theorem HsV_fr2 {H : Nat} {μ μ' : qMM} {h : Nat} {m : Mod} (hS : ∀ b, mS μ' b = mS μ b) (hI : ∀ b, h ≤ b → b < h + 1492 → mI μ' b = mI μ b) (g : HsV H μ h m) : HsV H μ' h m := by
  obtain ⟨⟨w, c, f3, g1, ⟨g2, g3, g4⟩, g5, g6⟩, n, t1, t2, t3, t4⟩ := g
  have ag : ∀ a b, h ≤ a → b ≤ h + 1492 → Agr μ μ' a b := fun a b h1 h2 e e1 e2 => ⟨hS e, hI e (by omega) (by omega)⟩
  have lgf : ∀ {s : Nat → Int32}, Iv H s → LgR μ (h + 1) s → LgR μ' (h + 1) s := fun {s} iv g p hp => by
    have hn := (nOf_le iv).1
    have := g p hp
    unfold LgR1 at this ⊢
    rw [hI (h + 1 + 2 + p) (by omega) (by omega), hI (h + 1 + 1005) (by omega) (by omega), hI (h + 1 + 1003) (by omega) (by omega), hI (h + 1 + 1004) (by omega) (by omega), hI (h + 1 + 503 + p) (by omega) (by omega)]
    exact this
  have plt : ∀ {w c i : Nat}, h + 1088 ≤ plC h w c i ∧ plC h w c i + 80 ≤ h + 1488 := fun {w c i} => by
    unfold plC
    have := Nat.mod_lt (w + 5 - (c - 1 - i)) (show 5 > 0 by decide)
    omega
  refine ⟨⟨w, c, f3, ?_, ⟨CsR_fr (ag _ _ (by omega) (by omega)) g2, lgf g4 g3, g4⟩, fun i hi => ?_, g6⟩, n, t1, ?_, t3, ?_⟩
  · rw [hI h (by omega) (by omega)]
    exact g1
  · obtain ⟨q1, q2, q3, q4⟩ := g5 i hi
    have := plt (w := w) (c := c) (i := i)
    exact ⟨CsR_fr (ag _ _ (by omega) (by omega)) q1, lgf q3 q2, q3, q4⟩
  · rw [hI (h + 1488) (by omega) (by omega)]
    exact t2
  · rw [hI (h + 1489) (by omega) (by omega)]
    exact t4
/-- other rows of the law behind the same class -/
theorem so_lm {H x : Nat} {m : Mod} {I I' : Nat → Nat → Int32} {J J' : Nat → Nat → Int64} {ν : qMM} (h : SoV H x m I J ν) : SoV H x m I' J' ν := by
  obtain ⟨⟨h1, h2, h3, h4⟩, h5⟩ := h
  exact ⟨⟨h1, h2, h3, HsV_fr2 (μ := lm ν (x + 1492) I J) (fun b => rfl) (fun b b1 b2 => (mI_lmo (by omega)).trans (mI_lmo (by omega)).symm) h4⟩, h5⟩
/-- all that is behind an asking call -/
def Kp (x : Nat) (μ μ' : qMM) : Prop := (∀ H m, HsP H μ x m → HsP H μ' x m) ∧ Sm μ μ' ∧ ∀ b, ¬ (x ≤ b ∧ b < x + 1492) → mI μ' b = mI μ b
theorem Kp_refl {x : Nat} {μ : qMM} : Kp x μ μ := ⟨fun _ _ h => h, Sm_refl, fun _ _ => rfl⟩
theorem Kp_trans {x : Nat} {μ μ1 μ2 : qMM} (h : Kp x μ μ1) (k : Kp x μ1 μ2) : Kp x μ μ2 := ⟨fun H m q => k.1 H m (h.1 H m q), Sm_trans h.2.1 k.2.1, fun b hb => (k.2.2 b hb).trans (h.2.2 b hb)⟩
def SoW (μ0 : qMM) (H x : Nat) (m : Mod) (I : Nat → Nat → Int32) (J : Nat → Nat → Int64) (ν : qMM) : Prop := SoV H x m I J ν ∧ Kp x μ0 (lm ν (x + 1492) I J)
section
variable {μ0 : qMM} {H x : Nat} {m : Mod} {I : Nat → Nat → Int32} {J : Nat → Nat → Int64} {ν μ' : qMM}
theorem kp_tel {A : Mod → Int32 × Mod} {r : Int32} {μ : qMM} (hP : HsP H μ x m) (q : ∀ H m, HsP H μ x m → r = (A m).1 ∧ HsQ H μ μ' x (A m).2) (e : ∀ m, (A m).2 = telM m) : Kp x μ μ' := ⟨fun H m h => Hq h (q H m h).2 (e m), (q H m hP).2.1, (q H m hP).2.2.2⟩
theorem kp_d {r : UInt64} {μ : qMM} (hP : HsP H μ x m) (q : ∀ H m, HsP H μ x m → r = meaF m.s ∧ HsQ H μ μ' x (telM m)) : Kp x μ μ' := ⟨fun H m h => Hq h (q H m h).2 rfl, (q H m hP).2.1, (q H m hP).2.2.2⟩
theorem kp_hl {A : Mod → Int32 × Mod} {k1 k2 r : Int32} {μ : qMM} (hP : HsP H μ x m) (q : HlR A k1 k2 x μ r μ') (e : ∀ m, (A m).2 = telM m ∨ ∃ k, (A m).2 = faiM m k) : Kp x μ μ' := by
  have one : ∀ H m, HsP H μ x m → (HsP H μ' x m ∧ Sm μ μ' ∧ ∀ b, ¬ (x ≤ b ∧ b < x + 1492) → mI μ' b = mI μ b) := fun H m h => by
    rcases q H m h with ⟨z, -, q2⟩ | ⟨-, -, rfl⟩ | ⟨-, -, rfl⟩
    · refine ⟨Hq h q2 ?_, q2.1, q2.2.2⟩
      rcases e m with e | ⟨k, e⟩
      · exact e
      · rw [e, fai6] at z
        rw [e, z]
        rfl
    · exact ⟨h, Sm_refl, fun _ _ => rfl⟩
    · exact ⟨h, Sm_refl, fun _ _ => rfl⟩
  exact ⟨fun H m h => (one H m h).1, (one H m hP).2.1, (one H m hP).2.2⟩
theorem sw_mk (h : SoW μ0 H x m I J ν) (k : Kp x (lm ν (x + 1492) I J) μ') : ∃ ν', μ' = lm ν' (x + 1492) I J ∧ SoW μ0 H x m I J ν' := by
  obtain ⟨a1, a2⟩ := so_mk h.1 (k.1 H m h.1.1) k.2.1 k.2.2
  exact ⟨μ', a1, a2, by rw [← a1]; exact Kp_trans h.2 k⟩
theorem sw_tel {A : Mod → Int32 × Mod} {r : Int32} (h : SoW μ0 H x m I J ν) (q : ∀ H m, HsP H (lm ν (x + 1492) I J) x m → r = (A m).1 ∧ HsQ H (lm ν (x + 1492) I J) μ' x (A m).2) (e : ∀ m, (A m).2 = telM m) : ∃ ν', μ' = lm ν' (x + 1492) I J ∧ r = (A m).1 ∧ SoW μ0 H x m I J ν' := by
  obtain ⟨ν', a1, a2⟩ := sw_mk h (kp_tel h.1.1 q e)
  exact ⟨ν', a1, (q H m h.1.1).1, a2⟩
theorem sw_d {r : UInt64} (h : SoW μ0 H x m I J ν) (q : ∀ H m, HsP H (lm ν (x + 1492) I J) x m → r = meaF m.s ∧ HsQ H (lm ν (x + 1492) I J) μ' x (telM m)) : ∃ ν', μ' = lm ν' (x + 1492) I J ∧ r = meaF m.s ∧ SoW μ0 H x m I J ν' := by
  obtain ⟨ν', a1, a2⟩ := sw_mk h (kp_d h.1.1 q)
  exact ⟨ν', a1, (q H m h.1.1).1, a2⟩
theorem sw_hl {A : Mod → Int32 × Mod} {k1 k2 r : Int32} (h : SoW μ0 H x m I J ν) (q : HlR A k1 k2 x (lm ν (x + 1492) I J) r μ') (e : ∀ m, (A m).2 = telM m ∨ ∃ k, (A m).2 = faiM m k) (e0 : (A m).2 = telM m) : ∃ ν', μ' = lm ν' (x + 1492) I J ∧ r = (A m).1 ∧ SoW μ0 H x m I J ν' := by
  obtain ⟨ν', a1, a2⟩ := sw_mk h (kp_hl h.1.1 q e)
  refine ⟨ν', a1, ?_, a2⟩
  rcases q H m h.1.1 with ⟨-, q1, -⟩ | ⟨z, -⟩ | ⟨z, -⟩
  · exact q1
  · rw [e0, tel6] at z
    exact absurd z (by decide)
  · rw [e0, tel6] at z
    exact absurd z (by decide)
theorem sw_P (h : SoW μ0 H x m I J ν) : ∃ H m, HsP H (lm ν (x + 1492) I J) x m := ⟨H, m, h.1.1⟩
theorem sw_t (h : SoW μ0 H x m I J ν) : ∃ t, mS (lm ν (x + 1492) I J) x = some (.inl (7, t)) := so_t h.1
end
