/-! ===== the law's invariant: the class at x and the reference behind it agree ===== -/
theorem LgR_fr {H : Nat} {μ μ' : qMM} {lg : Nat} {s : Nat → Int32} (iv : Iv H s) (h : ∀ b, lg ≤ b → b < lg + 1006 → mI μ' b = mI μ b) (g : LgR μ lg s) : LgR μ' lg s := by
  intro p hp
  have hn := (nOf_le iv).1
  have := g p hp
  unfold LgR1 at this ⊢
  rw [h (lg + 2 + p) (by omega) (by omega), h (lg + 1005) (by omega) (by omega), h (lg + 1003) (by omega) (by omega), h (lg + 1004) (by omega) (by omega), h (lg + 503 + p) (by omega) (by omega)]
  exact this
theorem plC_lt {h w c i : Nat} : h + 1088 ≤ plC h w c i ∧ plC h w c i + 80 ≤ h + 1488 := by
  unfold plC
  have := Nat.mod_lt (w + 5 - (c - 1 - i)) (show 5 > 0 by decide)
  omega
theorem HsV_fr {H : Nat} {μ μ' : qMM} {h : Nat} {m : Mod} (hS : ∀ b, mS μ' b = mS μ b) (hI : ∀ b, h ≤ b → b < h + 1492 → mI μ' b = mI μ b) (g : HsV H μ h m) : HsV H μ' h m := by
  obtain ⟨⟨w, c, f3, g1, ⟨g2, g3, g4⟩, g5, g6⟩, n, t1, t2, t3, t4⟩ := g
  have ag : ∀ a b, h ≤ a → b ≤ h + 1492 → Agr μ μ' a b := fun a b h1 h2 e e1 e2 => ⟨hS e, hI e (by omega) (by omega)⟩
  refine ⟨⟨w, c, f3, ?_, ⟨CsR_fr (ag _ _ (by omega) (by omega)) g2, LgR_fr g4 (fun b b1 b2 => hI b (by omega) (by omega)) g3, g4⟩, fun i hi => ?_, g6⟩, n, t1, ?_, t3, ?_⟩
  · rw [hI h (by omega) (by omega)]
    exact g1
  · obtain ⟨q1, q2, q3, q4⟩ := g5 i hi
    have := plC_lt (h := h) (w := w) (c := c) (i := i)
    exact ⟨CsR_fr (ag _ _ (by omega) (by omega)) q1, LgR_fr q3 (fun b b1 b2 => hI b (by omega) (by omega)) q2, q3, q4⟩
  · rw [hI (h + 1488) (by omega) (by omega)]
    exact t2
  · rw [hI (h + 1489) (by omega) (by omega)]
    exact t4
theorem MOK_of {H : Nat} {μ : qMM} {h : Nat} {m : Mod} (hP : HsP H μ h m) : MOK m := by
  obtain ⟨k, hN, hH, ⟨w, c, f3, g⟩, n, t1, t2, t3, t4⟩ := hP
  exact ⟨⟨c, g.1.2.2.2, f3⟩, ⟨H, hH, g.2.1.2.2⟩, n, t1, t3⟩
/-- m' is a failure of m -/
def badM (m m' : Mod) : Prop := ∃ k, m' = faiM m k ∨ m' = faiM (holM m) k
theorem HsQ_bad {H : Nat} {μ : qMM} {h : Nat} {m m' : Mod} (r : HsP H μ h m) (b : badM m m') : HsQ H μ μ h m' := by
  obtain ⟨k, rfl | rfl⟩ := b
  · refine ⟨Sm_refl, HsV_up (by omega) (HsV_id ?_ ?_ rfl rfl rfl r.2.2.2), fun _ _ => rfl⟩
    · show upd m.f 6 k 3 = _
      exact upd_n (by decide)
    · show upd m.f 6 k 5 = _
      exact upd_n (by decide)
  · refine ⟨Sm_refl, HsV_up (by omega) (HsV_id ?_ ?_ rfl rfl rfl r.2.2.2), fun _ _ => rfl⟩
    · show upd m.f 6 k 3 = _
      exact upd_n (by decide)
    · show upd m.f 6 k 5 = _
      exact upd_n (by decide)
def InvL (H : Nat) (μ : qMM) (x : Nat) (m : Mod) : Prop := HsP H μ x m ∧ MoS μ (x + 1492) ∧ rd μ (x + 1492) = m ∧ LaP μ (x + 1498)
theorem mJ_wL {μ : qMM} {a k b : Nat} {v : Int64} : mJ (wL μ a k v) b = if b = a then vp_updL (mJ μ a) k v else mJ μ b := by cases μ; rfl
theorem mI_mm {μ : qMM} {o b : Nat} {m : Mod} (h : b < o ∨ o + 6 ≤ b) : mI (mm μ o m) b = mI μ b := by
  unfold mm mI
  dsimp only
  repeat (first | rw [if_pos trivial] | rw [if_pos (by omega)] | rw [if_neg (by omega)])
theorem mJ_mmn {μ : qMM} {o b : Nat} {m : Mod} (h : ¬ b = o) : mJ (mm μ o m) b = mJ μ b := by
  unfold mm mJ
  dsimp only
  repeat (first | rw [if_pos trivial] | rw [if_pos (by omega)] | rw [if_neg (by omega)])
/-- what is known when the class has been asked, and before the reference is -/
def Aft (μ μ1 : qMM) (x : Nat) (m : Mod) : Prop := MoS μ1 (x + 1492) ∧ rd μ1 (x + 1492) = m ∧ LaP μ1 (x + 1498)
theorem Aft_of {H : Nat} {μ ν : qMM} {x : Nat} {m m' : Mod} (hI : InvL H μ x m) (q : HsQ H μ ν x m') : Aft μ ν x m := by
  obtain ⟨hP, hM, hr, hL⟩ := hI
  obtain ⟨⟨F, rfl⟩, q2, q3⟩ := q
  refine ⟨hM, ?_, hL⟩
  rw [← hr]
  unfold rd
  rw [q3 _ (by omega), q3 _ (by omega), q3 _ (by omega), q3 _ (by omega), q3 _ (by omega), q3 _ (by omega)]
  rfl
theorem Aft_wL {μ ν : qMM} {x : Nat} {m : Mod} {v : Int64} (h : Aft μ ν x m) : Aft μ (wL ν (x + 1498) 0 v) x m := by
  refine ⟨h.1, ?_, h.2.2⟩
  rw [← h.2.1]
  unfold rd
  rw [mJ_wL, if_neg (by omega)]
  rfl
/-- behind both -/
theorem InvL_next {H : Nat} {μ ν μ1 : qMM} {x : Nat} {m m' : Mod} (hH : H + 4000 < 2 ^ 30) (hI : InvL H μ x m) (q : HsQ H μ ν x m') (h1 : μ1 = ν ∨ ∃ v, μ1 = wL ν (x + 1498) 0 v) : InvL (H + 2000) (mm μ1 (x + 1492) m') x m' := by
  obtain ⟨hP, hM, hr, hL⟩ := hI
  obtain ⟨⟨F, rfl⟩, q2, q3⟩ := q
  have e : HsS μ1 x ∧ mN μ1 = none ∧ HsV (H + 2000) μ1 x m' ∧ MoS μ1 (x + 1492) ∧ LaP μ1 (x + 1498) := by
    rcases h1 with rfl | ⟨v, rfl⟩
    · exact ⟨hP.1, hP.2.1, q2, hM, hL⟩
    · exact ⟨hP.1, hP.2.1, q2, hM, hL⟩
  refine ⟨⟨e.1, e.2.1, by omega, HsV_fr (fun b => mS_mm) (fun b b1 b2 => mI_mm (Or.inl b2)) e.2.2.1⟩, e.2.2.2.1, rd_mm, e.2.2.2.2⟩
theorem hl_next {A : Mod → Int32 × Mod} {H : Nat} {μ μ1 : qMM} {x : Nat} {m : Mod} {r : Int32} (hH : H + 4000 < 2 ^ 30) (hI : InvL H μ x m) (q : HlQ A x (x + 1498) μ r μ1) (hb : ¬ (A m).2.f 6 = 0 → badM m (A m).2) : r = (A m).2.f 6 ∧ Aft μ μ1 x m ∧ InvL (H + 2000) (mm μ1 (x + 1492) (A m).2) x (A m).2 ∧ ((A m).2.f 6 = 0 → mJ (mm μ1 (x + 1492) (A m).2) (x + 1498) 0 = (A m).1.toInt64) := by
  obtain ⟨q1, q2, q3⟩ := q H m hI.1
  refine ⟨q1, ?_⟩
  by_cases g : (A m).2.f 6 = 0
  · obtain ⟨ν, q4, rfl⟩ := q2 g
    refine ⟨Aft_wL (Aft_of hI q4), InvL_next hH hI q4 (Or.inr ⟨_, rfl⟩), fun _ => ?_⟩
    rw [mJ_mmn (by omega), mJ_wL, if_pos rfl]
    rfl
  · have q4 := HsQ_bad hI.1 (hb g)
    have := q3 g
    subst this
    exact ⟨Aft_of hI q4, InvL_next hH hI q4 (Or.inl rfl), fun z => absurd z g⟩
