/-! ===== the law: shapes, words, tables (by program) ===== -/
def sg_saaaaaaaai_i (mc ms : Nat) (P : Nat → Nat → Nat → Nat → Nat → Nat → Nat → Nat → Int32 → qMM → Prop) (Q : Nat → Nat → Nat → Nat → Nat → Nat → Nat → Nat → Int32 → qMM → Int32 → qMM → Prop) : qCS := (9, fun av μ => ∃ (x1 : Nat) (x2 : Nat) (x3 : Nat) (x4 : Nat) (x5 : Nat) (x6 : Nat) (x7 : Nat) (x8 : Nat) (x9 : Int32), av = [.ref x1, .ref x2, .ref x3, .ref x4, .ref x5, .ref x6, .ref x7, .ref x8, .int x9] ∧ P x1 x2 x3 x4 x5 x6 x7 x8 x9 μ, fun av μ v μ' => ∀ (x1 : Nat) (x2 : Nat) (x3 : Nat) (x4 : Nat) (x5 : Nat) (x6 : Nat) (x7 : Nat) (x8 : Nat) (x9 : Int32), av = [.ref x1, .ref x2, .ref x3, .ref x4, .ref x5, .ref x6, .ref x7, .ref x8, .int x9] → ∃ r : Int32, v = some (.int r) ∧ Q x1 x2 x3 x4 x5 x6 x7 x8 x9 μ r μ', mc, ms)
theorem sg_saaaaaaaai_i_call {mc ms : Nat} {P : Nat → Nat → Nat → Nat → Nat → Nat → Nat → Nat → Int32 → qMM → Prop} {Q : Nat → Nat → Nat → Nat → Nat → Nat → Nat → Nat → Int32 → qMM → Int32 → qMM → Prop} {x1 : Nat} {x2 : Nat} {x3 : Nat} {x4 : Nat} {x5 : Nat} {x6 : Nat} {x7 : Nat} {x8 : Nat} {x9 : Int32} {st : List Value} {μ : qMM} {c0 s0 rc rs : Nat} {k : List Value → qMM → Nat × Nat → Prop} : qCal (sg_saaaaaaaai_i mc ms P Q) (.int x9 :: .ref x8 :: .ref x7 :: .ref x6 :: .ref x5 :: .ref x4 :: .ref x3 :: .ref x2 :: .ref x1 :: st) μ (c0, s0) rc rs k = (st.length ≤ 4 ∧ c0 + mc ≤ rc ∧ s0 + ms ≤ rs ∧ P x1 x2 x3 x4 x5 x6 x7 x8 x9 μ ∧ ∀ (r : Int32) (μ' : qMM), Q x1 x2 x3 x4 x5 x6 x7 x8 x9 μ r μ' → k (.int r :: st) μ' (c0 + mc, s0 + ms)) := by
  apply propext
  constructor
  · rintro ⟨-, h2, h3, h4, h5, h6⟩
    obtain ⟨y0, y1, y2, y3, y4, y5, y6, y7, y8, e, hp⟩ := h5
    cases e
    exact ⟨h2, h3, h4, hp, fun r μ' hq => h6 (some (.int r)) μ' (fun _ _ _ _ _ _ _ _ _ e => by cases e; exact ⟨r, rfl, hq⟩)⟩
  · rintro ⟨h2, h3, h4, hp, h6⟩
    refine ⟨by simp [sg_saaaaaaaai_i], h2, h3, h4, ⟨x1, x2, x3, x4, x5, x6, x7, x8, x9, rfl, hp⟩, fun v μ' hq => ?_⟩
    obtain ⟨r, rfl, hq2⟩ := hq x1 x2 x3 x4 x5 x6 x7 x8 x9 rfl
    exact h6 _ _ hq2
theorem sg_saaaaaaaai_i_R {mc ms : Nat} {P : Nat → Nat → Nat → Nat → Nat → Nat → Nat → Nat → Int32 → qMM → Prop} {Q : Nat → Nat → Nat → Nat → Nat → Nat → Nat → Nat → Int32 → qMM → Int32 → qMM → Prop} {x1 : Nat} {x2 : Nat} {x3 : Nat} {x4 : Nat} {x5 : Nat} {x6 : Nat} {x7 : Nat} {x8 : Nat} {x9 : Int32} {μ : qMM} : (fun v μ' (cs : Nat × Nat) => (sg_saaaaaaaai_i mc ms P Q).2.2.1 [.ref x1, .ref x2, .ref x3, .ref x4, .ref x5, .ref x6, .ref x7, .ref x8, .int x9] μ v μ' ∧ cs.1 ≤ mc ∧ cs.2 ≤ ms) = rti mc ms (Q x1 x2 x3 x4 x5 x6 x7 x8 x9 μ) := by
  funext v μ' cs
  apply propext
  refine and_congr_left fun _ => ⟨fun h => ?_, fun h => ?_⟩
  · exact h x1 x2 x3 x4 x5 x6 x7 x8 x9 rfl
  · intro _ _ _ _ _ _ _ _ _ e
    cases e
    exact h
def sg_saaaaja_v (mc ms : Nat) (P : Nat → Nat → Nat → Nat → Int64 → Nat → qMM → Prop) (Q : Nat → Nat → Nat → Nat → Int64 → Nat → qMM → qMM → Prop) : qCS := (6, fun av μ => ∃ (x1 : Nat) (x2 : Nat) (x3 : Nat) (x4 : Nat) (x5 : Int64) (x6 : Nat), av = [.ref x1, .ref x2, .ref x3, .ref x4, .long x5, .ref x6] ∧ P x1 x2 x3 x4 x5 x6 μ, fun av μ v μ' => ∀ (x1 : Nat) (x2 : Nat) (x3 : Nat) (x4 : Nat) (x5 : Int64) (x6 : Nat), av = [.ref x1, .ref x2, .ref x3, .ref x4, .long x5, .ref x6] → v = none ∧ Q x1 x2 x3 x4 x5 x6 μ μ', mc, ms)
theorem sg_saaaaja_v_call {mc ms : Nat} {P : Nat → Nat → Nat → Nat → Int64 → Nat → qMM → Prop} {Q : Nat → Nat → Nat → Nat → Int64 → Nat → qMM → qMM → Prop} {x1 : Nat} {x2 : Nat} {x3 : Nat} {x4 : Nat} {x5 : Int64} {x6 : Nat} {st : List Value} {μ : qMM} {c0 s0 rc rs : Nat} {k : List Value → qMM → Nat × Nat → Prop} : qCal (sg_saaaaja_v mc ms P Q) (.ref x6 :: .long x5 :: .ref x4 :: .ref x3 :: .ref x2 :: .ref x1 :: st) μ (c0, s0) rc rs k = (st.length ≤ 4 ∧ c0 + mc ≤ rc ∧ s0 + ms ≤ rs ∧ P x1 x2 x3 x4 x5 x6 μ ∧ ∀ μ', Q x1 x2 x3 x4 x5 x6 μ μ' → k st μ' (c0 + mc, s0 + ms)) := by
  apply propext
  constructor
  · rintro ⟨-, h2, h3, h4, h5, h6⟩
    obtain ⟨y0, y1, y2, y3, y4, y5, e, hp⟩ := h5
    cases e
    exact ⟨h2, h3, h4, hp, fun μ' hq => h6 none μ' (fun _ _ _ _ _ _ e => by cases e; exact ⟨rfl, hq⟩)⟩
  · rintro ⟨h2, h3, h4, hp, h6⟩
    refine ⟨by simp [sg_saaaaja_v], h2, h3, h4, ⟨x1, x2, x3, x4, x5, x6, rfl, hp⟩, fun v μ' hq => ?_⟩
    obtain ⟨rfl, hq2⟩ := hq x1 x2 x3 x4 x5 x6 rfl
    exact h6 _ hq2
theorem sg_saaaaja_v_R {mc ms : Nat} {P : Nat → Nat → Nat → Nat → Int64 → Nat → qMM → Prop} {Q : Nat → Nat → Nat → Nat → Int64 → Nat → qMM → qMM → Prop} {x1 : Nat} {x2 : Nat} {x3 : Nat} {x4 : Nat} {x5 : Int64} {x6 : Nat} {μ : qMM} : (fun v μ' (cs : Nat × Nat) => (sg_saaaaja_v mc ms P Q).2.2.1 [.ref x1, .ref x2, .ref x3, .ref x4, .long x5, .ref x6] μ v μ' ∧ cs.1 ≤ mc ∧ cs.2 ≤ ms) = rtv mc ms (Q x1 x2 x3 x4 x5 x6 μ) := by
  funext v μ' cs
  apply propext
  refine and_congr_left fun _ => ⟨fun h => ?_, fun h => ?_⟩
  · exact h x1 x2 x3 x4 x5 x6 rfl
  · intro _ _ _ _ _ _ e
    cases e
    exact h
def sg_saaaajaaaaai_i (mc ms : Nat) (P : Nat → Nat → Nat → Nat → Int64 → Nat → Nat → Nat → Nat → Nat → Int32 → qMM → Prop) (Q : Nat → Nat → Nat → Nat → Int64 → Nat → Nat → Nat → Nat → Nat → Int32 → qMM → Int32 → qMM → Prop) : qCS := (11, fun av μ => ∃ (x1 : Nat) (x2 : Nat) (x3 : Nat) (x4 : Nat) (x5 : Int64) (x6 : Nat) (x7 : Nat) (x8 : Nat) (x9 : Nat) (x10 : Nat) (x11 : Int32), av = [.ref x1, .ref x2, .ref x3, .ref x4, .long x5, .ref x6, .ref x7, .ref x8, .ref x9, .ref x10, .int x11] ∧ P x1 x2 x3 x4 x5 x6 x7 x8 x9 x10 x11 μ, fun av μ v μ' => ∀ (x1 : Nat) (x2 : Nat) (x3 : Nat) (x4 : Nat) (x5 : Int64) (x6 : Nat) (x7 : Nat) (x8 : Nat) (x9 : Nat) (x10 : Nat) (x11 : Int32), av = [.ref x1, .ref x2, .ref x3, .ref x4, .long x5, .ref x6, .ref x7, .ref x8, .ref x9, .ref x10, .int x11] → ∃ r : Int32, v = some (.int r) ∧ Q x1 x2 x3 x4 x5 x6 x7 x8 x9 x10 x11 μ r μ', mc, ms)
theorem sg_saaaajaaaaai_i_call {mc ms : Nat} {P : Nat → Nat → Nat → Nat → Int64 → Nat → Nat → Nat → Nat → Nat → Int32 → qMM → Prop} {Q : Nat → Nat → Nat → Nat → Int64 → Nat → Nat → Nat → Nat → Nat → Int32 → qMM → Int32 → qMM → Prop} {x1 : Nat} {x2 : Nat} {x3 : Nat} {x4 : Nat} {x5 : Int64} {x6 : Nat} {x7 : Nat} {x8 : Nat} {x9 : Nat} {x10 : Nat} {x11 : Int32} {st : List Value} {μ : qMM} {c0 s0 rc rs : Nat} {k : List Value → qMM → Nat × Nat → Prop} : qCal (sg_saaaajaaaaai_i mc ms P Q) (.int x11 :: .ref x10 :: .ref x9 :: .ref x8 :: .ref x7 :: .ref x6 :: .long x5 :: .ref x4 :: .ref x3 :: .ref x2 :: .ref x1 :: st) μ (c0, s0) rc rs k = (st.length ≤ 4 ∧ c0 + mc ≤ rc ∧ s0 + ms ≤ rs ∧ P x1 x2 x3 x4 x5 x6 x7 x8 x9 x10 x11 μ ∧ ∀ (r : Int32) (μ' : qMM), Q x1 x2 x3 x4 x5 x6 x7 x8 x9 x10 x11 μ r μ' → k (.int r :: st) μ' (c0 + mc, s0 + ms)) := by
  apply propext
  constructor
  · rintro ⟨-, h2, h3, h4, h5, h6⟩
    obtain ⟨y0, y1, y2, y3, y4, y5, y6, y7, y8, y9, y10, e, hp⟩ := h5
    cases e
    exact ⟨h2, h3, h4, hp, fun r μ' hq => h6 (some (.int r)) μ' (fun _ _ _ _ _ _ _ _ _ _ _ e => by cases e; exact ⟨r, rfl, hq⟩)⟩
  · rintro ⟨h2, h3, h4, hp, h6⟩
    refine ⟨by simp [sg_saaaajaaaaai_i], h2, h3, h4, ⟨x1, x2, x3, x4, x5, x6, x7, x8, x9, x10, x11, rfl, hp⟩, fun v μ' hq => ?_⟩
    obtain ⟨r, rfl, hq2⟩ := hq x1 x2 x3 x4 x5 x6 x7 x8 x9 x10 x11 rfl
    exact h6 _ _ hq2
theorem sg_saaaajaaaaai_i_R {mc ms : Nat} {P : Nat → Nat → Nat → Nat → Int64 → Nat → Nat → Nat → Nat → Nat → Int32 → qMM → Prop} {Q : Nat → Nat → Nat → Nat → Int64 → Nat → Nat → Nat → Nat → Nat → Int32 → qMM → Int32 → qMM → Prop} {x1 : Nat} {x2 : Nat} {x3 : Nat} {x4 : Nat} {x5 : Int64} {x6 : Nat} {x7 : Nat} {x8 : Nat} {x9 : Nat} {x10 : Nat} {x11 : Int32} {μ : qMM} : (fun v μ' (cs : Nat × Nat) => (sg_saaaajaaaaai_i mc ms P Q).2.2.1 [.ref x1, .ref x2, .ref x3, .ref x4, .long x5, .ref x6, .ref x7, .ref x8, .ref x9, .ref x10, .int x11] μ v μ' ∧ cs.1 ≤ mc ∧ cs.2 ≤ ms) = rti mc ms (Q x1 x2 x3 x4 x5 x6 x7 x8 x9 x10 x11 μ) := by
  funext v μ' cs
  apply propext
  refine and_congr_left fun _ => ⟨fun h => ?_, fun h => ?_⟩
  · exact h x1 x2 x3 x4 x5 x6 x7 x8 x9 x10 x11 rfl
  · intro _ _ _ _ _ _ _ _ _ _ _ e
    cases e
    exact h
def sg_saaaajii_i (mc ms : Nat) (P : Nat → Nat → Nat → Nat → Int64 → Int32 → Int32 → qMM → Prop) (Q : Nat → Nat → Nat → Nat → Int64 → Int32 → Int32 → qMM → Int32 → qMM → Prop) : qCS := (7, fun av μ => ∃ (x1 : Nat) (x2 : Nat) (x3 : Nat) (x4 : Nat) (x5 : Int64) (x6 : Int32) (x7 : Int32), av = [.ref x1, .ref x2, .ref x3, .ref x4, .long x5, .int x6, .int x7] ∧ P x1 x2 x3 x4 x5 x6 x7 μ, fun av μ v μ' => ∀ (x1 : Nat) (x2 : Nat) (x3 : Nat) (x4 : Nat) (x5 : Int64) (x6 : Int32) (x7 : Int32), av = [.ref x1, .ref x2, .ref x3, .ref x4, .long x5, .int x6, .int x7] → ∃ r : Int32, v = some (.int r) ∧ Q x1 x2 x3 x4 x5 x6 x7 μ r μ', mc, ms)
theorem sg_saaaajii_i_call {mc ms : Nat} {P : Nat → Nat → Nat → Nat → Int64 → Int32 → Int32 → qMM → Prop} {Q : Nat → Nat → Nat → Nat → Int64 → Int32 → Int32 → qMM → Int32 → qMM → Prop} {x1 : Nat} {x2 : Nat} {x3 : Nat} {x4 : Nat} {x5 : Int64} {x6 : Int32} {x7 : Int32} {st : List Value} {μ : qMM} {c0 s0 rc rs : Nat} {k : List Value → qMM → Nat × Nat → Prop} : qCal (sg_saaaajii_i mc ms P Q) (.int x7 :: .int x6 :: .long x5 :: .ref x4 :: .ref x3 :: .ref x2 :: .ref x1 :: st) μ (c0, s0) rc rs k = (st.length ≤ 4 ∧ c0 + mc ≤ rc ∧ s0 + ms ≤ rs ∧ P x1 x2 x3 x4 x5 x6 x7 μ ∧ ∀ (r : Int32) (μ' : qMM), Q x1 x2 x3 x4 x5 x6 x7 μ r μ' → k (.int r :: st) μ' (c0 + mc, s0 + ms)) := by
  apply propext
  constructor
  · rintro ⟨-, h2, h3, h4, h5, h6⟩
    obtain ⟨y0, y1, y2, y3, y4, y5, y6, e, hp⟩ := h5
    cases e
    exact ⟨h2, h3, h4, hp, fun r μ' hq => h6 (some (.int r)) μ' (fun _ _ _ _ _ _ _ e => by cases e; exact ⟨r, rfl, hq⟩)⟩
  · rintro ⟨h2, h3, h4, hp, h6⟩
    refine ⟨by simp [sg_saaaajii_i], h2, h3, h4, ⟨x1, x2, x3, x4, x5, x6, x7, rfl, hp⟩, fun v μ' hq => ?_⟩
    obtain ⟨r, rfl, hq2⟩ := hq x1 x2 x3 x4 x5 x6 x7 rfl
    exact h6 _ _ hq2
theorem sg_saaaajii_i_R {mc ms : Nat} {P : Nat → Nat → Nat → Nat → Int64 → Int32 → Int32 → qMM → Prop} {Q : Nat → Nat → Nat → Nat → Int64 → Int32 → Int32 → qMM → Int32 → qMM → Prop} {x1 : Nat} {x2 : Nat} {x3 : Nat} {x4 : Nat} {x5 : Int64} {x6 : Int32} {x7 : Int32} {μ : qMM} : (fun v μ' (cs : Nat × Nat) => (sg_saaaajii_i mc ms P Q).2.2.1 [.ref x1, .ref x2, .ref x3, .ref x4, .long x5, .int x6, .int x7] μ v μ' ∧ cs.1 ≤ mc ∧ cs.2 ≤ ms) = rti mc ms (Q x1 x2 x3 x4 x5 x6 x7 μ) := by
  funext v μ' cs
  apply propext
  refine and_congr_left fun _ => ⟨fun h => ?_, fun h => ?_⟩
  · exact h x1 x2 x3 x4 x5 x6 x7 rfl
  · intro _ _ _ _ _ _ _ e
    cases e
    exact h
def sg_saai_i (mc ms : Nat) (P : Nat → Nat → Int32 → qMM → Prop) (Q : Nat → Nat → Int32 → qMM → Int32 → qMM → Prop) : qCS := (3, fun av μ => ∃ (x1 : Nat) (x2 : Nat) (x3 : Int32), av = [.ref x1, .ref x2, .int x3] ∧ P x1 x2 x3 μ, fun av μ v μ' => ∀ (x1 : Nat) (x2 : Nat) (x3 : Int32), av = [.ref x1, .ref x2, .int x3] → ∃ r : Int32, v = some (.int r) ∧ Q x1 x2 x3 μ r μ', mc, ms)
theorem sg_saai_i_call {mc ms : Nat} {P : Nat → Nat → Int32 → qMM → Prop} {Q : Nat → Nat → Int32 → qMM → Int32 → qMM → Prop} {x1 : Nat} {x2 : Nat} {x3 : Int32} {st : List Value} {μ : qMM} {c0 s0 rc rs : Nat} {k : List Value → qMM → Nat × Nat → Prop} : qCal (sg_saai_i mc ms P Q) (.int x3 :: .ref x2 :: .ref x1 :: st) μ (c0, s0) rc rs k = (st.length ≤ 4 ∧ c0 + mc ≤ rc ∧ s0 + ms ≤ rs ∧ P x1 x2 x3 μ ∧ ∀ (r : Int32) (μ' : qMM), Q x1 x2 x3 μ r μ' → k (.int r :: st) μ' (c0 + mc, s0 + ms)) := by
  apply propext
  constructor
  · rintro ⟨-, h2, h3, h4, h5, h6⟩
    obtain ⟨y0, y1, y2, e, hp⟩ := h5
    cases e
    exact ⟨h2, h3, h4, hp, fun r μ' hq => h6 (some (.int r)) μ' (fun _ _ _ e => by cases e; exact ⟨r, rfl, hq⟩)⟩
  · rintro ⟨h2, h3, h4, hp, h6⟩
    refine ⟨by simp [sg_saai_i], h2, h3, h4, ⟨x1, x2, x3, rfl, hp⟩, fun v μ' hq => ?_⟩
    obtain ⟨r, rfl, hq2⟩ := hq x1 x2 x3 rfl
    exact h6 _ _ hq2
theorem sg_saai_i_R {mc ms : Nat} {P : Nat → Nat → Int32 → qMM → Prop} {Q : Nat → Nat → Int32 → qMM → Int32 → qMM → Prop} {x1 : Nat} {x2 : Nat} {x3 : Int32} {μ : qMM} : (fun v μ' (cs : Nat × Nat) => (sg_saai_i mc ms P Q).2.2.1 [.ref x1, .ref x2, .int x3] μ v μ' ∧ cs.1 ≤ mc ∧ cs.2 ≤ ms) = rti mc ms (Q x1 x2 x3 μ) := by
  funext v μ' cs
  apply propext
  refine and_congr_left fun _ => ⟨fun h => ?_, fun h => ?_⟩
  · exact h x1 x2 x3 rfl
  · intro _ _ _ e
    cases e
    exact h
def sg_saaiii_j (mc ms : Nat) (P : Nat → Nat → Int32 → Int32 → Int32 → qMM → Prop) (Q : Nat → Nat → Int32 → Int32 → Int32 → qMM → Int64 → qMM → Prop) : qCS := (5, fun av μ => ∃ (x1 : Nat) (x2 : Nat) (x3 : Int32) (x4 : Int32) (x5 : Int32), av = [.ref x1, .ref x2, .int x3, .int x4, .int x5] ∧ P x1 x2 x3 x4 x5 μ, fun av μ v μ' => ∀ (x1 : Nat) (x2 : Nat) (x3 : Int32) (x4 : Int32) (x5 : Int32), av = [.ref x1, .ref x2, .int x3, .int x4, .int x5] → ∃ r : Int64, v = some (.long r) ∧ Q x1 x2 x3 x4 x5 μ r μ', mc, ms)
theorem sg_saaiii_j_call {mc ms : Nat} {P : Nat → Nat → Int32 → Int32 → Int32 → qMM → Prop} {Q : Nat → Nat → Int32 → Int32 → Int32 → qMM → Int64 → qMM → Prop} {x1 : Nat} {x2 : Nat} {x3 : Int32} {x4 : Int32} {x5 : Int32} {st : List Value} {μ : qMM} {c0 s0 rc rs : Nat} {k : List Value → qMM → Nat × Nat → Prop} : qCal (sg_saaiii_j mc ms P Q) (.int x5 :: .int x4 :: .int x3 :: .ref x2 :: .ref x1 :: st) μ (c0, s0) rc rs k = (st.length ≤ 4 ∧ c0 + mc ≤ rc ∧ s0 + ms ≤ rs ∧ P x1 x2 x3 x4 x5 μ ∧ ∀ (r : Int64) (μ' : qMM), Q x1 x2 x3 x4 x5 μ r μ' → k (.long r :: st) μ' (c0 + mc, s0 + ms)) := by
  apply propext
  constructor
  · rintro ⟨-, h2, h3, h4, h5, h6⟩
    obtain ⟨y0, y1, y2, y3, y4, e, hp⟩ := h5
    cases e
    exact ⟨h2, h3, h4, hp, fun r μ' hq => h6 (some (.long r)) μ' (fun _ _ _ _ _ e => by cases e; exact ⟨r, rfl, hq⟩)⟩
  · rintro ⟨h2, h3, h4, hp, h6⟩
    refine ⟨by simp [sg_saaiii_j], h2, h3, h4, ⟨x1, x2, x3, x4, x5, rfl, hp⟩, fun v μ' hq => ?_⟩
    obtain ⟨r, rfl, hq2⟩ := hq x1 x2 x3 x4 x5 rfl
    exact h6 _ _ hq2
theorem sg_saaiii_j_R {mc ms : Nat} {P : Nat → Nat → Int32 → Int32 → Int32 → qMM → Prop} {Q : Nat → Nat → Int32 → Int32 → Int32 → qMM → Int64 → qMM → Prop} {x1 : Nat} {x2 : Nat} {x3 : Int32} {x4 : Int32} {x5 : Int32} {μ : qMM} : (fun v μ' (cs : Nat × Nat) => (sg_saaiii_j mc ms P Q).2.2.1 [.ref x1, .ref x2, .int x3, .int x4, .int x5] μ v μ' ∧ cs.1 ≤ mc ∧ cs.2 ≤ ms) = rtj mc ms (Q x1 x2 x3 x4 x5 μ) := by
  funext v μ' cs
  apply propext
  refine and_congr_left fun _ => ⟨fun h => ?_, fun h => ?_⟩
  · exact h x1 x2 x3 x4 x5 rfl
  · intro _ _ _ _ _ e
    cases e
    exact h
def sg_sai_i (mc ms : Nat) (P : Nat → Int32 → qMM → Prop) (Q : Nat → Int32 → qMM → Int32 → qMM → Prop) : qCS := (2, fun av μ => ∃ (x1 : Nat) (x2 : Int32), av = [.ref x1, .int x2] ∧ P x1 x2 μ, fun av μ v μ' => ∀ (x1 : Nat) (x2 : Int32), av = [.ref x1, .int x2] → ∃ r : Int32, v = some (.int r) ∧ Q x1 x2 μ r μ', mc, ms)
theorem sg_sai_i_call {mc ms : Nat} {P : Nat → Int32 → qMM → Prop} {Q : Nat → Int32 → qMM → Int32 → qMM → Prop} {x1 : Nat} {x2 : Int32} {st : List Value} {μ : qMM} {c0 s0 rc rs : Nat} {k : List Value → qMM → Nat × Nat → Prop} : qCal (sg_sai_i mc ms P Q) (.int x2 :: .ref x1 :: st) μ (c0, s0) rc rs k = (st.length ≤ 4 ∧ c0 + mc ≤ rc ∧ s0 + ms ≤ rs ∧ P x1 x2 μ ∧ ∀ (r : Int32) (μ' : qMM), Q x1 x2 μ r μ' → k (.int r :: st) μ' (c0 + mc, s0 + ms)) := by
  apply propext
  constructor
  · rintro ⟨-, h2, h3, h4, h5, h6⟩
    obtain ⟨y0, y1, e, hp⟩ := h5
    cases e
    exact ⟨h2, h3, h4, hp, fun r μ' hq => h6 (some (.int r)) μ' (fun _ _ e => by cases e; exact ⟨r, rfl, hq⟩)⟩
  · rintro ⟨h2, h3, h4, hp, h6⟩
    refine ⟨by simp [sg_sai_i], h2, h3, h4, ⟨x1, x2, rfl, hp⟩, fun v μ' hq => ?_⟩
    obtain ⟨r, rfl, hq2⟩ := hq x1 x2 rfl
    exact h6 _ _ hq2
theorem sg_sai_i_R {mc ms : Nat} {P : Nat → Int32 → qMM → Prop} {Q : Nat → Int32 → qMM → Int32 → qMM → Prop} {x1 : Nat} {x2 : Int32} {μ : qMM} : (fun v μ' (cs : Nat × Nat) => (sg_sai_i mc ms P Q).2.2.1 [.ref x1, .int x2] μ v μ' ∧ cs.1 ≤ mc ∧ cs.2 ≤ ms) = rti mc ms (Q x1 x2 μ) := by
  funext v μ' cs
  apply propext
  refine and_congr_left fun _ => ⟨fun h => ?_, fun h => ?_⟩
  · exact h x1 x2 rfl
  · intro _ _ e
    cases e
    exact h
def sg_saii_i (mc ms : Nat) (P : Nat → Int32 → Int32 → qMM → Prop) (Q : Nat → Int32 → Int32 → qMM → Int32 → qMM → Prop) : qCS := (3, fun av μ => ∃ (x1 : Nat) (x2 : Int32) (x3 : Int32), av = [.ref x1, .int x2, .int x3] ∧ P x1 x2 x3 μ, fun av μ v μ' => ∀ (x1 : Nat) (x2 : Int32) (x3 : Int32), av = [.ref x1, .int x2, .int x3] → ∃ r : Int32, v = some (.int r) ∧ Q x1 x2 x3 μ r μ', mc, ms)
theorem sg_saii_i_call {mc ms : Nat} {P : Nat → Int32 → Int32 → qMM → Prop} {Q : Nat → Int32 → Int32 → qMM → Int32 → qMM → Prop} {x1 : Nat} {x2 : Int32} {x3 : Int32} {st : List Value} {μ : qMM} {c0 s0 rc rs : Nat} {k : List Value → qMM → Nat × Nat → Prop} : qCal (sg_saii_i mc ms P Q) (.int x3 :: .int x2 :: .ref x1 :: st) μ (c0, s0) rc rs k = (st.length ≤ 4 ∧ c0 + mc ≤ rc ∧ s0 + ms ≤ rs ∧ P x1 x2 x3 μ ∧ ∀ (r : Int32) (μ' : qMM), Q x1 x2 x3 μ r μ' → k (.int r :: st) μ' (c0 + mc, s0 + ms)) := by
  apply propext
  constructor
  · rintro ⟨-, h2, h3, h4, h5, h6⟩
    obtain ⟨y0, y1, y2, e, hp⟩ := h5
    cases e
    exact ⟨h2, h3, h4, hp, fun r μ' hq => h6 (some (.int r)) μ' (fun _ _ _ e => by cases e; exact ⟨r, rfl, hq⟩)⟩
  · rintro ⟨h2, h3, h4, hp, h6⟩
    refine ⟨by simp [sg_saii_i], h2, h3, h4, ⟨x1, x2, x3, rfl, hp⟩, fun v μ' hq => ?_⟩
    obtain ⟨r, rfl, hq2⟩ := hq x1 x2 x3 rfl
    exact h6 _ _ hq2
theorem sg_saii_i_R {mc ms : Nat} {P : Nat → Int32 → Int32 → qMM → Prop} {Q : Nat → Int32 → Int32 → qMM → Int32 → qMM → Prop} {x1 : Nat} {x2 : Int32} {x3 : Int32} {μ : qMM} : (fun v μ' (cs : Nat × Nat) => (sg_saii_i mc ms P Q).2.2.1 [.ref x1, .int x2, .int x3] μ v μ' ∧ cs.1 ≤ mc ∧ cs.2 ≤ ms) = rti mc ms (Q x1 x2 x3 μ) := by
  funext v μ' cs
  apply propext
  refine and_congr_left fun _ => ⟨fun h => ?_, fun h => ?_⟩
  · exact h x1 x2 x3 rfl
  · intro _ _ _ e
    cases e
    exact h
def sg_saiii_i (mc ms : Nat) (P : Nat → Int32 → Int32 → Int32 → qMM → Prop) (Q : Nat → Int32 → Int32 → Int32 → qMM → Int32 → qMM → Prop) : qCS := (4, fun av μ => ∃ (x1 : Nat) (x2 : Int32) (x3 : Int32) (x4 : Int32), av = [.ref x1, .int x2, .int x3, .int x4] ∧ P x1 x2 x3 x4 μ, fun av μ v μ' => ∀ (x1 : Nat) (x2 : Int32) (x3 : Int32) (x4 : Int32), av = [.ref x1, .int x2, .int x3, .int x4] → ∃ r : Int32, v = some (.int r) ∧ Q x1 x2 x3 x4 μ r μ', mc, ms)
theorem sg_saiii_i_call {mc ms : Nat} {P : Nat → Int32 → Int32 → Int32 → qMM → Prop} {Q : Nat → Int32 → Int32 → Int32 → qMM → Int32 → qMM → Prop} {x1 : Nat} {x2 : Int32} {x3 : Int32} {x4 : Int32} {st : List Value} {μ : qMM} {c0 s0 rc rs : Nat} {k : List Value → qMM → Nat × Nat → Prop} : qCal (sg_saiii_i mc ms P Q) (.int x4 :: .int x3 :: .int x2 :: .ref x1 :: st) μ (c0, s0) rc rs k = (st.length ≤ 4 ∧ c0 + mc ≤ rc ∧ s0 + ms ≤ rs ∧ P x1 x2 x3 x4 μ ∧ ∀ (r : Int32) (μ' : qMM), Q x1 x2 x3 x4 μ r μ' → k (.int r :: st) μ' (c0 + mc, s0 + ms)) := by
  apply propext
  constructor
  · rintro ⟨-, h2, h3, h4, h5, h6⟩
    obtain ⟨y0, y1, y2, y3, e, hp⟩ := h5
    cases e
    exact ⟨h2, h3, h4, hp, fun r μ' hq => h6 (some (.int r)) μ' (fun _ _ _ _ e => by cases e; exact ⟨r, rfl, hq⟩)⟩
  · rintro ⟨h2, h3, h4, hp, h6⟩
    refine ⟨by simp [sg_saiii_i], h2, h3, h4, ⟨x1, x2, x3, x4, rfl, hp⟩, fun v μ' hq => ?_⟩
    obtain ⟨r, rfl, hq2⟩ := hq x1 x2 x3 x4 rfl
    exact h6 _ _ hq2
theorem sg_saiii_i_R {mc ms : Nat} {P : Nat → Int32 → Int32 → Int32 → qMM → Prop} {Q : Nat → Int32 → Int32 → Int32 → qMM → Int32 → qMM → Prop} {x1 : Nat} {x2 : Int32} {x3 : Int32} {x4 : Int32} {μ : qMM} : (fun v μ' (cs : Nat × Nat) => (sg_saiii_i mc ms P Q).2.2.1 [.ref x1, .int x2, .int x3, .int x4] μ v μ' ∧ cs.1 ≤ mc ∧ cs.2 ≤ ms) = rti mc ms (Q x1 x2 x3 x4 μ) := by
  funext v μ' cs
  apply propext
  refine and_congr_left fun _ => ⟨fun h => ?_, fun h => ?_⟩
  · exact h x1 x2 x3 x4 rfl
  · intro _ _ _ _ e
    cases e
    exact h
def sg_siiii_j (mc ms : Nat) (P : Int32 → Int32 → Int32 → Int32 → qMM → Prop) (Q : Int32 → Int32 → Int32 → Int32 → qMM → Int64 → qMM → Prop) : qCS := (4, fun av μ => ∃ (x1 : Int32) (x2 : Int32) (x3 : Int32) (x4 : Int32), av = [.int x1, .int x2, .int x3, .int x4] ∧ P x1 x2 x3 x4 μ, fun av μ v μ' => ∀ (x1 : Int32) (x2 : Int32) (x3 : Int32) (x4 : Int32), av = [.int x1, .int x2, .int x3, .int x4] → ∃ r : Int64, v = some (.long r) ∧ Q x1 x2 x3 x4 μ r μ', mc, ms)
theorem sg_siiii_j_call {mc ms : Nat} {P : Int32 → Int32 → Int32 → Int32 → qMM → Prop} {Q : Int32 → Int32 → Int32 → Int32 → qMM → Int64 → qMM → Prop} {x1 : Int32} {x2 : Int32} {x3 : Int32} {x4 : Int32} {st : List Value} {μ : qMM} {c0 s0 rc rs : Nat} {k : List Value → qMM → Nat × Nat → Prop} : qCal (sg_siiii_j mc ms P Q) (.int x4 :: .int x3 :: .int x2 :: .int x1 :: st) μ (c0, s0) rc rs k = (st.length ≤ 4 ∧ c0 + mc ≤ rc ∧ s0 + ms ≤ rs ∧ P x1 x2 x3 x4 μ ∧ ∀ (r : Int64) (μ' : qMM), Q x1 x2 x3 x4 μ r μ' → k (.long r :: st) μ' (c0 + mc, s0 + ms)) := by
  apply propext
  constructor
  · rintro ⟨-, h2, h3, h4, h5, h6⟩
    obtain ⟨y0, y1, y2, y3, e, hp⟩ := h5
    cases e
    exact ⟨h2, h3, h4, hp, fun r μ' hq => h6 (some (.long r)) μ' (fun _ _ _ _ e => by cases e; exact ⟨r, rfl, hq⟩)⟩
  · rintro ⟨h2, h3, h4, hp, h6⟩
    refine ⟨by simp [sg_siiii_j], h2, h3, h4, ⟨x1, x2, x3, x4, rfl, hp⟩, fun v μ' hq => ?_⟩
    obtain ⟨r, rfl, hq2⟩ := hq x1 x2 x3 x4 rfl
    exact h6 _ _ hq2
theorem sg_siiii_j_R {mc ms : Nat} {P : Int32 → Int32 → Int32 → Int32 → qMM → Prop} {Q : Int32 → Int32 → Int32 → Int32 → qMM → Int64 → qMM → Prop} {x1 : Int32} {x2 : Int32} {x3 : Int32} {x4 : Int32} {μ : qMM} : (fun v μ' (cs : Nat × Nat) => (sg_siiii_j mc ms P Q).2.2.1 [.int x1, .int x2, .int x3, .int x4] μ v μ' ∧ cs.1 ≤ mc ∧ cs.2 ≤ ms) = rtj mc ms (Q x1 x2 x3 x4 μ) := by
  funext v μ' cs
  apply propext
  refine and_congr_left fun _ => ⟨fun h => ?_, fun h => ?_⟩
  · exact h x1 x2 x3 x4 rfl
  · intro _ _ _ _ e
    cases e
    exact h
def sg_sji_i (mc ms : Nat) (P : Int64 → Int32 → qMM → Prop) (Q : Int64 → Int32 → qMM → Int32 → qMM → Prop) : qCS := (2, fun av μ => ∃ (x1 : Int64) (x2 : Int32), av = [.long x1, .int x2] ∧ P x1 x2 μ, fun av μ v μ' => ∀ (x1 : Int64) (x2 : Int32), av = [.long x1, .int x2] → ∃ r : Int32, v = some (.int r) ∧ Q x1 x2 μ r μ', mc, ms)
theorem sg_sji_i_call {mc ms : Nat} {P : Int64 → Int32 → qMM → Prop} {Q : Int64 → Int32 → qMM → Int32 → qMM → Prop} {x1 : Int64} {x2 : Int32} {st : List Value} {μ : qMM} {c0 s0 rc rs : Nat} {k : List Value → qMM → Nat × Nat → Prop} : qCal (sg_sji_i mc ms P Q) (.int x2 :: .long x1 :: st) μ (c0, s0) rc rs k = (st.length ≤ 4 ∧ c0 + mc ≤ rc ∧ s0 + ms ≤ rs ∧ P x1 x2 μ ∧ ∀ (r : Int32) (μ' : qMM), Q x1 x2 μ r μ' → k (.int r :: st) μ' (c0 + mc, s0 + ms)) := by
  apply propext
  constructor
  · rintro ⟨-, h2, h3, h4, h5, h6⟩
    obtain ⟨y0, y1, e, hp⟩ := h5
    cases e
    exact ⟨h2, h3, h4, hp, fun r μ' hq => h6 (some (.int r)) μ' (fun _ _ e => by cases e; exact ⟨r, rfl, hq⟩)⟩
  · rintro ⟨h2, h3, h4, hp, h6⟩
    refine ⟨by simp [sg_sji_i], h2, h3, h4, ⟨x1, x2, rfl, hp⟩, fun v μ' hq => ?_⟩
    obtain ⟨r, rfl, hq2⟩ := hq x1 x2 rfl
    exact h6 _ _ hq2
theorem sg_sji_i_R {mc ms : Nat} {P : Int64 → Int32 → qMM → Prop} {Q : Int64 → Int32 → qMM → Int32 → qMM → Prop} {x1 : Int64} {x2 : Int32} {μ : qMM} : (fun v μ' (cs : Nat × Nat) => (sg_sji_i mc ms P Q).2.2.1 [.long x1, .int x2] μ v μ' ∧ cs.1 ≤ mc ∧ cs.2 ≤ ms) = rti mc ms (Q x1 x2 μ) := by
  funext v μ' cs
  apply propext
  refine and_congr_left fun _ => ⟨fun h => ?_, fun h => ?_⟩
  · exact h x1 x2 rfl
  · intro _ _ e
    cases e
    exact h
def sg_sjii_j (mc ms : Nat) (P : Int64 → Int32 → Int32 → qMM → Prop) (Q : Int64 → Int32 → Int32 → qMM → Int64 → qMM → Prop) : qCS := (3, fun av μ => ∃ (x1 : Int64) (x2 : Int32) (x3 : Int32), av = [.long x1, .int x2, .int x3] ∧ P x1 x2 x3 μ, fun av μ v μ' => ∀ (x1 : Int64) (x2 : Int32) (x3 : Int32), av = [.long x1, .int x2, .int x3] → ∃ r : Int64, v = some (.long r) ∧ Q x1 x2 x3 μ r μ', mc, ms)
theorem sg_sjii_j_call {mc ms : Nat} {P : Int64 → Int32 → Int32 → qMM → Prop} {Q : Int64 → Int32 → Int32 → qMM → Int64 → qMM → Prop} {x1 : Int64} {x2 : Int32} {x3 : Int32} {st : List Value} {μ : qMM} {c0 s0 rc rs : Nat} {k : List Value → qMM → Nat × Nat → Prop} : qCal (sg_sjii_j mc ms P Q) (.int x3 :: .int x2 :: .long x1 :: st) μ (c0, s0) rc rs k = (st.length ≤ 4 ∧ c0 + mc ≤ rc ∧ s0 + ms ≤ rs ∧ P x1 x2 x3 μ ∧ ∀ (r : Int64) (μ' : qMM), Q x1 x2 x3 μ r μ' → k (.long r :: st) μ' (c0 + mc, s0 + ms)) := by
  apply propext
  constructor
  · rintro ⟨-, h2, h3, h4, h5, h6⟩
    obtain ⟨y0, y1, y2, e, hp⟩ := h5
    cases e
    exact ⟨h2, h3, h4, hp, fun r μ' hq => h6 (some (.long r)) μ' (fun _ _ _ e => by cases e; exact ⟨r, rfl, hq⟩)⟩
  · rintro ⟨h2, h3, h4, hp, h6⟩
    refine ⟨by simp [sg_sjii_j], h2, h3, h4, ⟨x1, x2, x3, rfl, hp⟩, fun v μ' hq => ?_⟩
    obtain ⟨r, rfl, hq2⟩ := hq x1 x2 x3 rfl
    exact h6 _ _ hq2
theorem sg_sjii_j_R {mc ms : Nat} {P : Int64 → Int32 → Int32 → qMM → Prop} {Q : Int64 → Int32 → Int32 → qMM → Int64 → qMM → Prop} {x1 : Int64} {x2 : Int32} {x3 : Int32} {μ : qMM} : (fun v μ' (cs : Nat × Nat) => (sg_sjii_j mc ms P Q).2.2.1 [.long x1, .int x2, .int x3] μ v μ' ∧ cs.1 ≤ mc ∧ cs.2 ≤ ms) = rtj mc ms (Q x1 x2 x3 μ) := by
  funext v μ' cs
  apply propext
  refine and_congr_left fun _ => ⟨fun h => ?_, fun h => ?_⟩
  · exact h x1 x2 x3 rfl
  · intro _ _ _ e
    cases e
    exact h
def sg_sjj_i (mc ms : Nat) (P : Int64 → Int64 → qMM → Prop) (Q : Int64 → Int64 → qMM → Int32 → qMM → Prop) : qCS := (2, fun av μ => ∃ (x1 : Int64) (x2 : Int64), av = [.long x1, .long x2] ∧ P x1 x2 μ, fun av μ v μ' => ∀ (x1 : Int64) (x2 : Int64), av = [.long x1, .long x2] → ∃ r : Int32, v = some (.int r) ∧ Q x1 x2 μ r μ', mc, ms)
theorem sg_sjj_i_call {mc ms : Nat} {P : Int64 → Int64 → qMM → Prop} {Q : Int64 → Int64 → qMM → Int32 → qMM → Prop} {x1 : Int64} {x2 : Int64} {st : List Value} {μ : qMM} {c0 s0 rc rs : Nat} {k : List Value → qMM → Nat × Nat → Prop} : qCal (sg_sjj_i mc ms P Q) (.long x2 :: .long x1 :: st) μ (c0, s0) rc rs k = (st.length ≤ 4 ∧ c0 + mc ≤ rc ∧ s0 + ms ≤ rs ∧ P x1 x2 μ ∧ ∀ (r : Int32) (μ' : qMM), Q x1 x2 μ r μ' → k (.int r :: st) μ' (c0 + mc, s0 + ms)) := by
  apply propext
  constructor
  · rintro ⟨-, h2, h3, h4, h5, h6⟩
    obtain ⟨y0, y1, e, hp⟩ := h5
    cases e
    exact ⟨h2, h3, h4, hp, fun r μ' hq => h6 (some (.int r)) μ' (fun _ _ e => by cases e; exact ⟨r, rfl, hq⟩)⟩
  · rintro ⟨h2, h3, h4, hp, h6⟩
    refine ⟨by simp [sg_sjj_i], h2, h3, h4, ⟨x1, x2, rfl, hp⟩, fun v μ' hq => ?_⟩
    obtain ⟨r, rfl, hq2⟩ := hq x1 x2 rfl
    exact h6 _ _ hq2
theorem sg_sjj_i_R {mc ms : Nat} {P : Int64 → Int64 → qMM → Prop} {Q : Int64 → Int64 → qMM → Int32 → qMM → Prop} {x1 : Int64} {x2 : Int64} {μ : qMM} : (fun v μ' (cs : Nat × Nat) => (sg_sjj_i mc ms P Q).2.2.1 [.long x1, .long x2] μ v μ' ∧ cs.1 ≤ mc ∧ cs.2 ≤ ms) = rti mc ms (Q x1 x2 μ) := by
  funext v μ' cs
  apply propext
  refine and_congr_left fun _ => ⟨fun h => ?_, fun h => ?_⟩
  · exact h x1 x2 rfl
  · intro _ _ e
    cases e
    exact h
theorem qw9 : Cond.initialized RL ∈ qT := qT_in (List.mem_of_getElem? (i := 9) (by decide +kernel)) (by decide +kernel)
theorem qw28 : Cond.classLink RL 10 "HeaderSqueezer" ∈ qT := qT_in (List.mem_of_getElem? (i := 28) (by decide +kernel)) (by decide +kernel)
theorem qw29 : Cond.instantiable "HeaderSqueezer" 5 ∈ qT := qT_in (List.mem_of_getElem? (i := 29) (by decide +kernel)) (by decide +kernel)
theorem qw412 : Cond.constant RL 7 (40503) ∈ qT := qT_in (List.mem_of_getElem? (i := 412) (by decide +kernel)) (by decide +kernel)
theorem qw416 : Cond.constant RL 8 (2147483647) ∈ qT := qT_in (List.mem_of_getElem? (i := 416) (by decide +kernel)) (by decide +kernel)
theorem qw422 : Cond.methodLink RL 9 yX8_setField ∈ qT := qT_in (List.mem_of_getElem? (i := 422) (by decide +kernel)) (by decide +kernel)
theorem qw423 : Cond.instanceMethod yX8_setField ∈ qT := qT_in (List.mem_of_getElem? (i := 423) (by decide +kernel)) (by decide +kernel)
theorem qw424 : Cond.selects RX8 yX8_setField yX8_setField ∈ qT := qT_in (List.mem_of_getElem? (i := 424) (by decide +kernel)) (by decide +kernel)
theorem qw425 : Cond.code yX8_setField cX8_setField 4 (some .int) ∈ qT := qT_in (List.mem_of_getElem? (i := 425) (by decide +kernel)) (by decide +kernel)
theorem qw517 : Cond.constant RL 17 (-100001) ∈ qT := qT_in (List.mem_of_getElem? (i := 517) (by decide +kernel)) (by decide +kernel)
theorem qw518 : Cond.constant RL 20 (-100002) ∈ qT := qT_in (List.mem_of_getElem? (i := 518) (by decide +kernel)) (by decide +kernel)
theorem qw522 : Cond.methodLink RL 21 yX8_setStrides ∈ qT := qT_in (List.mem_of_getElem? (i := 522) (by decide +kernel)) (by decide +kernel)
theorem qw523 : Cond.instanceMethod yX8_setStrides ∈ qT := qT_in (List.mem_of_getElem? (i := 523) (by decide +kernel)) (by decide +kernel)
theorem qw524 : Cond.selects RX8 yX8_setStrides yX8_setStrides ∈ qT := qT_in (List.mem_of_getElem? (i := 524) (by decide +kernel)) (by decide +kernel)
theorem qw525 : Cond.code yX8_setStrides cX8_setStrides 4 (some .int) ∈ qT := qT_in (List.mem_of_getElem? (i := 525) (by decide +kernel)) (by decide +kernel)
theorem qw530 : Cond.methodLink RL 24 yX8_setPolicy ∈ qT := qT_in (List.mem_of_getElem? (i := 530) (by decide +kernel)) (by decide +kernel)
theorem qw531 : Cond.instanceMethod yX8_setPolicy ∈ qT := qT_in (List.mem_of_getElem? (i := 531) (by decide +kernel)) (by decide +kernel)
theorem qw532 : Cond.selects RX8 yX8_setPolicy yX8_setPolicy ∈ qT := qT_in (List.mem_of_getElem? (i := 532) (by decide +kernel)) (by decide +kernel)
theorem qw533 : Cond.code yX8_setPolicy cX8_setPolicy 4 (some .int) ∈ qT := qT_in (List.mem_of_getElem? (i := 533) (by decide +kernel)) (by decide +kernel)
theorem qw539 : Cond.methodLink RL 27 yX8_send ∈ qT := qT_in (List.mem_of_getElem? (i := 539) (by decide +kernel)) (by decide +kernel)
theorem qw540 : Cond.instanceMethod yX8_send ∈ qT := qT_in (List.mem_of_getElem? (i := 540) (by decide +kernel)) (by decide +kernel)
theorem qw541 : Cond.selects RX8 yX8_send yX8_send ∈ qT := qT_in (List.mem_of_getElem? (i := 541) (by decide +kernel)) (by decide +kernel)
theorem qw542 : Cond.code yX8_send cX8_send 1 (some .int) ∈ qT := qT_in (List.mem_of_getElem? (i := 542) (by decide +kernel)) (by decide +kernel)
theorem qw595 : Cond.constant RL 33 (-100003) ∈ qT := qT_in (List.mem_of_getElem? (i := 595) (by decide +kernel)) (by decide +kernel)
theorem qw599 : Cond.methodLink RL 34 yX8_stream ∈ qT := qT_in (List.mem_of_getElem? (i := 599) (by decide +kernel)) (by decide +kernel)
theorem qw600 : Cond.instanceMethod yX8_stream ∈ qT := qT_in (List.mem_of_getElem? (i := 600) (by decide +kernel)) (by decide +kernel)
theorem qw601 : Cond.selects RX8 yX8_stream yX8_stream ∈ qT := qT_in (List.mem_of_getElem? (i := 601) (by decide +kernel)) (by decide +kernel)
theorem qw602 : Cond.code yX8_stream cX8_stream 3 (some .int) ∈ qT := qT_in (List.mem_of_getElem? (i := 602) (by decide +kernel)) (by decide +kernel)
theorem qw608 : Cond.methodLink RL 41 yX8_sizeWith ∈ qT := qT_in (List.mem_of_getElem? (i := 608) (by decide +kernel)) (by decide +kernel)
theorem qw609 : Cond.instanceMethod yX8_sizeWith ∈ qT := qT_in (List.mem_of_getElem? (i := 609) (by decide +kernel)) (by decide +kernel)
theorem qw610 : Cond.selects RX8 yX8_sizeWith yX8_sizeWith ∈ qT := qT_in (List.mem_of_getElem? (i := 610) (by decide +kernel)) (by decide +kernel)
theorem qw611 : Cond.code yX8_sizeWith cX8_sizeWith 3 (some .int) ∈ qT := qT_in (List.mem_of_getElem? (i := 611) (by decide +kernel)) (by decide +kernel)
theorem qw617 : Cond.methodLink RL 47 yX8_deliver ∈ qT := qT_in (List.mem_of_getElem? (i := 617) (by decide +kernel)) (by decide +kernel)
theorem qw618 : Cond.instanceMethod yX8_deliver ∈ qT := qT_in (List.mem_of_getElem? (i := 618) (by decide +kernel)) (by decide +kernel)
theorem qw619 : Cond.selects RX8 yX8_deliver yX8_deliver ∈ qT := qT_in (List.mem_of_getElem? (i := 619) (by decide +kernel)) (by decide +kernel)
theorem qw620 : Cond.code yX8_deliver cX8_deliver 2 (some .int) ∈ qT := qT_in (List.mem_of_getElem? (i := 620) (by decide +kernel)) (by decide +kernel)
theorem qw630 : Cond.methodLink RL 50 yX8_lose ∈ qT := qT_in (List.mem_of_getElem? (i := 630) (by decide +kernel)) (by decide +kernel)
theorem qw631 : Cond.instanceMethod yX8_lose ∈ qT := qT_in (List.mem_of_getElem? (i := 631) (by decide +kernel)) (by decide +kernel)
theorem qw632 : Cond.selects RX8 yX8_lose yX8_lose ∈ qT := qT_in (List.mem_of_getElem? (i := 632) (by decide +kernel)) (by decide +kernel)
theorem qw633 : Cond.code yX8_lose cX8_lose 2 (some .int) ∈ qT := qT_in (List.mem_of_getElem? (i := 633) (by decide +kernel)) (by decide +kernel)
theorem qw638 : Cond.methodLink RL 53 yX8_copy ∈ qT := qT_in (List.mem_of_getElem? (i := 638) (by decide +kernel)) (by decide +kernel)
theorem qw639 : Cond.instanceMethod yX8_copy ∈ qT := qT_in (List.mem_of_getElem? (i := 639) (by decide +kernel)) (by decide +kernel)
theorem qw640 : Cond.selects RX8 yX8_copy yX8_copy ∈ qT := qT_in (List.mem_of_getElem? (i := 640) (by decide +kernel)) (by decide +kernel)
theorem qw641 : Cond.code yX8_copy cX8_copy 2 (some .int) ∈ qT := qT_in (List.mem_of_getElem? (i := 641) (by decide +kernel)) (by decide +kernel)
theorem qw648 : Cond.methodLink RL 56 yX8_deliverBack ∈ qT := qT_in (List.mem_of_getElem? (i := 648) (by decide +kernel)) (by decide +kernel)
theorem qw649 : Cond.instanceMethod yX8_deliverBack ∈ qT := qT_in (List.mem_of_getElem? (i := 649) (by decide +kernel)) (by decide +kernel)
theorem qw650 : Cond.selects RX8 yX8_deliverBack yX8_deliverBack ∈ qT := qT_in (List.mem_of_getElem? (i := 650) (by decide +kernel)) (by decide +kernel)
theorem qw651 : Cond.code yX8_deliverBack cX8_deliverBack 2 (some .int) ∈ qT := qT_in (List.mem_of_getElem? (i := 651) (by decide +kernel)) (by decide +kernel)
theorem qw665 : Cond.methodLink RL 59 yX8_loseBack ∈ qT := qT_in (List.mem_of_getElem? (i := 665) (by decide +kernel)) (by decide +kernel)
theorem qw666 : Cond.instanceMethod yX8_loseBack ∈ qT := qT_in (List.mem_of_getElem? (i := 666) (by decide +kernel)) (by decide +kernel)
theorem qw667 : Cond.selects RX8 yX8_loseBack yX8_loseBack ∈ qT := qT_in (List.mem_of_getElem? (i := 667) (by decide +kernel)) (by decide +kernel)
theorem qw668 : Cond.code yX8_loseBack cX8_loseBack 2 (some .int) ∈ qT := qT_in (List.mem_of_getElem? (i := 668) (by decide +kernel)) (by decide +kernel)
theorem qw672 : Cond.methodLink RL 66 yX8_setReceiver ∈ qT := qT_in (List.mem_of_getElem? (i := 672) (by decide +kernel)) (by decide +kernel)
theorem qw673 : Cond.instanceMethod yX8_setReceiver ∈ qT := qT_in (List.mem_of_getElem? (i := 673) (by decide +kernel)) (by decide +kernel)
theorem qw674 : Cond.selects RX8 yX8_setReceiver yX8_setReceiver ∈ qT := qT_in (List.mem_of_getElem? (i := 674) (by decide +kernel)) (by decide +kernel)
theorem qw675 : Cond.code yX8_setReceiver cX8_setReceiver 5 (some .int) ∈ qT := qT_in (List.mem_of_getElem? (i := 675) (by decide +kernel)) (by decide +kernel)
theorem qw677 : Cond.methodLink RL 94 yL_header ∈ qT := qT_in (List.mem_of_getElem? (i := 677) (by decide +kernel)) (by decide +kernel)
theorem qw678 : Cond.static yL_header ∈ qT := qT_in (List.mem_of_getElem? (i := 678) (by decide +kernel)) (by decide +kernel)
theorem qw679 : Cond.code yL_header cL_header 4 (some .long) ∈ qT := qT_in (List.mem_of_getElem? (i := 679) (by decide +kernel)) (by decide +kernel)
theorem qw680 : Cond.constantLong RL 79 65536 ∈ qT := qT_in (List.mem_of_getElem? (i := 680) (by decide +kernel)) (by decide +kernel)
theorem qw681 : Cond.constant RL 81 (65535) ∈ qT := qT_in (List.mem_of_getElem? (i := 681) (by decide +kernel)) (by decide +kernel)
theorem qw682 : Cond.constantLong RL 82 16 ∈ qT := qT_in (List.mem_of_getElem? (i := 682) (by decide +kernel)) (by decide +kernel)
theorem qw683 : Cond.methodLink RL 88 yL_part ∈ qT := qT_in (List.mem_of_getElem? (i := 683) (by decide +kernel)) (by decide +kernel)
theorem qw684 : Cond.static yL_part ∈ qT := qT_in (List.mem_of_getElem? (i := 684) (by decide +kernel)) (by decide +kernel)
theorem qw685 : Cond.code yL_part cL_part 3 (some .int) ∈ qT := qT_in (List.mem_of_getElem? (i := 685) (by decide +kernel)) (by decide +kernel)
theorem qw686 : Cond.constantLong RL 84 65535 ∈ qT := qT_in (List.mem_of_getElem? (i := 686) (by decide +kernel)) (by decide +kernel)
theorem qw687 : Cond.constantLong RL 86 15 ∈ qT := qT_in (List.mem_of_getElem? (i := 687) (by decide +kernel)) (by decide +kernel)
theorem qw688 : Cond.methodLink RL 101 yL_moved ∈ qT := qT_in (List.mem_of_getElem? (i := 688) (by decide +kernel)) (by decide +kernel)
theorem qw689 : Cond.static yL_moved ∈ qT := qT_in (List.mem_of_getElem? (i := 689) (by decide +kernel)) (by decide +kernel)
theorem qw690 : Cond.code yL_moved cL_moved 4 (some .long) ∈ qT := qT_in (List.mem_of_getElem? (i := 690) (by decide +kernel)) (by decide +kernel)
theorem qw691 : Cond.methodLink RL 105 yL_trusted ∈ qT := qT_in (List.mem_of_getElem? (i := 691) (by decide +kernel)) (by decide +kernel)
theorem qw692 : Cond.static yL_trusted ∈ qT := qT_in (List.mem_of_getElem? (i := 692) (by decide +kernel)) (by decide +kernel)
theorem qw693 : Cond.code yL_trusted cL_trusted 5 (some .int) ∈ qT := qT_in (List.mem_of_getElem? (i := 693) (by decide +kernel)) (by decide +kernel)
theorem qw694 : Cond.methodLink RL 117 yL_next ∈ qT := qT_in (List.mem_of_getElem? (i := 694) (by decide +kernel)) (by decide +kernel)
theorem qw695 : Cond.static yL_next ∈ qT := qT_in (List.mem_of_getElem? (i := 695) (by decide +kernel)) (by decide +kernel)
theorem qw696 : Cond.code yL_next cL_next 9 (some .int) ∈ qT := qT_in (List.mem_of_getElem? (i := 696) (by decide +kernel)) (by decide +kernel)
theorem qw697 : Cond.methodLink RL 109 yL_base ∈ qT := qT_in (List.mem_of_getElem? (i := 697) (by decide +kernel)) (by decide +kernel)
theorem qw698 : Cond.static yL_base ∈ qT := qT_in (List.mem_of_getElem? (i := 698) (by decide +kernel)) (by decide +kernel)
theorem qw699 : Cond.code yL_base cL_base 5 (some .long) ∈ qT := qT_in (List.mem_of_getElem? (i := 699) (by decide +kernel)) (by decide +kernel)
theorem qw700 : Cond.methodLink RL 113 yL_size ∈ qT := qT_in (List.mem_of_getElem? (i := 700) (by decide +kernel)) (by decide +kernel)
theorem qw701 : Cond.static yL_size ∈ qT := qT_in (List.mem_of_getElem? (i := 701) (by decide +kernel)) (by decide +kernel)
theorem qw702 : Cond.code yL_size cL_size 7 (some .int) ∈ qT := qT_in (List.mem_of_getElem? (i := 702) (by decide +kernel)) (by decide +kernel)
theorem qw703 : Cond.methodLink RL 98 yL_apart ∈ qT := qT_in (List.mem_of_getElem? (i := 703) (by decide +kernel)) (by decide +kernel)
theorem qw704 : Cond.static yL_apart ∈ qT := qT_in (List.mem_of_getElem? (i := 704) (by decide +kernel)) (by decide +kernel)
theorem qw705 : Cond.code yL_apart cL_apart 2 (some .int) ∈ qT := qT_in (List.mem_of_getElem? (i := 705) (by decide +kernel)) (by decide +kernel)
theorem qw715 : Cond.methodLink RL 121 yL_numberFor ∈ qT := qT_in (List.mem_of_getElem? (i := 715) (by decide +kernel)) (by decide +kernel)
theorem qw716 : Cond.static yL_numberFor ∈ qT := qT_in (List.mem_of_getElem? (i := 716) (by decide +kernel)) (by decide +kernel)
theorem qw717 : Cond.code yL_numberFor cL_numberFor 3 (some .int) ∈ qT := qT_in (List.mem_of_getElem? (i := 717) (by decide +kernel)) (by decide +kernel)
theorem qw718 : Cond.methodLink RL 124 yL_message ∈ qT := qT_in (List.mem_of_getElem? (i := 718) (by decide +kernel)) (by decide +kernel)
theorem qw719 : Cond.static yL_message ∈ qT := qT_in (List.mem_of_getElem? (i := 719) (by decide +kernel)) (by decide +kernel)
theorem qw720 : Cond.code yL_message cL_message 2 none ∈ qT := qT_in (List.mem_of_getElem? (i := 720) (by decide +kernel)) (by decide +kernel)
theorem qw724 : Cond.methodLink RL 128 yX8_highest ∈ qT := qT_in (List.mem_of_getElem? (i := 724) (by decide +kernel)) (by decide +kernel)
theorem qw725 : Cond.instanceMethod yX8_highest ∈ qT := qT_in (List.mem_of_getElem? (i := 725) (by decide +kernel)) (by decide +kernel)
theorem qw726 : Cond.selects RX8 yX8_highest yX8_highest ∈ qT := qT_in (List.mem_of_getElem? (i := 726) (by decide +kernel)) (by decide +kernel)
theorem qw727 : Cond.code yX8_highest cX8_highest 1 (some .int) ∈ qT := qT_in (List.mem_of_getElem? (i := 727) (by decide +kernel)) (by decide +kernel)
theorem qw728 : Cond.methodLink RL 131 yX8_lateness ∈ qT := qT_in (List.mem_of_getElem? (i := 728) (by decide +kernel)) (by decide +kernel)
theorem qw729 : Cond.instanceMethod yX8_lateness ∈ qT := qT_in (List.mem_of_getElem? (i := 729) (by decide +kernel)) (by decide +kernel)
theorem qw730 : Cond.selects RX8 yX8_lateness yX8_lateness ∈ qT := qT_in (List.mem_of_getElem? (i := 730) (by decide +kernel)) (by decide +kernel)
theorem qw731 : Cond.code yX8_lateness cX8_lateness 1 (some .int) ∈ qT := qT_in (List.mem_of_getElem? (i := 731) (by decide +kernel)) (by decide +kernel)
theorem qw732 : Cond.methodLink RL 134 yX8_saved ∈ qT := qT_in (List.mem_of_getElem? (i := 732) (by decide +kernel)) (by decide +kernel)
theorem qw733 : Cond.instanceMethod yX8_saved ∈ qT := qT_in (List.mem_of_getElem? (i := 733) (by decide +kernel)) (by decide +kernel)
theorem qw734 : Cond.selects RX8 yX8_saved yX8_saved ∈ qT := qT_in (List.mem_of_getElem? (i := 734) (by decide +kernel)) (by decide +kernel)
theorem qw735 : Cond.code yX8_saved cX8_saved 1 (some .int) ∈ qT := qT_in (List.mem_of_getElem? (i := 735) (by decide +kernel)) (by decide +kernel)
theorem qw740 : Cond.methodLink RL 137 yX8_waiting ∈ qT := qT_in (List.mem_of_getElem? (i := 740) (by decide +kernel)) (by decide +kernel)
theorem qw741 : Cond.instanceMethod yX8_waiting ∈ qT := qT_in (List.mem_of_getElem? (i := 741) (by decide +kernel)) (by decide +kernel)
theorem qw742 : Cond.selects RX8 yX8_waiting yX8_waiting ∈ qT := qT_in (List.mem_of_getElem? (i := 742) (by decide +kernel)) (by decide +kernel)
theorem qw743 : Cond.code yX8_waiting cX8_waiting 2 (some .int) ∈ qT := qT_in (List.mem_of_getElem? (i := 743) (by decide +kernel)) (by decide +kernel)
theorem qw748 : Cond.methodLink RL 141 yL_countOf ∈ qT := qT_in (List.mem_of_getElem? (i := 748) (by decide +kernel)) (by decide +kernel)
theorem qw749 : Cond.static yL_countOf ∈ qT := qT_in (List.mem_of_getElem? (i := 749) (by decide +kernel)) (by decide +kernel)
theorem qw751 : Cond.methodLink RL 76 yX8_count ∈ qT := qT_in (List.mem_of_getElem? (i := 751) (by decide +kernel)) (by decide +kernel)
theorem qw752 : Cond.instanceMethod yX8_count ∈ qT := qT_in (List.mem_of_getElem? (i := 752) (by decide +kernel)) (by decide +kernel)
theorem qw753 : Cond.selects RX8 yX8_count yX8_count ∈ qT := qT_in (List.mem_of_getElem? (i := 753) (by decide +kernel)) (by decide +kernel)
theorem qw754 : Cond.code yX8_count cX8_count 2 (some .int) ∈ qT := qT_in (List.mem_of_getElem? (i := 754) (by decide +kernel)) (by decide +kernel)
theorem qw768 : Cond.methodLink RL 62 yX8_waitingAt ∈ qT := qT_in (List.mem_of_getElem? (i := 768) (by decide +kernel)) (by decide +kernel)
theorem qw769 : Cond.instanceMethod yX8_waitingAt ∈ qT := qT_in (List.mem_of_getElem? (i := 769) (by decide +kernel)) (by decide +kernel)
theorem qw770 : Cond.selects RX8 yX8_waitingAt yX8_waitingAt ∈ qT := qT_in (List.mem_of_getElem? (i := 770) (by decide +kernel)) (by decide +kernel)
theorem qw771 : Cond.code yX8_waitingAt cX8_waitingAt 4 (some .int) ∈ qT := qT_in (List.mem_of_getElem? (i := 771) (by decide +kernel)) (by decide +kernel)
theorem qw776 : Cond.methodLink RL 70 yX8_record ∈ qT := qT_in (List.mem_of_getElem? (i := 776) (by decide +kernel)) (by decide +kernel)
theorem qw777 : Cond.instanceMethod yX8_record ∈ qT := qT_in (List.mem_of_getElem? (i := 777) (by decide +kernel)) (by decide +kernel)
theorem qw778 : Cond.selects RX8 yX8_record yX8_record ∈ qT := qT_in (List.mem_of_getElem? (i := 778) (by decide +kernel)) (by decide +kernel)
theorem qw779 : Cond.code yX8_record cX8_record 3 (some .int) ∈ qT := qT_in (List.mem_of_getElem? (i := 779) (by decide +kernel)) (by decide +kernel)
theorem qw790 : Cond.methodLink RL 44 yX8_sent ∈ qT := qT_in (List.mem_of_getElem? (i := 790) (by decide +kernel)) (by decide +kernel)
theorem qw791 : Cond.instanceMethod yX8_sent ∈ qT := qT_in (List.mem_of_getElem? (i := 791) (by decide +kernel)) (by decide +kernel)
theorem qw792 : Cond.selects RX8 yX8_sent yX8_sent ∈ qT := qT_in (List.mem_of_getElem? (i := 792) (by decide +kernel)) (by decide +kernel)
theorem qw793 : Cond.code yX8_sent cX8_sent 3 (some .int) ∈ qT := qT_in (List.mem_of_getElem? (i := 793) (by decide +kernel)) (by decide +kernel)
theorem qw802 : Cond.methodLink RL 38 yX8_field ∈ qT := qT_in (List.mem_of_getElem? (i := 802) (by decide +kernel)) (by decide +kernel)
theorem qw803 : Cond.instanceMethod yX8_field ∈ qT := qT_in (List.mem_of_getElem? (i := 803) (by decide +kernel)) (by decide +kernel)
theorem qw804 : Cond.selects RX8 yX8_field yX8_field ∈ qT := qT_in (List.mem_of_getElem? (i := 804) (by decide +kernel)) (by decide +kernel)
theorem qw805 : Cond.code yX8_field cX8_field 2 (some .int) ∈ qT := qT_in (List.mem_of_getElem? (i := 805) (by decide +kernel)) (by decide +kernel)
theorem qw817 : Cond.methodLink RL 73 yX8_numberFor ∈ qT := qT_in (List.mem_of_getElem? (i := 817) (by decide +kernel)) (by decide +kernel)
theorem qw818 : Cond.instanceMethod yX8_numberFor ∈ qT := qT_in (List.mem_of_getElem? (i := 818) (by decide +kernel)) (by decide +kernel)
theorem qw819 : Cond.selects RX8 yX8_numberFor yX8_numberFor ∈ qT := qT_in (List.mem_of_getElem? (i := 819) (by decide +kernel)) (by decide +kernel)
theorem qw820 : Cond.code yX8_numberFor cX8_numberFor 2 (some .int) ∈ qT := qT_in (List.mem_of_getElem? (i := 820) (by decide +kernel)) (by decide +kernel)
theorem qw823 : Cond.constant RL 176 (65536) ∈ qT := qT_in (List.mem_of_getElem? (i := 823) (by decide +kernel)) (by decide +kernel)
theorem cb_10 : (Int8.ofInt (10)).toInt32 = 10 := by decide +kernel
theorem cb_11 : (Int8.ofInt (11)).toInt32 = 11 := by decide +kernel
theorem cb_120 : (Int8.ofInt (120)).toInt32 = 120 := by decide +kernel
theorem cb_13 : (Int8.ofInt (13)).toInt32 = 13 := by decide +kernel
theorem cb_14 : (Int8.ofInt (14)).toInt32 = 14 := by decide +kernel
theorem cb_17 : (Int8.ofInt (17)).toInt32 = 17 := by decide +kernel
theorem cb_18 : (Int8.ofInt (18)).toInt32 = 18 := by decide +kernel
theorem cb_19 : (Int8.ofInt (19)).toInt32 = 19 := by decide +kernel
theorem cb_36 : (Int8.ofInt (36)).toInt32 = 36 := by decide +kernel
theorem cb_9 : (Int8.ofInt (9)).toInt32 = 9 := by decide +kernel
theorem cs_1000 : (Int16.ofInt (1000)).toInt32 = 1000 := by decide +kernel
theorem cs_10000 : (Int16.ofInt (10000)).toInt32 = 10000 := by decide +kernel
theorem cs_128 : (Int16.ofInt (128)).toInt32 = 128 := by decide +kernel
theorem cs_4096 : (Int16.ofInt (4096)).toInt32 = 4096 := by decide +kernel
theorem cs_900 : (Int16.ofInt (900)).toInt32 = 900 := by decide +kernel
theorem cs_m129 : (Int16.ofInt (-129)).toInt32 = (-129) := by decide +kernel
def fL : Nat → Option (Nat × Nat × FieldType × Bool) := fun _ => none
def kL : Nat → Option Int32 := fun n => match n with
  | 7 => some 40503
  | 8 => some 2147483647
  | 17 => some (-100001)
  | 20 => some (-100002)
  | 33 => some (-100003)
  | 81 => some 65535
  | 176 => some 65536
  | _ => none
def jL : Nat → Option Int64 := fun n => match n with
  | 79 => some 65536
  | 82 => some 16
  | 84 => some 65535
  | 86 => some 15
  | _ => none
def nL : Nat → Option (Nat × Nat × List Value) := fun n => match n with
  | 10 => some (7, 5, [.null, .null, .int 0, .int 0, .null])
  | _ => none
theorem tabL : qTab RL fL kL jL nL := by
  refine ⟨fun idx ci j ty fin h => ?_, fun n v h => ?_, fun n v h => ?_, fun idx ci N t h => ?_⟩
  · cases h
  · unfold kL at h
    split at h
    · cases h
      exact qw412
    · cases h
      exact qw416
    · cases h
      exact qw517
    · cases h
      exact qw518
    · cases h
      exact qw595
    · cases h
      exact qw681
    · cases h
      exact qw823
    · cases h
  · unfold jL at h
    split at h
    · cases h
      exact qw680
    · cases h
      exact qw682
    · cases h
      exact qw686
    · cases h
      exact qw687
    · cases h
  · unfold nL at h
    split at h
    · cases h
      exact Or.inr ⟨RX8, TX8, tyX8, rfl, qw28, qw29, qw10, inqX8, tyX8_ok, rfl⟩
    · cases h
