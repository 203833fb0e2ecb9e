/-! ===== shapes of calls (by program: wip/gen) ===== -/
def rtv (mc ms : Nat) (q : qMM → Prop) : Option Value → qMM → Nat × Nat → Prop := fun v μ cs => (v = none ∧ q μ) ∧ cs.1 ≤ mc ∧ cs.2 ≤ ms
def rti (mc ms : Nat) (q : Int32 → qMM → Prop) : Option Value → qMM → Nat × Nat → Prop := fun v μ cs => (∃ r : Int32, v = some (.int r) ∧ q r μ) ∧ cs.1 ≤ mc ∧ cs.2 ≤ ms
def rtj (mc ms : Nat) (q : Int64 → qMM → Prop) : Option Value → qMM → Nat × Nat → Prop := fun v μ cs => (∃ r : Int64, v = some (.long r) ∧ q r μ) ∧ cs.1 ≤ mc ∧ cs.2 ≤ ms
def rtd (mc ms : Nat) (q : UInt64 → qMM → Prop) : Option Value → qMM → Nat × Nat → Prop := fun v μ cs => (∃ r : UInt64, v = some (.double r) ∧ q r μ) ∧ cs.1 ≤ mc ∧ cs.2 ≤ ms
def rta (mc ms : Nat) (q : Nat → qMM → Prop) : Option Value → qMM → Nat × Nat → Prop := fun v μ cs => (∃ r : Nat, v = some (.ref r) ∧ q r μ) ∧ cs.1 ≤ mc ∧ cs.2 ≤ ms
theorem rtv_at {mc ms c s : Nat} {q : qMM → Prop} {μ : qMM} : rtv mc ms q none μ (c, s) = (q μ ∧ c ≤ mc ∧ s ≤ ms) := by simp [rtv]
theorem rti_at {mc ms c s : Nat} {q : Int32 → qMM → Prop} {x : Int32} {μ : qMM} : rti mc ms q (some (.int x)) μ (c, s) = (q x μ ∧ c ≤ mc ∧ s ≤ ms) := by simp [rti]
theorem rtj_at {mc ms c s : Nat} {q : Int64 → qMM → Prop} {x : Int64} {μ : qMM} : rtj mc ms q (some (.long x)) μ (c, s) = (q x μ ∧ c ≤ mc ∧ s ≤ ms) := by simp [rtj]
theorem rtd_at {mc ms c s : Nat} {q : UInt64 → qMM → Prop} {x : UInt64} {μ : qMM} : rtd mc ms q (some (.double x)) μ (c, s) = (q x μ ∧ c ≤ mc ∧ s ≤ ms) := by simp [rtd]
theorem rta_at {mc ms c s : Nat} {q : Nat → qMM → Prop} {x : Nat} {μ : qMM} : rta mc ms q (some (.ref x)) μ (c, s) = (q x μ ∧ c ≤ mc ∧ s ≤ ms) := by simp [rta]
theorem spObj_call {x : Nat} {st : List Value} {μ : qMM} {c0 s0 rc rs : Nat} {k : List Value → qMM → Nat × Nat → Prop} : qCal spObj (.ref x :: st) μ (c0, s0) rc rs k = (st.length ≤ 4 ∧ c0 ≤ rc ∧ s0 ≤ rs ∧ (∃ t, mS μ x = some t) ∧ k st μ (c0, s0)) := by
  apply propext
  constructor
  · rintro ⟨-, h2, h3, h4, ⟨o, t, e, ht⟩, h6⟩
    cases e
    exact ⟨h2, h3, h4, ⟨t, ht⟩, h6 none μ ⟨rfl, rfl⟩⟩
  · rintro ⟨h2, h3, h4, ⟨t, ht⟩, h6⟩
    refine ⟨by simp [spObj], h2, h3, h4, ⟨x, t, rfl, ht⟩, ?_⟩
    rintro v μ' ⟨rfl, rfl⟩
    exact h6
theorem spMax_call {x y : Int32} {st : List Value} {μ : qMM} {c0 s0 rc rs : Nat} {k : List Value → qMM → Nat × Nat → Prop} : qCal spMax (.int y :: .int x :: st) μ (c0, s0) rc rs k = (st.length ≤ 4 ∧ c0 ≤ rc ∧ s0 ≤ rs ∧ k (.int (if x < y then y else x) :: st) μ (c0, s0)) := by
  apply propext
  constructor
  · rintro ⟨-, h2, h3, h4, -, h6⟩
    exact ⟨h2, h3, h4, h6 (some (.int (if x < y then y else x))) μ (fun a b e => by cases e; exact ⟨rfl, rfl⟩)⟩
  · rintro ⟨h2, h3, h4, h6⟩
    refine ⟨by simp [spMax], h2, h3, h4, ⟨x, y, rfl⟩, fun v μ' hq => ?_⟩
    obtain ⟨rfl, rfl⟩ := hq x y rfl
    exact h6
theorem spMin_call {x y : Int32} {st : List Value} {μ : qMM} {c0 s0 rc rs : Nat} {k : List Value → qMM → Nat × Nat → Prop} : qCal spMin (.int y :: .int x :: st) μ (c0, s0) rc rs k = (st.length ≤ 4 ∧ c0 ≤ rc ∧ s0 ≤ rs ∧ k (.int (if y < x then y else x) :: st) μ (c0, s0)) := by
  apply propext
  constructor
  · rintro ⟨-, h2, h3, h4, -, h6⟩
    exact ⟨h2, h3, h4, h6 (some (.int (if y < x then y else x))) μ (fun a b e => by cases e; exact ⟨rfl, rfl⟩)⟩
  · rintro ⟨h2, h3, h4, h6⟩
    refine ⟨by simp [spMin], h2, h3, h4, ⟨x, y, rfl⟩, fun v μ' hq => ?_⟩
    obtain ⟨rfl, rfl⟩ := hq x y rfl
    exact h6
theorem spAcp_call {z p q : Int32} {x y : Nat} {st : List Value} {μ : qMM} {c0 s0 rc rs : Nat} {k : List Value → qMM → Nat × Nat → Prop} : qCal spAcp (.int z :: .int q :: .ref y :: .int p :: .ref x :: st) μ (c0, s0) rc rs k = (st.length ≤ 4 ∧ c0 ≤ rc ∧ s0 ≤ rs ∧ (∃ n0 n1 f0 f1, mS μ x = some (.inr (0, n0, f0)) ∧ mS μ y = some (.inr (0, n1, f1)) ∧ ¬ p < 0 ∧ ¬ q < 0 ∧ ¬ z < 0 ∧ p.toNatClampNeg + z.toNatClampNeg ≤ n0 ∧ q.toNatClampNeg + z.toNatClampNeg ≤ n1 ∧ mN μ = none) ∧ k st (wR μ y (va_cpy (mI μ x) (mI μ y) p.toNatClampNeg q.toNatClampNeg z.toNatClampNeg)) (c0, s0)) := by
  apply propext
  constructor
  · rintro ⟨-, h2, h3, h4, ⟨a0, sp, a, dp, n, n0, n1, f0, f1, e, hh⟩, h6⟩
    cases e
    exact ⟨h2, h3, h4, ⟨n0, n1, f0, f1, hh⟩, h6 none _ (fun _ _ _ _ _ e => by cases e; exact ⟨rfl, rfl⟩)⟩
  · rintro ⟨h2, h3, h4, ⟨n0, n1, f0, f1, hh⟩, h6⟩
    refine ⟨by simp [spAcp], h2, h3, h4, ⟨x, p, y, q, z, n0, n1, f0, f1, rfl, hh⟩, fun v μ' hq => ?_⟩
    obtain ⟨rfl, rfl⟩ := hq x p y q z rfl
    exact h6
def sg_r_d (mc ms : Nat) (ci : Nat) (P : Nat → qMM → Prop) (Q : Nat → qMM → UInt64 → qMM → Prop) : qCS := (1, fun av μ => ∃ (o : Nat), av = [.ref o] ∧ (∃ t, mS μ o = some (.inl (ci, t))) ∧ P o μ, fun av μ v μ' => ∀ (o : Nat), av = [.ref o] → ∃ r : UInt64, v = some (.double r) ∧ Q o μ r μ', mc, ms)
theorem sg_r_d_call {mc ms ci : Nat} {P : Nat → qMM → Prop} {Q : Nat → qMM → UInt64 → qMM → Prop} {o : Nat} {st : List Value} {μ : qMM} {c0 s0 rc rs : Nat} {k : List Value → qMM → Nat × Nat → Prop} : qCal (sg_r_d mc ms ci P Q) (.ref o :: st) μ (c0, s0) rc rs k = (st.length ≤ 4 ∧ c0 + mc ≤ rc ∧ s0 + ms ≤ rs ∧ (∃ t, mS μ o = some (.inl (ci, t))) ∧ P o μ ∧ ∀ (r : UInt64) (μ' : qMM), Q o μ r μ' → k (.double r :: st) μ' (c0 + mc, s0 + ms)) := by
  apply propext
  constructor
  · rintro ⟨-, h2, h3, h4, h5, h6⟩
    obtain ⟨y0, e, ht, hp⟩ := h5
    cases e
    exact ⟨h2, h3, h4, ht, hp, fun r μ' hq => h6 (some (.double r)) μ' (fun _ e => by cases e; exact ⟨r, rfl, hq⟩)⟩
  · rintro ⟨h2, h3, h4, ht, hp, h6⟩
    refine ⟨by simp [sg_r_d], h2, h3, h4, ⟨o, rfl, ht, hp⟩, fun v μ' hq => ?_⟩
    obtain ⟨r, rfl, hq2⟩ := hq o rfl
    exact h6 _ _ hq2
theorem sg_r_d_R {mc ms ci : Nat} {P : Nat → qMM → Prop} {Q : Nat → qMM → UInt64 → qMM → Prop} {o : Nat} {μ : qMM} : (fun v μ' (cs : Nat × Nat) => (sg_r_d mc ms ci P Q).2.2.1 [.ref o] μ v μ' ∧ cs.1 ≤ mc ∧ cs.2 ≤ ms) = rtd mc ms (Q o μ) := by
  funext v μ' cs
  apply propext
  refine and_congr_left fun _ => ⟨fun h => ?_, fun h => ?_⟩
  · exact h o rfl
  · intro _ e
    cases e
    exact h
theorem sg_r_d_recv {mc ms ci : Nat} {P : Nat → qMM → Prop} {Q : Nat → qMM → UInt64 → qMM → Prop} : qRecv (sg_r_d mc ms ci P Q) ci 0 := by
  rintro av μ ⟨y0, rfl, ⟨t, ht⟩, -⟩
  exact ⟨_, _, t, rfl, rfl, ht⟩
def sg_r_i (mc ms : Nat) (ci : Nat) (P : Nat → qMM → Prop) (Q : Nat → qMM → Int32 → qMM → Prop) : qCS := (1, fun av μ => ∃ (o : Nat), av = [.ref o] ∧ (∃ t, mS μ o = some (.inl (ci, t))) ∧ P o μ, fun av μ v μ' => ∀ (o : Nat), av = [.ref o] → ∃ r : Int32, v = some (.int r) ∧ Q o μ r μ', mc, ms)
theorem sg_r_i_call {mc ms ci : Nat} {P : Nat → qMM → Prop} {Q : Nat → qMM → Int32 → qMM → Prop} {o : Nat} {st : List Value} {μ : qMM} {c0 s0 rc rs : Nat} {k : List Value → qMM → Nat × Nat → Prop} : qCal (sg_r_i mc ms ci P Q) (.ref o :: st) μ (c0, s0) rc rs k = (st.length ≤ 4 ∧ c0 + mc ≤ rc ∧ s0 + ms ≤ rs ∧ (∃ t, mS μ o = some (.inl (ci, t))) ∧ P o μ ∧ ∀ (r : Int32) (μ' : qMM), Q o μ r μ' → k (.int r :: st) μ' (c0 + mc, s0 + ms)) := by
  apply propext
  constructor
  · rintro ⟨-, h2, h3, h4, h5, h6⟩
    obtain ⟨y0, e, ht, hp⟩ := h5
    cases e
    exact ⟨h2, h3, h4, ht, hp, fun r μ' hq => h6 (some (.int r)) μ' (fun _ e => by cases e; exact ⟨r, rfl, hq⟩)⟩
  · rintro ⟨h2, h3, h4, ht, hp, h6⟩
    refine ⟨by simp [sg_r_i], h2, h3, h4, ⟨o, rfl, ht, hp⟩, fun v μ' hq => ?_⟩
    obtain ⟨r, rfl, hq2⟩ := hq o rfl
    exact h6 _ _ hq2
theorem sg_r_i_R {mc ms ci : Nat} {P : Nat → qMM → Prop} {Q : Nat → qMM → Int32 → qMM → Prop} {o : Nat} {μ : qMM} : (fun v μ' (cs : Nat × Nat) => (sg_r_i mc ms ci P Q).2.2.1 [.ref o] μ v μ' ∧ cs.1 ≤ mc ∧ cs.2 ≤ ms) = rti mc ms (Q o μ) := by
  funext v μ' cs
  apply propext
  refine and_congr_left fun _ => ⟨fun h => ?_, fun h => ?_⟩
  · exact h o rfl
  · intro _ e
    cases e
    exact h
theorem sg_r_i_recv {mc ms ci : Nat} {P : Nat → qMM → Prop} {Q : Nat → qMM → Int32 → qMM → Prop} : qRecv (sg_r_i mc ms ci P Q) ci 0 := by
  rintro av μ ⟨y0, rfl, ⟨t, ht⟩, -⟩
  exact ⟨_, _, t, rfl, rfl, ht⟩
def sg_r_v (mc ms : Nat) (ci : Nat) (P : Nat → qMM → Prop) (Q : Nat → qMM → qMM → Prop) : qCS := (1, fun av μ => ∃ (o : Nat), av = [.ref o] ∧ (∃ t, mS μ o = some (.inl (ci, t))) ∧ P o μ, fun av μ v μ' => ∀ (o : Nat), av = [.ref o] → v = none ∧ Q o μ μ', mc, ms)
theorem sg_r_v_call {mc ms ci : Nat} {P : Nat → qMM → Prop} {Q : Nat → qMM → qMM → Prop} {o : Nat} {st : List Value} {μ : qMM} {c0 s0 rc rs : Nat} {k : List Value → qMM → Nat × Nat → Prop} : qCal (sg_r_v mc ms ci P Q) (.ref o :: st) μ (c0, s0) rc rs k = (st.length ≤ 4 ∧ c0 + mc ≤ rc ∧ s0 + ms ≤ rs ∧ (∃ t, mS μ o = some (.inl (ci, t))) ∧ P o μ ∧ ∀ μ', Q o μ μ' → k st μ' (c0 + mc, s0 + ms)) := by
  apply propext
  constructor
  · rintro ⟨-, h2, h3, h4, h5, h6⟩
    obtain ⟨y0, e, ht, hp⟩ := h5
    cases e
    exact ⟨h2, h3, h4, ht, hp, fun μ' hq => h6 none μ' (fun _ e => by cases e; exact ⟨rfl, hq⟩)⟩
  · rintro ⟨h2, h3, h4, ht, hp, h6⟩
    refine ⟨by simp [sg_r_v], h2, h3, h4, ⟨o, rfl, ht, hp⟩, fun v μ' hq => ?_⟩
    obtain ⟨rfl, hq2⟩ := hq o rfl
    exact h6 _ hq2
theorem sg_r_v_R {mc ms ci : Nat} {P : Nat → qMM → Prop} {Q : Nat → qMM → qMM → Prop} {o : Nat} {μ : qMM} : (fun v μ' (cs : Nat × Nat) => (sg_r_v mc ms ci P Q).2.2.1 [.ref o] μ v μ' ∧ cs.1 ≤ mc ∧ cs.2 ≤ ms) = rtv mc ms (Q o μ) := by
  funext v μ' cs
  apply propext
  refine and_congr_left fun _ => ⟨fun h => ?_, fun h => ?_⟩
  · exact h o rfl
  · intro _ e
    cases e
    exact h
theorem sg_r_v_recv {mc ms ci : Nat} {P : Nat → qMM → Prop} {Q : Nat → qMM → qMM → Prop} : qRecv (sg_r_v mc ms ci P Q) ci 0 := by
  rintro av μ ⟨y0, rfl, ⟨t, ht⟩, -⟩
  exact ⟨_, _, t, rfl, rfl, ht⟩
def sg_ra_v (mc ms : Nat) (ci : Nat) (P : Nat → Nat → qMM → Prop) (Q : Nat → Nat → qMM → qMM → Prop) : qCS := (2, fun av μ => ∃ (o : Nat) (x1 : Nat), av = [.ref o, .ref x1] ∧ (∃ t, mS μ o = some (.inl (ci, t))) ∧ P o x1 μ, fun av μ v μ' => ∀ (o : Nat) (x1 : Nat), av = [.ref o, .ref x1] → v = none ∧ Q o x1 μ μ', mc, ms)
theorem sg_ra_v_call {mc ms ci : Nat} {P : Nat → Nat → qMM → Prop} {Q : Nat → Nat → qMM → qMM → Prop} {o : Nat} {x1 : Nat} {st : List Value} {μ : qMM} {c0 s0 rc rs : Nat} {k : List Value → qMM → Nat × Nat → Prop} : qCal (sg_ra_v mc ms ci P Q) (.ref x1 :: .ref o :: st) μ (c0, s0) rc rs k = (st.length ≤ 4 ∧ c0 + mc ≤ rc ∧ s0 + ms ≤ rs ∧ (∃ t, mS μ o = some (.inl (ci, t))) ∧ P o x1 μ ∧ ∀ μ', Q o x1 μ μ' → k st μ' (c0 + mc, s0 + ms)) := by
  apply propext
  constructor
  · rintro ⟨-, h2, h3, h4, h5, h6⟩
    obtain ⟨y0, y1, e, ht, hp⟩ := h5
    cases e
    exact ⟨h2, h3, h4, ht, hp, fun μ' hq => h6 none μ' (fun _ _ e => by cases e; exact ⟨rfl, hq⟩)⟩
  · rintro ⟨h2, h3, h4, ht, hp, h6⟩
    refine ⟨by simp [sg_ra_v], h2, h3, h4, ⟨o, x1, rfl, ht, hp⟩, fun v μ' hq => ?_⟩
    obtain ⟨rfl, hq2⟩ := hq o x1 rfl
    exact h6 _ hq2
theorem sg_ra_v_R {mc ms ci : Nat} {P : Nat → Nat → qMM → Prop} {Q : Nat → Nat → qMM → qMM → Prop} {o : Nat} {x1 : Nat} {μ : qMM} : (fun v μ' (cs : Nat × Nat) => (sg_ra_v mc ms ci P Q).2.2.1 [.ref o, .ref x1] μ v μ' ∧ cs.1 ≤ mc ∧ cs.2 ≤ ms) = rtv mc ms (Q o x1 μ) := by
  funext v μ' cs
  apply propext
  refine and_congr_left fun _ => ⟨fun h => ?_, fun h => ?_⟩
  · exact h o x1 rfl
  · intro _ _ e
    cases e
    exact h
theorem sg_ra_v_recv {mc ms ci : Nat} {P : Nat → Nat → qMM → Prop} {Q : Nat → Nat → qMM → qMM → Prop} : qRecv (sg_ra_v mc ms ci P Q) ci 1 := by
  rintro av μ ⟨y0, y1, rfl, ⟨t, ht⟩, -⟩
  exact ⟨_, _, t, rfl, rfl, ht⟩
def sg_ri_a (mc ms : Nat) (ci : Nat) (P : Nat → Int32 → qMM → Prop) (Q : Nat → Int32 → qMM → Nat → qMM → Prop) : qCS := (2, fun av μ => ∃ (o : Nat) (x1 : Int32), av = [.ref o, .int x1] ∧ (∃ t, mS μ o = some (.inl (ci, t))) ∧ P o x1 μ, fun av μ v μ' => ∀ (o : Nat) (x1 : Int32), av = [.ref o, .int x1] → ∃ r : Nat, v = some (.ref r) ∧ Q o x1 μ r μ', mc, ms)
theorem sg_ri_a_call {mc ms ci : Nat} {P : Nat → Int32 → qMM → Prop} {Q : Nat → Int32 → qMM → Nat → qMM → Prop} {o : Nat} {x1 : Int32} {st : List Value} {μ : qMM} {c0 s0 rc rs : Nat} {k : List Value → qMM → Nat × Nat → Prop} : qCal (sg_ri_a mc ms ci P Q) (.int x1 :: .ref o :: st) μ (c0, s0) rc rs k = (st.length ≤ 4 ∧ c0 + mc ≤ rc ∧ s0 + ms ≤ rs ∧ (∃ t, mS μ o = some (.inl (ci, t))) ∧ P o x1 μ ∧ ∀ (r : Nat) (μ' : qMM), Q o x1 μ r μ' → k (.ref r :: st) μ' (c0 + mc, s0 + ms)) := by
  apply propext
  constructor
  · rintro ⟨-, h2, h3, h4, h5, h6⟩
    obtain ⟨y0, y1, e, ht, hp⟩ := h5
    cases e
    exact ⟨h2, h3, h4, ht, hp, fun r μ' hq => h6 (some (.ref r)) μ' (fun _ _ e => by cases e; exact ⟨r, rfl, hq⟩)⟩
  · rintro ⟨h2, h3, h4, ht, hp, h6⟩
    refine ⟨by simp [sg_ri_a], h2, h3, h4, ⟨o, x1, rfl, ht, hp⟩, fun v μ' hq => ?_⟩
    obtain ⟨r, rfl, hq2⟩ := hq o x1 rfl
    exact h6 _ _ hq2
theorem sg_ri_a_R {mc ms ci : Nat} {P : Nat → Int32 → qMM → Prop} {Q : Nat → Int32 → qMM → Nat → qMM → Prop} {o : Nat} {x1 : Int32} {μ : qMM} : (fun v μ' (cs : Nat × Nat) => (sg_ri_a mc ms ci P Q).2.2.1 [.ref o, .int x1] μ v μ' ∧ cs.1 ≤ mc ∧ cs.2 ≤ ms) = rta mc ms (Q o x1 μ) := by
  funext v μ' cs
  apply propext
  refine and_congr_left fun _ => ⟨fun h => ?_, fun h => ?_⟩
  · exact h o x1 rfl
  · intro _ _ e
    cases e
    exact h
theorem sg_ri_a_recv {mc ms ci : Nat} {P : Nat → Int32 → qMM → Prop} {Q : Nat → Int32 → qMM → Nat → qMM → Prop} : qRecv (sg_ri_a mc ms ci P Q) ci 1 := by
  rintro av μ ⟨y0, y1, rfl, ⟨t, ht⟩, -⟩
  exact ⟨_, _, t, rfl, rfl, ht⟩
def sg_ri_i (mc ms : Nat) (ci : Nat) (P : Nat → Int32 → qMM → Prop) (Q : Nat → Int32 → qMM → Int32 → qMM → Prop) : qCS := (2, fun av μ => ∃ (o : Nat) (x1 : Int32), av = [.ref o, .int x1] ∧ (∃ t, mS μ o = some (.inl (ci, t))) ∧ P o x1 μ, fun av μ v μ' => ∀ (o : Nat) (x1 : Int32), av = [.ref o, .int x1] → ∃ r : Int32, v = some (.int r) ∧ Q o x1 μ r μ', mc, ms)
theorem sg_ri_i_call {mc ms ci : Nat} {P : Nat → Int32 → qMM → Prop} {Q : Nat → Int32 → qMM → Int32 → qMM → Prop} {o : Nat} {x1 : Int32} {st : List Value} {μ : qMM} {c0 s0 rc rs : Nat} {k : List Value → qMM → Nat × Nat → Prop} : qCal (sg_ri_i mc ms ci P Q) (.int x1 :: .ref o :: st) μ (c0, s0) rc rs k = (st.length ≤ 4 ∧ c0 + mc ≤ rc ∧ s0 + ms ≤ rs ∧ (∃ t, mS μ o = some (.inl (ci, t))) ∧ P o x1 μ ∧ ∀ (r : Int32) (μ' : qMM), Q o x1 μ r μ' → k (.int r :: st) μ' (c0 + mc, s0 + ms)) := by
  apply propext
  constructor
  · rintro ⟨-, h2, h3, h4, h5, h6⟩
    obtain ⟨y0, y1, e, ht, hp⟩ := h5
    cases e
    exact ⟨h2, h3, h4, ht, hp, fun r μ' hq => h6 (some (.int r)) μ' (fun _ _ e => by cases e; exact ⟨r, rfl, hq⟩)⟩
  · rintro ⟨h2, h3, h4, ht, hp, h6⟩
    refine ⟨by simp [sg_ri_i], h2, h3, h4, ⟨o, x1, rfl, ht, hp⟩, fun v μ' hq => ?_⟩
    obtain ⟨r, rfl, hq2⟩ := hq o x1 rfl
    exact h6 _ _ hq2
theorem sg_ri_i_R {mc ms ci : Nat} {P : Nat → Int32 → qMM → Prop} {Q : Nat → Int32 → qMM → Int32 → qMM → Prop} {o : Nat} {x1 : Int32} {μ : qMM} : (fun v μ' (cs : Nat × Nat) => (sg_ri_i mc ms ci P Q).2.2.1 [.ref o, .int x1] μ v μ' ∧ cs.1 ≤ mc ∧ cs.2 ≤ ms) = rti mc ms (Q o x1 μ) := by
  funext v μ' cs
  apply propext
  refine and_congr_left fun _ => ⟨fun h => ?_, fun h => ?_⟩
  · exact h o x1 rfl
  · intro _ _ e
    cases e
    exact h
theorem sg_ri_i_recv {mc ms ci : Nat} {P : Nat → Int32 → qMM → Prop} {Q : Nat → Int32 → qMM → Int32 → qMM → Prop} : qRecv (sg_ri_i mc ms ci P Q) ci 1 := by
  rintro av μ ⟨y0, y1, rfl, ⟨t, ht⟩, -⟩
  exact ⟨_, _, t, rfl, rfl, ht⟩
def sg_ri_v (mc ms : Nat) (ci : Nat) (P : Nat → Int32 → qMM → Prop) (Q : Nat → Int32 → qMM → qMM → Prop) : qCS := (2, fun av μ => ∃ (o : Nat) (x1 : Int32), av = [.ref o, .int x1] ∧ (∃ t, mS μ o = some (.inl (ci, t))) ∧ P o x1 μ, fun av μ v μ' => ∀ (o : Nat) (x1 : Int32), av = [.ref o, .int x1] → v = none ∧ Q o x1 μ μ', mc, ms)
theorem sg_ri_v_call {mc ms ci : Nat} {P : Nat → Int32 → qMM → Prop} {Q : Nat → Int32 → qMM → qMM → Prop} {o : Nat} {x1 : Int32} {st : List Value} {μ : qMM} {c0 s0 rc rs : Nat} {k : List Value → qMM → Nat × Nat → Prop} : qCal (sg_ri_v mc ms ci P Q) (.int x1 :: .ref o :: st) μ (c0, s0) rc rs k = (st.length ≤ 4 ∧ c0 + mc ≤ rc ∧ s0 + ms ≤ rs ∧ (∃ t, mS μ o = some (.inl (ci, t))) ∧ P o x1 μ ∧ ∀ μ', Q o x1 μ μ' → k st μ' (c0 + mc, s0 + ms)) := by
  apply propext
  constructor
  · rintro ⟨-, h2, h3, h4, h5, h6⟩
    obtain ⟨y0, y1, e, ht, hp⟩ := h5
    cases e
    exact ⟨h2, h3, h4, ht, hp, fun μ' hq => h6 none μ' (fun _ _ e => by cases e; exact ⟨rfl, hq⟩)⟩
  · rintro ⟨h2, h3, h4, ht, hp, h6⟩
    refine ⟨by simp [sg_ri_v], h2, h3, h4, ⟨o, x1, rfl, ht, hp⟩, fun v μ' hq => ?_⟩
    obtain ⟨rfl, hq2⟩ := hq o x1 rfl
    exact h6 _ hq2
theorem sg_ri_v_R {mc ms ci : Nat} {P : Nat → Int32 → qMM → Prop} {Q : Nat → Int32 → qMM → qMM → Prop} {o : Nat} {x1 : Int32} {μ : qMM} : (fun v μ' (cs : Nat × Nat) => (sg_ri_v mc ms ci P Q).2.2.1 [.ref o, .int x1] μ v μ' ∧ cs.1 ≤ mc ∧ cs.2 ≤ ms) = rtv mc ms (Q o x1 μ) := by
  funext v μ' cs
  apply propext
  refine and_congr_left fun _ => ⟨fun h => ?_, fun h => ?_⟩
  · exact h o x1 rfl
  · intro _ _ e
    cases e
    exact h
theorem sg_ri_v_recv {mc ms ci : Nat} {P : Nat → Int32 → qMM → Prop} {Q : Nat → Int32 → qMM → qMM → Prop} : qRecv (sg_ri_v mc ms ci P Q) ci 1 := by
  rintro av μ ⟨y0, y1, rfl, ⟨t, ht⟩, -⟩
  exact ⟨_, _, t, rfl, rfl, ht⟩
def sg_ria_i (mc ms : Nat) (ci : Nat) (P : Nat → Int32 → Nat → qMM → Prop) (Q : Nat → Int32 → Nat → qMM → Int32 → qMM → Prop) : qCS := (3, fun av μ => ∃ (o : Nat) (x1 : Int32) (x2 : Nat), av = [.ref o, .int x1, .ref x2] ∧ (∃ t, mS μ o = some (.inl (ci, t))) ∧ P o x1 x2 μ, fun av μ v μ' => ∀ (o : Nat) (x1 : Int32) (x2 : Nat), av = [.ref o, .int x1, .ref x2] → ∃ r : Int32, v = some (.int r) ∧ Q o x1 x2 μ r μ', mc, ms)
theorem sg_ria_i_call {mc ms ci : Nat} {P : Nat → Int32 → Nat → qMM → Prop} {Q : Nat → Int32 → Nat → qMM → Int32 → qMM → Prop} {o : Nat} {x1 : Int32} {x2 : Nat} {st : List Value} {μ : qMM} {c0 s0 rc rs : Nat} {k : List Value → qMM → Nat × Nat → Prop} : qCal (sg_ria_i mc ms ci P Q) (.ref x2 :: .int x1 :: .ref o :: st) μ (c0, s0) rc rs k = (st.length ≤ 4 ∧ c0 + mc ≤ rc ∧ s0 + ms ≤ rs ∧ (∃ t, mS μ o = some (.inl (ci, t))) ∧ P o x1 x2 μ ∧ ∀ (r : Int32) (μ' : qMM), Q o x1 x2 μ r μ' → k (.int r :: st) μ' (c0 + mc, s0 + ms)) := by
  apply propext
  constructor
  · rintro ⟨-, h2, h3, h4, h5, h6⟩
    obtain ⟨y0, y1, y2, e, ht, hp⟩ := h5
    cases e
    exact ⟨h2, h3, h4, ht, hp, fun r μ' hq => h6 (some (.int r)) μ' (fun _ _ _ e => by cases e; exact ⟨r, rfl, hq⟩)⟩
  · rintro ⟨h2, h3, h4, ht, hp, h6⟩
    refine ⟨by simp [sg_ria_i], h2, h3, h4, ⟨o, x1, x2, rfl, ht, hp⟩, fun v μ' hq => ?_⟩
    obtain ⟨r, rfl, hq2⟩ := hq o x1 x2 rfl
    exact h6 _ _ hq2
theorem sg_ria_i_R {mc ms ci : Nat} {P : Nat → Int32 → Nat → qMM → Prop} {Q : Nat → Int32 → Nat → qMM → Int32 → qMM → Prop} {o : Nat} {x1 : Int32} {x2 : Nat} {μ : qMM} : (fun v μ' (cs : Nat × Nat) => (sg_ria_i mc ms ci P Q).2.2.1 [.ref o, .int x1, .ref x2] μ v μ' ∧ cs.1 ≤ mc ∧ cs.2 ≤ ms) = rti mc ms (Q o x1 x2 μ) := by
  funext v μ' cs
  apply propext
  refine and_congr_left fun _ => ⟨fun h => ?_, fun h => ?_⟩
  · exact h o x1 x2 rfl
  · intro _ _ _ e
    cases e
    exact h
theorem sg_ria_i_recv {mc ms ci : Nat} {P : Nat → Int32 → Nat → qMM → Prop} {Q : Nat → Int32 → Nat → qMM → Int32 → qMM → Prop} : qRecv (sg_ria_i mc ms ci P Q) ci 2 := by
  rintro av μ ⟨y0, y1, y2, rfl, ⟨t, ht⟩, -⟩
  exact ⟨_, _, t, rfl, rfl, ht⟩
def sg_ria_v (mc ms : Nat) (ci : Nat) (P : Nat → Int32 → Nat → qMM → Prop) (Q : Nat → Int32 → Nat → qMM → qMM → Prop) : qCS := (3, fun av μ => ∃ (o : Nat) (x1 : Int32) (x2 : Nat), av = [.ref o, .int x1, .ref x2] ∧ (∃ t, mS μ o = some (.inl (ci, t))) ∧ P o x1 x2 μ, fun av μ v μ' => ∀ (o : Nat) (x1 : Int32) (x2 : Nat), av = [.ref o, .int x1, .ref x2] → v = none ∧ Q o x1 x2 μ μ', mc, ms)
theorem sg_ria_v_call {mc ms ci : Nat} {P : Nat → Int32 → Nat → qMM → Prop} {Q : Nat → Int32 → Nat → qMM → qMM → Prop} {o : Nat} {x1 : Int32} {x2 : Nat} {st : List Value} {μ : qMM} {c0 s0 rc rs : Nat} {k : List Value → qMM → Nat × Nat → Prop} : qCal (sg_ria_v mc ms ci P Q) (.ref x2 :: .int x1 :: .ref o :: st) μ (c0, s0) rc rs k = (st.length ≤ 4 ∧ c0 + mc ≤ rc ∧ s0 + ms ≤ rs ∧ (∃ t, mS μ o = some (.inl (ci, t))) ∧ P o x1 x2 μ ∧ ∀ μ', Q o x1 x2 μ μ' → k st μ' (c0 + mc, s0 + ms)) := by
  apply propext
  constructor
  · rintro ⟨-, h2, h3, h4, h5, h6⟩
    obtain ⟨y0, y1, y2, e, ht, hp⟩ := h5
    cases e
    exact ⟨h2, h3, h4, ht, hp, fun μ' hq => h6 none μ' (fun _ _ _ e => by cases e; exact ⟨rfl, hq⟩)⟩
  · rintro ⟨h2, h3, h4, ht, hp, h6⟩
    refine ⟨by simp [sg_ria_v], h2, h3, h4, ⟨o, x1, x2, rfl, ht, hp⟩, fun v μ' hq => ?_⟩
    obtain ⟨rfl, hq2⟩ := hq o x1 x2 rfl
    exact h6 _ hq2
theorem sg_ria_v_R {mc ms ci : Nat} {P : Nat → Int32 → Nat → qMM → Prop} {Q : Nat → Int32 → Nat → qMM → qMM → Prop} {o : Nat} {x1 : Int32} {x2 : Nat} {μ : qMM} : (fun v μ' (cs : Nat × Nat) => (sg_ria_v mc ms ci P Q).2.2.1 [.ref o, .int x1, .ref x2] μ v μ' ∧ cs.1 ≤ mc ∧ cs.2 ≤ ms) = rtv mc ms (Q o x1 x2 μ) := by
  funext v μ' cs
  apply propext
  refine and_congr_left fun _ => ⟨fun h => ?_, fun h => ?_⟩
  · exact h o x1 x2 rfl
  · intro _ _ _ e
    cases e
    exact h
theorem sg_ria_v_recv {mc ms ci : Nat} {P : Nat → Int32 → Nat → qMM → Prop} {Q : Nat → Int32 → Nat → qMM → qMM → Prop} : qRecv (sg_ria_v mc ms ci P Q) ci 2 := by
  rintro av μ ⟨y0, y1, y2, rfl, ⟨t, ht⟩, -⟩
  exact ⟨_, _, t, rfl, rfl, ht⟩
def sg_rii_i (mc ms : Nat) (ci : Nat) (P : Nat → Int32 → Int32 → qMM → Prop) (Q : Nat → Int32 → Int32 → qMM → Int32 → qMM → Prop) : qCS := (3, fun av μ => ∃ (o : Nat) (x1 : Int32) (x2 : Int32), av = [.ref o, .int x1, .int x2] ∧ (∃ t, mS μ o = some (.inl (ci, t))) ∧ P o x1 x2 μ, fun av μ v μ' => ∀ (o : Nat) (x1 : Int32) (x2 : Int32), av = [.ref o, .int x1, .int x2] → ∃ r : Int32, v = some (.int r) ∧ Q o x1 x2 μ r μ', mc, ms)
theorem sg_rii_i_call {mc ms ci : Nat} {P : Nat → Int32 → Int32 → qMM → Prop} {Q : Nat → Int32 → Int32 → qMM → Int32 → qMM → Prop} {o : Nat} {x1 : Int32} {x2 : Int32} {st : List Value} {μ : qMM} {c0 s0 rc rs : Nat} {k : List Value → qMM → Nat × Nat → Prop} : qCal (sg_rii_i mc ms ci P Q) (.int x2 :: .int x1 :: .ref o :: st) μ (c0, s0) rc rs k = (st.length ≤ 4 ∧ c0 + mc ≤ rc ∧ s0 + ms ≤ rs ∧ (∃ t, mS μ o = some (.inl (ci, t))) ∧ P o x1 x2 μ ∧ ∀ (r : Int32) (μ' : qMM), Q o x1 x2 μ r μ' → k (.int r :: st) μ' (c0 + mc, s0 + ms)) := by
  apply propext
  constructor
  · rintro ⟨-, h2, h3, h4, h5, h6⟩
    obtain ⟨y0, y1, y2, e, ht, hp⟩ := h5
    cases e
    exact ⟨h2, h3, h4, ht, hp, fun r μ' hq => h6 (some (.int r)) μ' (fun _ _ _ e => by cases e; exact ⟨r, rfl, hq⟩)⟩
  · rintro ⟨h2, h3, h4, ht, hp, h6⟩
    refine ⟨by simp [sg_rii_i], h2, h3, h4, ⟨o, x1, x2, rfl, ht, hp⟩, fun v μ' hq => ?_⟩
    obtain ⟨r, rfl, hq2⟩ := hq o x1 x2 rfl
    exact h6 _ _ hq2
theorem sg_rii_i_R {mc ms ci : Nat} {P : Nat → Int32 → Int32 → qMM → Prop} {Q : Nat → Int32 → Int32 → qMM → Int32 → qMM → Prop} {o : Nat} {x1 : Int32} {x2 : Int32} {μ : qMM} : (fun v μ' (cs : Nat × Nat) => (sg_rii_i mc ms ci P Q).2.2.1 [.ref o, .int x1, .int x2] μ v μ' ∧ cs.1 ≤ mc ∧ cs.2 ≤ ms) = rti mc ms (Q o x1 x2 μ) := by
  funext v μ' cs
  apply propext
  refine and_congr_left fun _ => ⟨fun h => ?_, fun h => ?_⟩
  · exact h o x1 x2 rfl
  · intro _ _ _ e
    cases e
    exact h
theorem sg_rii_i_recv {mc ms ci : Nat} {P : Nat → Int32 → Int32 → qMM → Prop} {Q : Nat → Int32 → Int32 → qMM → Int32 → qMM → Prop} : qRecv (sg_rii_i mc ms ci P Q) ci 2 := by
  rintro av μ ⟨y0, y1, y2, rfl, ⟨t, ht⟩, -⟩
  exact ⟨_, _, t, rfl, rfl, ht⟩
def sg_riii_i (mc ms : Nat) (ci : Nat) (P : Nat → Int32 → Int32 → Int32 → qMM → Prop) (Q : Nat → Int32 → Int32 → Int32 → qMM → Int32 → qMM → Prop) : qCS := (4, fun av μ => ∃ (o : Nat) (x1 : Int32) (x2 : Int32) (x3 : Int32), av = [.ref o, .int x1, .int x2, .int x3] ∧ (∃ t, mS μ o = some (.inl (ci, t))) ∧ P o x1 x2 x3 μ, fun av μ v μ' => ∀ (o : Nat) (x1 : Int32) (x2 : Int32) (x3 : Int32), av = [.ref o, .int x1, .int x2, .int x3] → ∃ r : Int32, v = some (.int r) ∧ Q o x1 x2 x3 μ r μ', mc, ms)
theorem sg_riii_i_call {mc ms ci : Nat} {P : Nat → Int32 → Int32 → Int32 → qMM → Prop} {Q : Nat → Int32 → Int32 → Int32 → qMM → Int32 → qMM → Prop} {o : Nat} {x1 : Int32} {x2 : Int32} {x3 : Int32} {st : List Value} {μ : qMM} {c0 s0 rc rs : Nat} {k : List Value → qMM → Nat × Nat → Prop} : qCal (sg_riii_i mc ms ci P Q) (.int x3 :: .int x2 :: .int x1 :: .ref o :: st) μ (c0, s0) rc rs k = (st.length ≤ 4 ∧ c0 + mc ≤ rc ∧ s0 + ms ≤ rs ∧ (∃ t, mS μ o = some (.inl (ci, t))) ∧ P o x1 x2 x3 μ ∧ ∀ (r : Int32) (μ' : qMM), Q o x1 x2 x3 μ r μ' → k (.int r :: st) μ' (c0 + mc, s0 + ms)) := by
  apply propext
  constructor
  · rintro ⟨-, h2, h3, h4, h5, h6⟩
    obtain ⟨y0, y1, y2, y3, e, ht, hp⟩ := h5
    cases e
    exact ⟨h2, h3, h4, ht, hp, fun r μ' hq => h6 (some (.int r)) μ' (fun _ _ _ _ e => by cases e; exact ⟨r, rfl, hq⟩)⟩
  · rintro ⟨h2, h3, h4, ht, hp, h6⟩
    refine ⟨by simp [sg_riii_i], h2, h3, h4, ⟨o, x1, x2, x3, rfl, ht, hp⟩, fun v μ' hq => ?_⟩
    obtain ⟨r, rfl, hq2⟩ := hq o x1 x2 x3 rfl
    exact h6 _ _ hq2
theorem sg_riii_i_R {mc ms ci : Nat} {P : Nat → Int32 → Int32 → Int32 → qMM → Prop} {Q : Nat → Int32 → Int32 → Int32 → qMM → Int32 → qMM → Prop} {o : Nat} {x1 : Int32} {x2 : Int32} {x3 : Int32} {μ : qMM} : (fun v μ' (cs : Nat × Nat) => (sg_riii_i mc ms ci P Q).2.2.1 [.ref o, .int x1, .int x2, .int x3] μ v μ' ∧ cs.1 ≤ mc ∧ cs.2 ≤ ms) = rti mc ms (Q o x1 x2 x3 μ) := by
  funext v μ' cs
  apply propext
  refine and_congr_left fun _ => ⟨fun h => ?_, fun h => ?_⟩
  · exact h o x1 x2 x3 rfl
  · intro _ _ _ _ e
    cases e
    exact h
theorem sg_riii_i_recv {mc ms ci : Nat} {P : Nat → Int32 → Int32 → Int32 → qMM → Prop} {Q : Nat → Int32 → Int32 → Int32 → qMM → Int32 → qMM → Prop} : qRecv (sg_riii_i mc ms ci P Q) ci 3 := by
  rintro av μ ⟨y0, y1, y2, y3, rfl, ⟨t, ht⟩, -⟩
  exact ⟨_, _, t, rfl, rfl, ht⟩
def sg_sa_i (mc ms : Nat) (P : Nat → qMM → Prop) (Q : Nat → qMM → Int32 → qMM → Prop) : qCS := (1, fun av μ => ∃ (x1 : Nat), av = [.ref x1] ∧ P x1 μ, fun av μ v μ' => ∀ (x1 : Nat), av = [.ref x1] → ∃ r : Int32, v = some (.int r) ∧ Q x1 μ r μ', mc, ms)
theorem sg_sa_i_call {mc ms : Nat} {P : Nat → qMM → Prop} {Q : Nat → qMM → Int32 → qMM → Prop} {x1 : Nat} {st : List Value} {μ : qMM} {c0 s0 rc rs : Nat} {k : List Value → qMM → Nat × Nat → Prop} : qCal (sg_sa_i mc ms P Q) (.ref x1 :: st) μ (c0, s0) rc rs k = (st.length ≤ 4 ∧ c0 + mc ≤ rc ∧ s0 + ms ≤ rs ∧ P x1 μ ∧ ∀ (r : Int32) (μ' : qMM), Q x1 μ r μ' → k (.int r :: st) μ' (c0 + mc, s0 + ms)) := by
  apply propext
  constructor
  · rintro ⟨-, h2, h3, h4, h5, h6⟩
    obtain ⟨y0, e, hp⟩ := h5
    cases e
    exact ⟨h2, h3, h4, hp, fun r μ' hq => h6 (some (.int r)) μ' (fun _ e => by cases e; exact ⟨r, rfl, hq⟩)⟩
  · rintro ⟨h2, h3, h4, hp, h6⟩
    refine ⟨by simp [sg_sa_i], h2, h3, h4, ⟨x1, rfl, hp⟩, fun v μ' hq => ?_⟩
    obtain ⟨r, rfl, hq2⟩ := hq x1 rfl
    exact h6 _ _ hq2
theorem sg_sa_i_R {mc ms : Nat} {P : Nat → qMM → Prop} {Q : Nat → qMM → Int32 → qMM → Prop} {x1 : Nat} {μ : qMM} : (fun v μ' (cs : Nat × Nat) => (sg_sa_i mc ms P Q).2.2.1 [.ref x1] μ v μ' ∧ cs.1 ≤ mc ∧ cs.2 ≤ ms) = rti mc ms (Q x1 μ) := by
  funext v μ' cs
  apply propext
  refine and_congr_left fun _ => ⟨fun h => ?_, fun h => ?_⟩
  · exact h x1 rfl
  · intro _ e
    cases e
    exact h
def sg_saa_i (mc ms : Nat) (P : Nat → Nat → qMM → Prop) (Q : Nat → Nat → qMM → Int32 → qMM → Prop) : qCS := (2, fun av μ => ∃ (x1 : Nat) (x2 : Nat), av = [.ref x1, .ref x2] ∧ P x1 x2 μ, fun av μ v μ' => ∀ (x1 : Nat) (x2 : Nat), av = [.ref x1, .ref x2] → ∃ r : Int32, v = some (.int r) ∧ Q x1 x2 μ r μ', mc, ms)
theorem sg_saa_i_call {mc ms : Nat} {P : Nat → Nat → qMM → Prop} {Q : Nat → Nat → qMM → Int32 → qMM → Prop} {x1 : Nat} {x2 : Nat} {st : List Value} {μ : qMM} {c0 s0 rc rs : Nat} {k : List Value → qMM → Nat × Nat → Prop} : qCal (sg_saa_i mc ms P Q) (.ref x2 :: .ref x1 :: st) μ (c0, s0) rc rs k = (st.length ≤ 4 ∧ c0 + mc ≤ rc ∧ s0 + ms ≤ rs ∧ P x1 x2 μ ∧ ∀ (r : Int32) (μ' : qMM), Q x1 x2 μ r μ' → k (.int r :: st) μ' (c0 + mc, s0 + ms)) := by
  apply propext
  constructor
  · rintro ⟨-, h2, h3, h4, h5, h6⟩
    obtain ⟨y0, y1, e, hp⟩ := h5
    cases e
    exact ⟨h2, h3, h4, hp, fun r μ' hq => h6 (some (.int r)) μ' (fun _ _ e => by cases e; exact ⟨r, rfl, hq⟩)⟩
  · rintro ⟨h2, h3, h4, hp, h6⟩
    refine ⟨by simp [sg_saa_i], h2, h3, h4, ⟨x1, x2, rfl, hp⟩, fun v μ' hq => ?_⟩
    obtain ⟨r, rfl, hq2⟩ := hq x1 x2 rfl
    exact h6 _ _ hq2
theorem sg_saa_i_R {mc ms : Nat} {P : Nat → Nat → qMM → Prop} {Q : Nat → Nat → qMM → Int32 → qMM → Prop} {x1 : Nat} {x2 : Nat} {μ : qMM} : (fun v μ' (cs : Nat × Nat) => (sg_saa_i mc ms P Q).2.2.1 [.ref x1, .ref x2] μ v μ' ∧ cs.1 ≤ mc ∧ cs.2 ≤ ms) = rti mc ms (Q x1 x2 μ) := by
  funext v μ' cs
  apply propext
  refine and_congr_left fun _ => ⟨fun h => ?_, fun h => ?_⟩
  · exact h x1 x2 rfl
  · intro _ _ e
    cases e
    exact h
def sg_saa_v (mc ms : Nat) (P : Nat → Nat → qMM → Prop) (Q : Nat → Nat → qMM → qMM → Prop) : qCS := (2, fun av μ => ∃ (x1 : Nat) (x2 : Nat), av = [.ref x1, .ref x2] ∧ P x1 x2 μ, fun av μ v μ' => ∀ (x1 : Nat) (x2 : Nat), av = [.ref x1, .ref x2] → v = none ∧ Q x1 x2 μ μ', mc, ms)
theorem sg_saa_v_call {mc ms : Nat} {P : Nat → Nat → qMM → Prop} {Q : Nat → Nat → qMM → qMM → Prop} {x1 : Nat} {x2 : Nat} {st : List Value} {μ : qMM} {c0 s0 rc rs : Nat} {k : List Value → qMM → Nat × Nat → Prop} : qCal (sg_saa_v mc ms P Q) (.ref x2 :: .ref x1 :: st) μ (c0, s0) rc rs k = (st.length ≤ 4 ∧ c0 + mc ≤ rc ∧ s0 + ms ≤ rs ∧ P x1 x2 μ ∧ ∀ μ', Q x1 x2 μ μ' → k st μ' (c0 + mc, s0 + ms)) := by
  apply propext
  constructor
  · rintro ⟨-, h2, h3, h4, h5, h6⟩
    obtain ⟨y0, y1, e, hp⟩ := h5
    cases e
    exact ⟨h2, h3, h4, hp, fun μ' hq => h6 none μ' (fun _ _ e => by cases e; exact ⟨rfl, hq⟩)⟩
  · rintro ⟨h2, h3, h4, hp, h6⟩
    refine ⟨by simp [sg_saa_v], h2, h3, h4, ⟨x1, x2, rfl, hp⟩, fun v μ' hq => ?_⟩
    obtain ⟨rfl, hq2⟩ := hq x1 x2 rfl
    exact h6 _ hq2
theorem sg_saa_v_R {mc ms : Nat} {P : Nat → Nat → qMM → Prop} {Q : Nat → Nat → qMM → qMM → Prop} {x1 : Nat} {x2 : Nat} {μ : qMM} : (fun v μ' (cs : Nat × Nat) => (sg_saa_v mc ms P Q).2.2.1 [.ref x1, .ref x2] μ v μ' ∧ cs.1 ≤ mc ∧ cs.2 ≤ ms) = rtv mc ms (Q x1 x2 μ) := by
  funext v μ' cs
  apply propext
  refine and_congr_left fun _ => ⟨fun h => ?_, fun h => ?_⟩
  · exact h x1 x2 rfl
  · intro _ _ e
    cases e
    exact h
def sg_saaa_v (mc ms : Nat) (P : Nat → Nat → Nat → qMM → Prop) (Q : Nat → Nat → Nat → qMM → qMM → Prop) : qCS := (3, fun av μ => ∃ (x1 : Nat) (x2 : Nat) (x3 : Nat), av = [.ref x1, .ref x2, .ref x3] ∧ P x1 x2 x3 μ, fun av μ v μ' => ∀ (x1 : Nat) (x2 : Nat) (x3 : Nat), av = [.ref x1, .ref x2, .ref x3] → v = none ∧ Q x1 x2 x3 μ μ', mc, ms)
theorem sg_saaa_v_call {mc ms : Nat} {P : Nat → Nat → Nat → qMM → Prop} {Q : Nat → Nat → Nat → qMM → qMM → Prop} {x1 : Nat} {x2 : Nat} {x3 : Nat} {st : List Value} {μ : qMM} {c0 s0 rc rs : Nat} {k : List Value → qMM → Nat × Nat → Prop} : qCal (sg_saaa_v mc ms P Q) (.ref x3 :: .ref x2 :: .ref x1 :: st) μ (c0, s0) rc rs k = (st.length ≤ 4 ∧ c0 + mc ≤ rc ∧ s0 + ms ≤ rs ∧ P x1 x2 x3 μ ∧ ∀ μ', Q x1 x2 x3 μ μ' → k st μ' (c0 + mc, s0 + ms)) := by
  apply propext
  constructor
  · rintro ⟨-, h2, h3, h4, h5, h6⟩
    obtain ⟨y0, y1, y2, e, hp⟩ := h5
    cases e
    exact ⟨h2, h3, h4, hp, fun μ' hq => h6 none μ' (fun _ _ _ e => by cases e; exact ⟨rfl, hq⟩)⟩
  · rintro ⟨h2, h3, h4, hp, h6⟩
    refine ⟨by simp [sg_saaa_v], h2, h3, h4, ⟨x1, x2, x3, rfl, hp⟩, fun v μ' hq => ?_⟩
    obtain ⟨rfl, hq2⟩ := hq x1 x2 x3 rfl
    exact h6 _ hq2
theorem sg_saaa_v_R {mc ms : Nat} {P : Nat → Nat → Nat → qMM → Prop} {Q : Nat → Nat → Nat → qMM → qMM → Prop} {x1 : Nat} {x2 : Nat} {x3 : Nat} {μ : qMM} : (fun v μ' (cs : Nat × Nat) => (sg_saaa_v mc ms P Q).2.2.1 [.ref x1, .ref x2, .ref x3] μ v μ' ∧ cs.1 ≤ mc ∧ cs.2 ≤ ms) = rtv mc ms (Q x1 x2 x3 μ) := by
  funext v μ' cs
  apply propext
  refine and_congr_left fun _ => ⟨fun h => ?_, fun h => ?_⟩
  · exact h x1 x2 x3 rfl
  · intro _ _ _ e
    cases e
    exact h
def sg_saaii_v (mc ms : Nat) (P : Nat → Nat → Int32 → Int32 → qMM → Prop) (Q : Nat → Nat → Int32 → Int32 → qMM → qMM → Prop) : qCS := (4, fun av μ => ∃ (x1 : Nat) (x2 : Nat) (x3 : Int32) (x4 : Int32), av = [.ref x1, .ref x2, .int x3, .int x4] ∧ P x1 x2 x3 x4 μ, fun av μ v μ' => ∀ (x1 : Nat) (x2 : Nat) (x3 : Int32) (x4 : Int32), av = [.ref x1, .ref x2, .int x3, .int x4] → v = none ∧ Q x1 x2 x3 x4 μ μ', mc, ms)
theorem sg_saaii_v_call {mc ms : Nat} {P : Nat → Nat → Int32 → Int32 → qMM → Prop} {Q : Nat → Nat → Int32 → Int32 → qMM → qMM → Prop} {x1 : Nat} {x2 : Nat} {x3 : Int32} {x4 : Int32} {st : List Value} {μ : qMM} {c0 s0 rc rs : Nat} {k : List Value → qMM → Nat × Nat → Prop} : qCal (sg_saaii_v mc ms P Q) (.int x4 :: .int x3 :: .ref x2 :: .ref x1 :: st) μ (c0, s0) rc rs k = (st.length ≤ 4 ∧ c0 + mc ≤ rc ∧ s0 + ms ≤ rs ∧ P x1 x2 x3 x4 μ ∧ ∀ μ', Q x1 x2 x3 x4 μ μ' → k st μ' (c0 + mc, s0 + ms)) := by
  apply propext
  constructor
  · rintro ⟨-, h2, h3, h4, h5, h6⟩
    obtain ⟨y0, y1, y2, y3, e, hp⟩ := h5
    cases e
    exact ⟨h2, h3, h4, hp, fun μ' hq => h6 none μ' (fun _ _ _ _ e => by cases e; exact ⟨rfl, hq⟩)⟩
  · rintro ⟨h2, h3, h4, hp, h6⟩
    refine ⟨by simp [sg_saaii_v], h2, h3, h4, ⟨x1, x2, x3, x4, rfl, hp⟩, fun v μ' hq => ?_⟩
    obtain ⟨rfl, hq2⟩ := hq x1 x2 x3 x4 rfl
    exact h6 _ hq2
theorem sg_saaii_v_R {mc ms : Nat} {P : Nat → Nat → Int32 → Int32 → qMM → Prop} {Q : Nat → Nat → Int32 → Int32 → qMM → qMM → Prop} {x1 : Nat} {x2 : Nat} {x3 : Int32} {x4 : Int32} {μ : qMM} : (fun v μ' (cs : Nat × Nat) => (sg_saaii_v mc ms P Q).2.2.1 [.ref x1, .ref x2, .int x3, .int x4] μ v μ' ∧ cs.1 ≤ mc ∧ cs.2 ≤ ms) = rtv mc ms (Q x1 x2 x3 x4 μ) := by
  funext v μ' cs
  apply propext
  refine and_congr_left fun _ => ⟨fun h => ?_, fun h => ?_⟩
  · exact h x1 x2 x3 x4 rfl
  · intro _ _ _ _ e
    cases e
    exact h
def sg_sai_v (mc ms : Nat) (P : Nat → Int32 → qMM → Prop) (Q : Nat → Int32 → qMM → qMM → Prop) : qCS := (2, fun av μ => ∃ (x1 : Nat) (x2 : Int32), av = [.ref x1, .int x2] ∧ P x1 x2 μ, fun av μ v μ' => ∀ (x1 : Nat) (x2 : Int32), av = [.ref x1, .int x2] → v = none ∧ Q x1 x2 μ μ', mc, ms)
theorem sg_sai_v_call {mc ms : Nat} {P : Nat → Int32 → qMM → Prop} {Q : Nat → Int32 → qMM → qMM → Prop} {x1 : Nat} {x2 : Int32} {st : List Value} {μ : qMM} {c0 s0 rc rs : Nat} {k : List Value → qMM → Nat × Nat → Prop} : qCal (sg_sai_v mc ms P Q) (.int x2 :: .ref x1 :: st) μ (c0, s0) rc rs k = (st.length ≤ 4 ∧ c0 + mc ≤ rc ∧ s0 + ms ≤ rs ∧ P x1 x2 μ ∧ ∀ μ', Q x1 x2 μ μ' → k st μ' (c0 + mc, s0 + ms)) := by
  apply propext
  constructor
  · rintro ⟨-, h2, h3, h4, h5, h6⟩
    obtain ⟨y0, y1, e, hp⟩ := h5
    cases e
    exact ⟨h2, h3, h4, hp, fun μ' hq => h6 none μ' (fun _ _ e => by cases e; exact ⟨rfl, hq⟩)⟩
  · rintro ⟨h2, h3, h4, hp, h6⟩
    refine ⟨by simp [sg_sai_v], h2, h3, h4, ⟨x1, x2, rfl, hp⟩, fun v μ' hq => ?_⟩
    obtain ⟨rfl, hq2⟩ := hq x1 x2 rfl
    exact h6 _ hq2
theorem sg_sai_v_R {mc ms : Nat} {P : Nat → Int32 → qMM → Prop} {Q : Nat → Int32 → qMM → qMM → Prop} {x1 : Nat} {x2 : Int32} {μ : qMM} : (fun v μ' (cs : Nat × Nat) => (sg_sai_v mc ms P Q).2.2.1 [.ref x1, .int x2] μ v μ' ∧ cs.1 ≤ mc ∧ cs.2 ≤ ms) = rtv mc ms (Q x1 x2 μ) := by
  funext v μ' cs
  apply propext
  refine and_congr_left fun _ => ⟨fun h => ?_, fun h => ?_⟩
  · exact h x1 x2 rfl
  · intro _ _ e
    cases e
    exact h
def sg_si_i (mc ms : Nat) (P : Int32 → qMM → Prop) (Q : Int32 → qMM → Int32 → qMM → Prop) : qCS := (1, fun av μ => ∃ (x1 : Int32), av = [.int x1] ∧ P x1 μ, fun av μ v μ' => ∀ (x1 : Int32), av = [.int x1] → ∃ r : Int32, v = some (.int r) ∧ Q x1 μ r μ', mc, ms)
theorem sg_si_i_call {mc ms : Nat} {P : Int32 → qMM → Prop} {Q : Int32 → qMM → Int32 → qMM → Prop} {x1 : Int32} {st : List Value} {μ : qMM} {c0 s0 rc rs : Nat} {k : List Value → qMM → Nat × Nat → Prop} : qCal (sg_si_i mc ms P Q) (.int x1 :: st) μ (c0, s0) rc rs k = (st.length ≤ 4 ∧ c0 + mc ≤ rc ∧ s0 + ms ≤ rs ∧ P x1 μ ∧ ∀ (r : Int32) (μ' : qMM), Q x1 μ r μ' → k (.int r :: st) μ' (c0 + mc, s0 + ms)) := by
  apply propext
  constructor
  · rintro ⟨-, h2, h3, h4, h5, h6⟩
    obtain ⟨y0, e, hp⟩ := h5
    cases e
    exact ⟨h2, h3, h4, hp, fun r μ' hq => h6 (some (.int r)) μ' (fun _ e => by cases e; exact ⟨r, rfl, hq⟩)⟩
  · rintro ⟨h2, h3, h4, hp, h6⟩
    refine ⟨by simp [sg_si_i], h2, h3, h4, ⟨x1, rfl, hp⟩, fun v μ' hq => ?_⟩
    obtain ⟨r, rfl, hq2⟩ := hq x1 rfl
    exact h6 _ _ hq2
theorem sg_si_i_R {mc ms : Nat} {P : Int32 → qMM → Prop} {Q : Int32 → qMM → Int32 → qMM → Prop} {x1 : Int32} {μ : qMM} : (fun v μ' (cs : Nat × Nat) => (sg_si_i mc ms P Q).2.2.1 [.int x1] μ v μ' ∧ cs.1 ≤ mc ∧ cs.2 ≤ ms) = rti mc ms (Q x1 μ) := by
  funext v μ' cs
  apply propext
  refine and_congr_left fun _ => ⟨fun h => ?_, fun h => ?_⟩
  · exact h x1 rfl
  · intro _ e
    cases e
    exact h
def sg_sii_i (mc ms : Nat) (P : Int32 → Int32 → qMM → Prop) (Q : Int32 → Int32 → qMM → Int32 → qMM → Prop) : qCS := (2, fun av μ => ∃ (x1 : Int32) (x2 : Int32), av = [.int x1, .int x2] ∧ P x1 x2 μ, fun av μ v μ' => ∀ (x1 : Int32) (x2 : Int32), av = [.int x1, .int x2] → ∃ r : Int32, v = some (.int r) ∧ Q x1 x2 μ r μ', mc, ms)
theorem sg_sii_i_call {mc ms : Nat} {P : Int32 → Int32 → qMM → Prop} {Q : Int32 → Int32 → qMM → Int32 → qMM → Prop} {x1 : Int32} {x2 : Int32} {st : List Value} {μ : qMM} {c0 s0 rc rs : Nat} {k : List Value → qMM → Nat × Nat → Prop} : qCal (sg_sii_i mc ms P Q) (.int x2 :: .int x1 :: st) μ (c0, s0) rc rs k = (st.length ≤ 4 ∧ c0 + mc ≤ rc ∧ s0 + ms ≤ rs ∧ P x1 x2 μ ∧ ∀ (r : Int32) (μ' : qMM), Q x1 x2 μ r μ' → k (.int r :: st) μ' (c0 + mc, s0 + ms)) := by
  apply propext
  constructor
  · rintro ⟨-, h2, h3, h4, h5, h6⟩
    obtain ⟨y0, y1, e, hp⟩ := h5
    cases e
    exact ⟨h2, h3, h4, hp, fun r μ' hq => h6 (some (.int r)) μ' (fun _ _ e => by cases e; exact ⟨r, rfl, hq⟩)⟩
  · rintro ⟨h2, h3, h4, hp, h6⟩
    refine ⟨by simp [sg_sii_i], h2, h3, h4, ⟨x1, x2, rfl, hp⟩, fun v μ' hq => ?_⟩
    obtain ⟨r, rfl, hq2⟩ := hq x1 x2 rfl
    exact h6 _ _ hq2
theorem sg_sii_i_R {mc ms : Nat} {P : Int32 → Int32 → qMM → Prop} {Q : Int32 → Int32 → qMM → Int32 → qMM → Prop} {x1 : Int32} {x2 : Int32} {μ : qMM} : (fun v μ' (cs : Nat × Nat) => (sg_sii_i mc ms P Q).2.2.1 [.int x1, .int x2] μ v μ' ∧ cs.1 ≤ mc ∧ cs.2 ≤ ms) = rti mc ms (Q x1 x2 μ) := by
  funext v μ' cs
  apply propext
  refine and_congr_left fun _ => ⟨fun h => ?_, fun h => ?_⟩
  · exact h x1 x2 rfl
  · intro _ _ e
    cases e
    exact h
def sg_siii_i (mc ms : Nat) (P : Int32 → Int32 → Int32 → qMM → Prop) (Q : Int32 → Int32 → Int32 → qMM → Int32 → qMM → Prop) : qCS := (3, fun av μ => ∃ (x1 : Int32) (x2 : Int32) (x3 : Int32), av = [.int x1, .int x2, .int x3] ∧ P x1 x2 x3 μ, fun av μ v μ' => ∀ (x1 : Int32) (x2 : Int32) (x3 : Int32), av = [.int x1, .int x2, .int x3] → ∃ r : Int32, v = some (.int r) ∧ Q x1 x2 x3 μ r μ', mc, ms)
theorem sg_siii_i_call {mc ms : Nat} {P : Int32 → Int32 → Int32 → qMM → Prop} {Q : Int32 → Int32 → Int32 → qMM → Int32 → qMM → Prop} {x1 : Int32} {x2 : Int32} {x3 : Int32} {st : List Value} {μ : qMM} {c0 s0 rc rs : Nat} {k : List Value → qMM → Nat × Nat → Prop} : qCal (sg_siii_i mc ms P Q) (.int x3 :: .int x2 :: .int x1 :: st) μ (c0, s0) rc rs k = (st.length ≤ 4 ∧ c0 + mc ≤ rc ∧ s0 + ms ≤ rs ∧ P x1 x2 x3 μ ∧ ∀ (r : Int32) (μ' : qMM), Q x1 x2 x3 μ r μ' → k (.int r :: st) μ' (c0 + mc, s0 + ms)) := by
  apply propext
  constructor
  · rintro ⟨-, h2, h3, h4, h5, h6⟩
    obtain ⟨y0, y1, y2, e, hp⟩ := h5
    cases e
    exact ⟨h2, h3, h4, hp, fun r μ' hq => h6 (some (.int r)) μ' (fun _ _ _ e => by cases e; exact ⟨r, rfl, hq⟩)⟩
  · rintro ⟨h2, h3, h4, hp, h6⟩
    refine ⟨by simp [sg_siii_i], h2, h3, h4, ⟨x1, x2, x3, rfl, hp⟩, fun v μ' hq => ?_⟩
    obtain ⟨r, rfl, hq2⟩ := hq x1 x2 x3 rfl
    exact h6 _ _ hq2
theorem sg_siii_i_R {mc ms : Nat} {P : Int32 → Int32 → Int32 → qMM → Prop} {Q : Int32 → Int32 → Int32 → qMM → Int32 → qMM → Prop} {x1 : Int32} {x2 : Int32} {x3 : Int32} {μ : qMM} : (fun v μ' (cs : Nat × Nat) => (sg_siii_i mc ms P Q).2.2.1 [.int x1, .int x2, .int x3] μ v μ' ∧ cs.1 ≤ mc ∧ cs.2 ≤ ms) = rti mc ms (Q x1 x2 x3 μ) := by
  funext v μ' cs
  apply propext
  refine and_congr_left fun _ => ⟨fun h => ?_, fun h => ?_⟩
  · exact h x1 x2 x3 rfl
  · intro _ _ _ e
    cases e
    exact h
