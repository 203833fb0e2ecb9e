/-! ===== inits: what its methods ask and say; steps and equations by program (wip/gen) ===== -/
/-! constructors: a new object at o, what comes behind it -/
theorem mS_mk1 {μ : qMM} {n b : Nat} {t : qTm} : mS (mk1 μ n t) b = if b = n then some t else mS μ b := by cases μ; rfl
theorem mN_mk1 {μ : qMM} {n : Nat} {t : qTm} : mN (mk1 μ n t) = some (n + 1) := by cases μ; rfl
theorem mI_mk1 {μ : qMM} {n b : Nat} {t : qTm} : mI (mk1 μ n t) b = if b = n then fun _ => 0 else mI μ b := by cases μ; rfl
theorem mJ_mk1 {μ : qMM} {n b : Nat} {t : qTm} : mJ (mk1 μ n t) b = if b = n then fun _ => 0 else mJ μ b := by cases μ; rfl
theorem mS_wT {μ : qMM} {a b : Nat} {t : qTm} : mS (wT μ a t) b = if b = a then some t else mS μ b := by cases μ; rfl
theorem mN_wT {μ : qMM} {a : Nat} {t : qTm} : mN (wT μ a t) = mN μ := by cases μ; rfl
theorem mI_wT {μ : qMM} {a b : Nat} {t : qTm} : mI (wT μ a t) b = mI μ b := by cases μ; rfl
theorem mJ_wT {μ : qMM} {a b : Nat} {t : qTm} : mJ (wT μ a t) b = mJ μ b := by cases μ; rfl
theorem mS_mkM {μ : qMM} {n N K b : Nat} : mS (mkM μ n N K) b = if b = n then some (.inr (2, N, fun i => if i < N then some (n + 1 + i) else none)) else if n < b ∧ b < n + 1 + N then some (.inr (0, K, fun _ => none)) else mS μ b := by cases μ; rfl
theorem mN_mkM {μ : qMM} {n N K : Nat} : mN (mkM μ n N K) = some (n + 1 + N) := by cases μ; rfl
theorem mI_mkM {μ : qMM} {n N K b : Nat} : mI (mkM μ n N K) b = if n ≤ b ∧ b < n + 1 + N then fun _ => 0 else mI μ b := by cases μ; rfl
theorem mJ_mkM {μ : qMM} {n N K b : Nat} : mJ (mkM μ n N K) b = if n ≤ b ∧ b < n + 1 + N then fun _ => 0 else mJ μ b := by cases μ; rfl
theorem qNwA_at {tg n N : Nat} {x : Int32} {μ : qMM} {c s rc rs : Nat} {k : Nat → qMM → Nat × Nat → Prop} (h : mN μ = some n) (h0 : ¬ x < 0) (hN : x.toNatClampNeg = N) (h6 : N ≤ 65536) : qNwA tg x μ (c, s) rc rs k = (c + 1 ≤ rc ∧ s + N ≤ rs ∧ k n (mk1 μ n (.inr (tg, N, fun _ => none))) (c + 1, s + N)) := by
  unfold qNwA
  rw [h, hN]
  simp [h0, h6]
theorem qNwM_at {n N K : Nat} {x y : Int32} {μ : qMM} {c s rc rs : Nat} {k : Nat → qMM → Nat × Nat → Prop} (h : mN μ = some n) (h0 : ¬ x < 0) (h1 : ¬ y < 0) (hN : x.toNatClampNeg = N) (hK : y.toNatClampNeg = K) (h6 : N ≤ 65536) (h7 : K ≤ 65536) : qNwM x y μ (c, s) rc rs k = (c + (1 + N) ≤ rc ∧ s + (N + N * K) ≤ rs ∧ k n (mkM μ n N K) (c + (1 + N), s + (N + N * K))) := by
  unfold qNwM
  rw [h, hN, hK]
  simp [h0, h1, h6, h7]
theorem qNwO_at {n ci N : Nat} {t : List Value} {μ : qMM} {c s rc rs : Nat} {k : Nat → qMM → Nat × Nat → Prop} (h : mN μ = some n) (h0 : ¬ ci = 99) : qNwO (some (ci, N, t)) μ (c, s) rc rs k = (c + 1 ≤ rc ∧ s + N ≤ rs ∧ k n (mk1 μ n (.inl (ci, t))) (c + 1, s + N)) := by
  unfold qNwO
  rw [h]
  simp [h0]
theorem qPut_r {μ : qMM} {a ci j b : Nat} {ty : FieldType} {t : List Value} {k : qMM → Prop} (h : mS μ a = some (.inl (ci, t))) (ht : t[j]? = some .null) (hk : qOkR ty) : qPut μ a ci j ty (.ref b) k = k (wT μ a (.inl (ci, t.set j (.ref b)))) := by
  unfold qPut
  rw [h]
  simp [ht, hk]
theorem qPut_i {μ : qMM} {a ci j : Nat} {x y : Int32} {t : List Value} {k : qMM → Prop} (h : mS μ a = some (.inl (ci, t))) (ht : t[j]? = some (.int y)) : qPut μ a ci j .int (.int x) k = k (wI μ a j x) := by
  unfold qPut
  rw [h]
  simp [ht, qOk]
theorem qPut_z {μ : qMM} {a ci j : Nat} {x y : Int32} {t : List Value} {k : qMM → Prop} (h : mS μ a = some (.inl (ci, t))) (ht : t[j]? = some (.int y)) (hx : x = 0 ∨ x = 1) : qPut μ a ci j .boolean (.int x) k = k (wI μ a j x) := by
  unfold qPut
  rw [h]
  simp [ht, qOk, hx]
def NwP (ci : Nat) (t : List Value) (o : Nat) (μ : qMM) : Prop := mS μ o = some (.inl (ci, t)) ∧ mN μ = some (o + 1) ∧ mI μ o = fun _ => 0
def NwQ (o N : Nat) (μ μ' : qMM) : Prop := mN μ' = some (o + 1 + N) ∧ ∀ b, b < o → mS μ' b = mS μ b ∧ mI μ' b = mI μ b ∧ mJ μ' b = mJ μ b
def zI : Nat → Int32 := fun _ => 0
def PX0_init (o : Nat) (μ : qMM) : Prop := NwP 0 [.null, .int 0] o μ
def QX0_init (o : Nat) (μ μ' : qMM) : Prop := NwQ o 1 μ μ' ∧ LkS μ' o ∧ mI μ' o = zI ∧ mI μ' (o + 1) = zI
def PX4_init (o : Nat) (μ : qMM) : Prop := NwP 3 [.null, .int 0, .null, .null, .int 0] o μ
def QX4_init (o : Nat) (μ μ' : qMM) : Prop := NwQ o 3 μ μ' ∧ ScS μ' o ∧ mI μ' o = zI ∧ ∀ b, o ≤ b → b < o + 4 → mI μ' b = zI
def spX0_init : qCS := sg_r_v 1 20 0 PX0_init QX0_init
def spX4_init : qCS := sg_r_v 3 200 3 PX4_init QX4_init
def calX0_init : Nat → Option (Nat × qCS) := fun n => match n with
  | 3 => some (2, spObj)
  | _ => none
def SX0_init (R : Option Value → qMM → Nat × Nat → Prop) (X : String → qMM → Nat × Nat → Prop) : qST := stepOf cX0_init fX0 calX0_init kX0 jX0 nX0 (fun _ => none) (fun _ => none) true none 1 20 R X
theorem eX0_init_0 {R : Option Value → qMM → Nat × Nat → Prop} {X : String → qMM → Nat × Nat → Prop} {x : Nat} {st : List Value} {μ : qMM} {c0 s0 : Nat} : EX (SX0_init R X) 0 [some (.ref x)] [] (st) μ (c0, s0) = EX (SX0_init R X) 1 [some (.ref x)] [] (.ref x :: st) μ (c0, s0) := (EX_at dX0_init_0 rfl _ _ _ _ _).trans rfl
theorem eX0_init_1 {R : Option Value → qMM → Nat × Nat → Prop} {X : String → qMM → Nat × Nat → Prop} {a0 : Option Value} {x : Nat} {st : List Value} {μ : qMM} {c0 s0 : Nat} : EX (SX0_init R X) 1 [a0] [] (.ref x :: st) μ (c0, s0) = (st.length ≤ 4 ∧ c0 ≤ 1 ∧ s0 ≤ 20 ∧ (∃ t, mS μ x = some t) ∧ EX (SX0_init R X) 4 [a0] [] (st) μ (c0, s0)) := (EX_at dX0_init_1 rfl _ _ _ _ _).trans (spObj_call (k := fun st' μ' cs' => EX (SX0_init R X) 4 [a0] [] st' μ' cs'))
theorem eX0_init_4 {R : Option Value → qMM → Nat × Nat → Prop} {X : String → qMM → Nat × Nat → Prop} {x : Nat} {st : List Value} {μ : qMM} {c0 s0 : Nat} : EX (SX0_init R X) 4 [some (.ref x)] [] (st) μ (c0, s0) = EX (SX0_init R X) 5 [some (.ref x)] [] (.ref x :: st) μ (c0, s0) := (EX_at dX0_init_4 rfl _ _ _ _ _).trans rfl
theorem eX0_init_5 {R : Option Value → qMM → Nat × Nat → Prop} {X : String → qMM → Nat × Nat → Prop} {a0 : Option Value} {st : List Value} {μ : qMM} {c0 s0 : Nat} : EX (SX0_init R X) 5 [a0] [] (st) μ (c0, s0) = EX (SX0_init R X) 7 [a0] [] (.int 20 :: st) μ (c0, s0) := (EX_at dX0_init_5 rfl _ _ _ _ _).trans (congrArg (fun v => EX (SX0_init R X) 7 [a0] [] (.int v :: st) μ (c0, s0)) cb_20)
theorem eX0_init_7 {R : Option Value → qMM → Nat × Nat → Prop} {X : String → qMM → Nat × Nat → Prop} {a0 : Option Value} {x : Int32} {st : List Value} {μ : qMM} {c0 s0 : Nat} : EX (SX0_init R X) 7 [a0] [] (.int x :: st) μ (c0, s0) = qNwA 0 x μ (c0, s0) 1 20 (fun n μ' cs' => EX (SX0_init R X) 9 [a0] [] (.ref n :: st) μ' cs') := (EX_at dX0_init_7 rfl _ _ _ _ _).trans rfl
theorem eX0_init_9 {R : Option Value → qMM → Nat × Nat → Prop} {X : String → qMM → Nat × Nat → Prop} {a0 : Option Value} {x : Nat} {v : Value} {st : List Value} {μ : qMM} {c0 s0 : Nat} : EX (SX0_init R X) 9 [a0] [] (v :: .ref x :: st) μ (c0, s0) = qPut μ x 0 0 (.array .int) v (fun μ' => EX (SX0_init R X) 12 [a0] [] (st) μ' (c0, s0)) := (EX_at dX0_init_9 rfl _ _ _ _ _).trans rfl
theorem eX0_init_12 {R : Option Value → qMM → Nat × Nat → Prop} {X : String → qMM → Nat × Nat → Prop} {x : Nat} {st : List Value} {μ : qMM} {c0 s0 : Nat} : EX (SX0_init R X) 12 [some (.ref x)] [] (st) μ (c0, s0) = EX (SX0_init R X) 13 [some (.ref x)] [] (.ref x :: st) μ (c0, s0) := (EX_at dX0_init_12 rfl _ _ _ _ _).trans rfl
theorem eX0_init_13 {R : Option Value → qMM → Nat × Nat → Prop} {X : String → qMM → Nat × Nat → Prop} {a0 : Option Value} {st : List Value} {μ : qMM} {c0 s0 : Nat} : EX (SX0_init R X) 13 [a0] [] (st) μ (c0, s0) = EX (SX0_init R X) 14 [a0] [] (.int 0 :: st) μ (c0, s0) := (EX_at dX0_init_13 rfl _ _ _ _ _).trans (congrArg (fun v => EX (SX0_init R X) 14 [a0] [] (.int v :: st) μ (c0, s0)) ci_0)
theorem eX0_init_14 {R : Option Value → qMM → Nat × Nat → Prop} {X : String → qMM → Nat × Nat → Prop} {a0 : Option Value} {x : Nat} {v : Value} {st : List Value} {μ : qMM} {c0 s0 : Nat} : EX (SX0_init R X) 14 [a0] [] (v :: .ref x :: st) μ (c0, s0) = qPut μ x 0 1 (.int) v (fun μ' => EX (SX0_init R X) 17 [a0] [] (st) μ' (c0, s0)) := (EX_at dX0_init_14 rfl _ _ _ _ _).trans rfl
theorem eX0_init_17 {R : Option Value → qMM → Nat × Nat → Prop} {X : String → qMM → Nat × Nat → Prop} {a0 : Option Value} {μ : qMM} {c0 s0 : Nat} : EX (SX0_init R X) 17 [a0] [] [] μ (c0, s0) = R (none) μ (c0, s0) := (EX_at dX0_init_17 rfl _ _ _ _ _).trans rfl
def calX4_init : Nat → Option (Nat × qCS) := fun n => match n with
  | 3 => some (2, spObj)
  | _ => none
def SX4_init (R : Option Value → qMM → Nat × Nat → Prop) (X : String → qMM → Nat × Nat → Prop) : qST := stepOf cX4_init fX4 calX4_init kX4 jX4 nX4 (fun _ => none) (fun _ => none) true none 3 200 R X
theorem eX4_init_0 {R : Option Value → qMM → Nat × Nat → Prop} {X : String → qMM → Nat × Nat → Prop} {x : Nat} {st : List Value} {μ : qMM} {c0 s0 : Nat} : EX (SX4_init R X) 0 [some (.ref x)] [] (st) μ (c0, s0) = EX (SX4_init R X) 1 [some (.ref x)] [] (.ref x :: st) μ (c0, s0) := (EX_at dX4_init_0 rfl _ _ _ _ _).trans rfl
theorem eX4_init_1 {R : Option Value → qMM → Nat × Nat → Prop} {X : String → qMM → Nat × Nat → Prop} {a0 : Option Value} {x : Nat} {st : List Value} {μ : qMM} {c0 s0 : Nat} : EX (SX4_init R X) 1 [a0] [] (.ref x :: st) μ (c0, s0) = (st.length ≤ 4 ∧ c0 ≤ 3 ∧ s0 ≤ 200 ∧ (∃ t, mS μ x = some t) ∧ EX (SX4_init R X) 4 [a0] [] (st) μ (c0, s0)) := (EX_at dX4_init_1 rfl _ _ _ _ _).trans (spObj_call (k := fun st' μ' cs' => EX (SX4_init R X) 4 [a0] [] st' μ' cs'))
theorem eX4_init_4 {R : Option Value → qMM → Nat × Nat → Prop} {X : String → qMM → Nat × Nat → Prop} {x : Nat} {st : List Value} {μ : qMM} {c0 s0 : Nat} : EX (SX4_init R X) 4 [some (.ref x)] [] (st) μ (c0, s0) = EX (SX4_init R X) 5 [some (.ref x)] [] (.ref x :: st) μ (c0, s0) := (EX_at dX4_init_4 rfl _ _ _ _ _).trans rfl
theorem eX4_init_5 {R : Option Value → qMM → Nat × Nat → Prop} {X : String → qMM → Nat × Nat → Prop} {a0 : Option Value} {st : List Value} {μ : qMM} {c0 s0 : Nat} : EX (SX4_init R X) 5 [a0] [] (st) μ (c0, s0) = EX (SX4_init R X) 7 [a0] [] (.int 100 :: st) μ (c0, s0) := (EX_at dX4_init_5 rfl _ _ _ _ _).trans (congrArg (fun v => EX (SX4_init R X) 7 [a0] [] (.int v :: st) μ (c0, s0)) cb_100)
theorem eX4_init_7 {R : Option Value → qMM → Nat × Nat → Prop} {X : String → qMM → Nat × Nat → Prop} {a0 : Option Value} {x : Int32} {st : List Value} {μ : qMM} {c0 s0 : Nat} : EX (SX4_init R X) 7 [a0] [] (.int x :: st) μ (c0, s0) = qNwA 0 x μ (c0, s0) 3 200 (fun n μ' cs' => EX (SX4_init R X) 9 [a0] [] (.ref n :: st) μ' cs') := (EX_at dX4_init_7 rfl _ _ _ _ _).trans rfl
theorem eX4_init_9 {R : Option Value → qMM → Nat × Nat → Prop} {X : String → qMM → Nat × Nat → Prop} {a0 : Option Value} {x : Nat} {v : Value} {st : List Value} {μ : qMM} {c0 s0 : Nat} : EX (SX4_init R X) 9 [a0] [] (v :: .ref x :: st) μ (c0, s0) = qPut μ x 3 0 (.array .int) v (fun μ' => EX (SX4_init R X) 12 [a0] [] (st) μ' (c0, s0)) := (EX_at dX4_init_9 rfl _ _ _ _ _).trans rfl
theorem eX4_init_12 {R : Option Value → qMM → Nat × Nat → Prop} {X : String → qMM → Nat × Nat → Prop} {x : Nat} {st : List Value} {μ : qMM} {c0 s0 : Nat} : EX (SX4_init R X) 12 [some (.ref x)] [] (st) μ (c0, s0) = EX (SX4_init R X) 13 [some (.ref x)] [] (.ref x :: st) μ (c0, s0) := (EX_at dX4_init_12 rfl _ _ _ _ _).trans rfl
theorem eX4_init_13 {R : Option Value → qMM → Nat × Nat → Prop} {X : String → qMM → Nat × Nat → Prop} {a0 : Option Value} {st : List Value} {μ : qMM} {c0 s0 : Nat} : EX (SX4_init R X) 13 [a0] [] (st) μ (c0, s0) = EX (SX4_init R X) 14 [a0] [] (.int 0 :: st) μ (c0, s0) := (EX_at dX4_init_13 rfl _ _ _ _ _).trans (congrArg (fun v => EX (SX4_init R X) 14 [a0] [] (.int v :: st) μ (c0, s0)) ci_0)
theorem eX4_init_14 {R : Option Value → qMM → Nat × Nat → Prop} {X : String → qMM → Nat × Nat → Prop} {a0 : Option Value} {x : Nat} {v : Value} {st : List Value} {μ : qMM} {c0 s0 : Nat} : EX (SX4_init R X) 14 [a0] [] (v :: .ref x :: st) μ (c0, s0) = qPut μ x 3 1 (.int) v (fun μ' => EX (SX4_init R X) 17 [a0] [] (st) μ' (c0, s0)) := (EX_at dX4_init_14 rfl _ _ _ _ _).trans rfl
theorem eX4_init_17 {R : Option Value → qMM → Nat × Nat → Prop} {X : String → qMM → Nat × Nat → Prop} {x : Nat} {st : List Value} {μ : qMM} {c0 s0 : Nat} : EX (SX4_init R X) 17 [some (.ref x)] [] (st) μ (c0, s0) = EX (SX4_init R X) 18 [some (.ref x)] [] (.ref x :: st) μ (c0, s0) := (EX_at dX4_init_17 rfl _ _ _ _ _).trans rfl
theorem eX4_init_18 {R : Option Value → qMM → Nat × Nat → Prop} {X : String → qMM → Nat × Nat → Prop} {a0 : Option Value} {st : List Value} {μ : qMM} {c0 s0 : Nat} : EX (SX4_init R X) 18 [a0] [] (st) μ (c0, s0) = EX (SX4_init R X) 20 [a0] [] (.int 50 :: st) μ (c0, s0) := (EX_at dX4_init_18 rfl _ _ _ _ _).trans (congrArg (fun v => EX (SX4_init R X) 20 [a0] [] (.int v :: st) μ (c0, s0)) cb_50)
theorem eX4_init_20 {R : Option Value → qMM → Nat × Nat → Prop} {X : String → qMM → Nat × Nat → Prop} {a0 : Option Value} {x : Int32} {st : List Value} {μ : qMM} {c0 s0 : Nat} : EX (SX4_init R X) 20 [a0] [] (.int x :: st) μ (c0, s0) = qNwA 0 x μ (c0, s0) 3 200 (fun n μ' cs' => EX (SX4_init R X) 22 [a0] [] (.ref n :: st) μ' cs') := (EX_at dX4_init_20 rfl _ _ _ _ _).trans rfl
theorem eX4_init_22 {R : Option Value → qMM → Nat × Nat → Prop} {X : String → qMM → Nat × Nat → Prop} {a0 : Option Value} {x : Nat} {v : Value} {st : List Value} {μ : qMM} {c0 s0 : Nat} : EX (SX4_init R X) 22 [a0] [] (v :: .ref x :: st) μ (c0, s0) = qPut μ x 3 2 (.array .int) v (fun μ' => EX (SX4_init R X) 25 [a0] [] (st) μ' (c0, s0)) := (EX_at dX4_init_22 rfl _ _ _ _ _).trans rfl
theorem eX4_init_25 {R : Option Value → qMM → Nat × Nat → Prop} {X : String → qMM → Nat × Nat → Prop} {x : Nat} {st : List Value} {μ : qMM} {c0 s0 : Nat} : EX (SX4_init R X) 25 [some (.ref x)] [] (st) μ (c0, s0) = EX (SX4_init R X) 26 [some (.ref x)] [] (.ref x :: st) μ (c0, s0) := (EX_at dX4_init_25 rfl _ _ _ _ _).trans rfl
theorem eX4_init_26 {R : Option Value → qMM → Nat × Nat → Prop} {X : String → qMM → Nat × Nat → Prop} {a0 : Option Value} {st : List Value} {μ : qMM} {c0 s0 : Nat} : EX (SX4_init R X) 26 [a0] [] (st) μ (c0, s0) = EX (SX4_init R X) 28 [a0] [] (.int 50 :: st) μ (c0, s0) := (EX_at dX4_init_26 rfl _ _ _ _ _).trans (congrArg (fun v => EX (SX4_init R X) 28 [a0] [] (.int v :: st) μ (c0, s0)) cb_50)
theorem eX4_init_28 {R : Option Value → qMM → Nat × Nat → Prop} {X : String → qMM → Nat × Nat → Prop} {a0 : Option Value} {x : Int32} {st : List Value} {μ : qMM} {c0 s0 : Nat} : EX (SX4_init R X) 28 [a0] [] (.int x :: st) μ (c0, s0) = qNwA 0 x μ (c0, s0) 3 200 (fun n μ' cs' => EX (SX4_init R X) 30 [a0] [] (.ref n :: st) μ' cs') := (EX_at dX4_init_28 rfl _ _ _ _ _).trans rfl
theorem eX4_init_30 {R : Option Value → qMM → Nat × Nat → Prop} {X : String → qMM → Nat × Nat → Prop} {a0 : Option Value} {x : Nat} {v : Value} {st : List Value} {μ : qMM} {c0 s0 : Nat} : EX (SX4_init R X) 30 [a0] [] (v :: .ref x :: st) μ (c0, s0) = qPut μ x 3 3 (.array .int) v (fun μ' => EX (SX4_init R X) 33 [a0] [] (st) μ' (c0, s0)) := (EX_at dX4_init_30 rfl _ _ _ _ _).trans rfl
theorem eX4_init_33 {R : Option Value → qMM → Nat × Nat → Prop} {X : String → qMM → Nat × Nat → Prop} {x : Nat} {st : List Value} {μ : qMM} {c0 s0 : Nat} : EX (SX4_init R X) 33 [some (.ref x)] [] (st) μ (c0, s0) = EX (SX4_init R X) 34 [some (.ref x)] [] (.ref x :: st) μ (c0, s0) := (EX_at dX4_init_33 rfl _ _ _ _ _).trans rfl
theorem eX4_init_34 {R : Option Value → qMM → Nat × Nat → Prop} {X : String → qMM → Nat × Nat → Prop} {a0 : Option Value} {st : List Value} {μ : qMM} {c0 s0 : Nat} : EX (SX4_init R X) 34 [a0] [] (st) μ (c0, s0) = EX (SX4_init R X) 35 [a0] [] (.int 0 :: st) μ (c0, s0) := (EX_at dX4_init_34 rfl _ _ _ _ _).trans (congrArg (fun v => EX (SX4_init R X) 35 [a0] [] (.int v :: st) μ (c0, s0)) ci_0)
theorem eX4_init_35 {R : Option Value → qMM → Nat × Nat → Prop} {X : String → qMM → Nat × Nat → Prop} {a0 : Option Value} {x : Nat} {v : Value} {st : List Value} {μ : qMM} {c0 s0 : Nat} : EX (SX4_init R X) 35 [a0] [] (v :: .ref x :: st) μ (c0, s0) = qPut μ x 3 4 (.int) v (fun μ' => EX (SX4_init R X) 38 [a0] [] (st) μ' (c0, s0)) := (EX_at dX4_init_35 rfl _ _ _ _ _).trans rfl
theorem eX4_init_38 {R : Option Value → qMM → Nat × Nat → Prop} {X : String → qMM → Nat × Nat → Prop} {a0 : Option Value} {μ : qMM} {c0 s0 : Nat} : EX (SX4_init R X) 38 [a0] [] [] μ (c0, s0) = R (none) μ (c0, s0) := (EX_at dX4_init_38 rfl _ _ _ _ _).trans rfl
