/-! ===== the memory, its objects by their layout (by program) ===== -/
/-! the memory's algebra -/
theorem mS_wR {μ : qMM} {a b : Nat} {f : Nat → Int32} : mS (wR μ a f) b = mS μ b := by cases μ; rfl
theorem mS_wI {μ : qMM} {a b k : Nat} {v : Int32} : mS (wI μ a k v) b = mS μ b := by cases μ; rfl
theorem mS_wL {μ : qMM} {a b k : Nat} {v : Int64} : mS (wL μ a k v) b = mS μ b := by cases μ; rfl
theorem mN_wR {μ : qMM} {a : Nat} {f : Nat → Int32} : mN (wR μ a f) = mN μ := by cases μ; rfl
theorem mN_wI {μ : qMM} {a k : Nat} {v : Int32} : mN (wI μ a k v) = mN μ := by cases μ; rfl
theorem mN_wL {μ : qMM} {a k : Nat} {v : Int64} : mN (wL μ a k v) = mN μ := by cases μ; rfl
theorem mI_wR {μ : qMM} {a b : Nat} {f : Nat → Int32} : mI (wR μ a f) b = if b = a then f else mI μ b := by cases μ; rfl
theorem mI_wL {μ : qMM} {a b k : Nat} {v : Int64} : mI (wL μ a k v) b = mI μ b := by cases μ; rfl
theorem mJ_wR {μ : qMM} {a b : Nat} {f : Nat → Int32} : mJ (wR μ a f) b = mJ μ b := by cases μ; rfl
theorem mI_wR_s {μ : qMM} {a : Nat} {f : Nat → Int32} : mI (wR μ a f) a = f := if_pos rfl
theorem mI_wR_n {μ : qMM} {a b : Nat} {f : Nat → Int32} (h : b ≠ a) : mI (wR μ a f) b = mI μ b := if_neg h
theorem wI_def {μ : qMM} {a k : Nat} {v : Int32} : wI μ a k v = wR μ a (upd (mI μ a) k v) := by cases μ; rfl
theorem wR_wR {μ : qMM} {a : Nat} {f g : Nat → Int32} : wR (wR μ a f) a g = wR μ a g := by
  unfold wR
  congr 2
  funext b
  by_cases h : b = a <;> simp [h]
theorem wR_self {μ : qMM} {a : Nat} : wR μ a (mI μ a) = μ := by
  obtain ⟨m1, m2, m3⟩ := μ
  unfold wR mI
  congr 2
  funext b
  by_cases h : b = a <;> simp [h]
/-- an array of n ints at a -/
def iA (μ : qMM) (a n : Nat) : Prop := mS μ a = some (.inr (0, n, fun _ => none))
theorem iA_wR {μ : qMM} {a b n : Nat} {f : Nat → Int32} : iA (wR μ a f) b n ↔ iA μ b n := Iff.rfl
theorem iA_wI {μ : qMM} {a b n k : Nat} {v : Int32} : iA (wI μ a k v) b n ↔ iA μ b n := Iff.rfl
theorem iA_wL {μ : qMM} {a b n k : Nat} {v : Int64} : iA (wL μ a k v) b n ↔ iA μ b n := Iff.rfl

def obX0 (μ : qMM) (o : Nat) : Prop := mS μ o = some (.inl (0, [.ref (o + 1), .int 0]))
theorem obX0_wR {μ : qMM} {o : Nat} {a : Nat} {f : Nat → Int32} : obX0 (wR μ a f) o ↔ obX0 μ o := Iff.rfl
theorem obX0_wI {μ : qMM} {o : Nat} {a k : Nat} {f : Int32} : obX0 (wI μ a k f) o ↔ obX0 μ o := Iff.rfl
theorem obX0_wL {μ : qMM} {o : Nat} {a k : Nat} {f : Int64} : obX0 (wL μ a k f) o ↔ obX0 μ o := Iff.rfl
theorem tX0 {μ : qMM} {o : Nat} (h : obX0 μ o) : ∃ t, mS μ o = some (.inl (0, t)) := ⟨_, h⟩
theorem gX0_0 {μ : qMM} {o : Nat} {k : Value → Prop} (h : obX0 μ o) : qGet μ o 0 0 k = k (.ref (o + 1)) := by
  unfold qGet
  rw [h]
  simp
theorem gX0_1 {μ : qMM} {o : Nat} {k : Value → Prop} (h : obX0 μ o) : qGet μ o 0 1 k = k (.int (mI μ o 1)) := by
  unfold qGet
  rw [h]
  simp
theorem pX0_1 {μ : qMM} {o : Nat} {x : Int32} {k : qMM → Prop} (h : obX0 μ o) : qPut μ o 0 1 .int (.int x) k = k (wI μ o 1 x) := by
  unfold qPut
  rw [h]
  simp [qOk]
def obX1 (μ : qMM) (o : Nat) : Prop := mS μ o = some (.inl (1, [.ref (o + 1), .ref (o + 502), .ref (o + 1003), .ref (o + 1004), .ref (o + 1005)]))
theorem obX1_wR {μ : qMM} {o : Nat} {a : Nat} {f : Nat → Int32} : obX1 (wR μ a f) o ↔ obX1 μ o := Iff.rfl
theorem obX1_wI {μ : qMM} {o : Nat} {a k : Nat} {f : Int32} : obX1 (wI μ a k f) o ↔ obX1 μ o := Iff.rfl
theorem obX1_wL {μ : qMM} {o : Nat} {a k : Nat} {f : Int64} : obX1 (wL μ a k f) o ↔ obX1 μ o := Iff.rfl
theorem tX1 {μ : qMM} {o : Nat} (h : obX1 μ o) : ∃ t, mS μ o = some (.inl (1, t)) := ⟨_, h⟩
theorem gX1_0 {μ : qMM} {o : Nat} {k : Value → Prop} (h : obX1 μ o) : qGet μ o 1 0 k = k (.ref (o + 1)) := by
  unfold qGet
  rw [h]
  simp
theorem gX1_1 {μ : qMM} {o : Nat} {k : Value → Prop} (h : obX1 μ o) : qGet μ o 1 1 k = k (.ref (o + 502)) := by
  unfold qGet
  rw [h]
  simp
theorem gX1_2 {μ : qMM} {o : Nat} {k : Value → Prop} (h : obX1 μ o) : qGet μ o 1 2 k = k (.ref (o + 1003)) := by
  unfold qGet
  rw [h]
  simp
theorem gX1_3 {μ : qMM} {o : Nat} {k : Value → Prop} (h : obX1 μ o) : qGet μ o 1 3 k = k (.ref (o + 1004)) := by
  unfold qGet
  rw [h]
  simp
theorem gX1_4 {μ : qMM} {o : Nat} {k : Value → Prop} (h : obX1 μ o) : qGet μ o 1 4 k = k (.ref (o + 1005)) := by
  unfold qGet
  rw [h]
  simp
def obX2 (lg : Nat) (μ : qMM) (o : Nat) : Prop := mS μ o = some (.inl (2, [.ref (lg), .int 0, .int 0, .int 0, .int 0, .int 0, .int 0, .int 0, .ref (o + 1), .ref (o + 2), .ref (o + 69)]))
theorem obX2_wR {lg : Nat} {μ : qMM} {o : Nat} {a : Nat} {f : Nat → Int32} : obX2 lg (wR μ a f) o ↔ obX2 lg μ o := Iff.rfl
theorem obX2_wI {lg : Nat} {μ : qMM} {o : Nat} {a k : Nat} {f : Int32} : obX2 lg (wI μ a k f) o ↔ obX2 lg μ o := Iff.rfl
theorem obX2_wL {lg : Nat} {μ : qMM} {o : Nat} {a k : Nat} {f : Int64} : obX2 lg (wL μ a k f) o ↔ obX2 lg μ o := Iff.rfl
theorem tX2 (lg : Nat) {μ : qMM} {o : Nat} (h : obX2 lg μ o) : ∃ t, mS μ o = some (.inl (2, t)) := ⟨_, h⟩
theorem gX2_0 (lg : Nat) {μ : qMM} {o : Nat} {k : Value → Prop} (h : obX2 lg μ o) : qGet μ o 2 0 k = k (.ref (lg)) := by
  unfold qGet
  rw [h]
  simp
theorem gX2_1 (lg : Nat) {μ : qMM} {o : Nat} {k : Value → Prop} (h : obX2 lg μ o) : qGet μ o 2 1 k = k (.int (mI μ o 1)) := by
  unfold qGet
  rw [h]
  simp
theorem pX2_1 (lg : Nat) {μ : qMM} {o : Nat} {x : Int32} {k : qMM → Prop} (h : obX2 lg μ o) : qPut μ o 2 1 .int (.int x) k = k (wI μ o 1 x) := by
  unfold qPut
  rw [h]
  simp [qOk]
theorem gX2_2 (lg : Nat) {μ : qMM} {o : Nat} {k : Value → Prop} (h : obX2 lg μ o) : qGet μ o 2 2 k = k (.int (mI μ o 2)) := by
  unfold qGet
  rw [h]
  simp
theorem pX2_2 (lg : Nat) {μ : qMM} {o : Nat} {x : Int32} {k : qMM → Prop} (h : obX2 lg μ o) : qPut μ o 2 2 .int (.int x) k = k (wI μ o 2 x) := by
  unfold qPut
  rw [h]
  simp [qOk]
theorem gX2_3 (lg : Nat) {μ : qMM} {o : Nat} {k : Value → Prop} (h : obX2 lg μ o) : qGet μ o 2 3 k = k (.int (mI μ o 3)) := by
  unfold qGet
  rw [h]
  simp
theorem pX2_3 (lg : Nat) {μ : qMM} {o : Nat} {x : Int32} {k : qMM → Prop} (h : obX2 lg μ o) : qPut μ o 2 3 .int (.int x) k = k (wI μ o 3 x) := by
  unfold qPut
  rw [h]
  simp [qOk]
theorem gX2_4 (lg : Nat) {μ : qMM} {o : Nat} {k : Value → Prop} (h : obX2 lg μ o) : qGet μ o 2 4 k = k (.int (mI μ o 4)) := by
  unfold qGet
  rw [h]
  simp
theorem pX2_4 (lg : Nat) {μ : qMM} {o : Nat} {x : Int32} {k : qMM → Prop} (h : obX2 lg μ o) : qPut μ o 2 4 .int (.int x) k = k (wI μ o 4 x) := by
  unfold qPut
  rw [h]
  simp [qOk]
theorem gX2_5 (lg : Nat) {μ : qMM} {o : Nat} {k : Value → Prop} (h : obX2 lg μ o) : qGet μ o 2 5 k = k (.int (mI μ o 5)) := by
  unfold qGet
  rw [h]
  simp
theorem pX2_5 (lg : Nat) {μ : qMM} {o : Nat} {x : Int32} {k : qMM → Prop} (h : obX2 lg μ o) : qPut μ o 2 5 .int (.int x) k = k (wI μ o 5 x) := by
  unfold qPut
  rw [h]
  simp [qOk]
theorem gX2_6 (lg : Nat) {μ : qMM} {o : Nat} {k : Value → Prop} (h : obX2 lg μ o) : qGet μ o 2 6 k = k (.int (mI μ o 6)) := by
  unfold qGet
  rw [h]
  simp
theorem pX2_6 (lg : Nat) {μ : qMM} {o : Nat} {x : Int32} {k : qMM → Prop} (h : obX2 lg μ o) : qPut μ o 2 6 .int (.int x) k = k (wI μ o 6 x) := by
  unfold qPut
  rw [h]
  simp [qOk]
theorem gX2_7 (lg : Nat) {μ : qMM} {o : Nat} {k : Value → Prop} (h : obX2 lg μ o) : qGet μ o 2 7 k = k (.int (mI μ o 7)) := by
  unfold qGet
  rw [h]
  simp
theorem pX2_7 (lg : Nat) {μ : qMM} {o : Nat} {x : Int32} {k : qMM → Prop} (h : obX2 lg μ o) : qPut μ o 2 7 .int (.int x) k = k (wI μ o 7 x) := by
  unfold qPut
  rw [h]
  simp [qOk]
theorem gX2_8 (lg : Nat) {μ : qMM} {o : Nat} {k : Value → Prop} (h : obX2 lg μ o) : qGet μ o 2 8 k = k (.ref (o + 1)) := by
  unfold qGet
  rw [h]
  simp
theorem gX2_9 (lg : Nat) {μ : qMM} {o : Nat} {k : Value → Prop} (h : obX2 lg μ o) : qGet μ o 2 9 k = k (.ref (o + 2)) := by
  unfold qGet
  rw [h]
  simp
theorem gX2_10 (lg : Nat) {μ : qMM} {o : Nat} {k : Value → Prop} (h : obX2 lg μ o) : qGet μ o 2 10 k = k (.ref (o + 69)) := by
  unfold qGet
  rw [h]
  simp
def obX4 (μ : qMM) (o : Nat) : Prop := mS μ o = some (.inl (3, [.ref (o + 1), .int 0, .ref (o + 2), .ref (o + 3), .int 0]))
theorem obX4_wR {μ : qMM} {o : Nat} {a : Nat} {f : Nat → Int32} : obX4 (wR μ a f) o ↔ obX4 μ o := Iff.rfl
theorem obX4_wI {μ : qMM} {o : Nat} {a k : Nat} {f : Int32} : obX4 (wI μ a k f) o ↔ obX4 μ o := Iff.rfl
theorem obX4_wL {μ : qMM} {o : Nat} {a k : Nat} {f : Int64} : obX4 (wL μ a k f) o ↔ obX4 μ o := Iff.rfl
theorem tX4 {μ : qMM} {o : Nat} (h : obX4 μ o) : ∃ t, mS μ o = some (.inl (3, t)) := ⟨_, h⟩
theorem gX4_0 {μ : qMM} {o : Nat} {k : Value → Prop} (h : obX4 μ o) : qGet μ o 3 0 k = k (.ref (o + 1)) := by
  unfold qGet
  rw [h]
  simp
theorem gX4_1 {μ : qMM} {o : Nat} {k : Value → Prop} (h : obX4 μ o) : qGet μ o 3 1 k = k (.int (mI μ o 1)) := by
  unfold qGet
  rw [h]
  simp
theorem pX4_1 {μ : qMM} {o : Nat} {x : Int32} {k : qMM → Prop} (h : obX4 μ o) : qPut μ o 3 1 .int (.int x) k = k (wI μ o 1 x) := by
  unfold qPut
  rw [h]
  simp [qOk]
theorem gX4_2 {μ : qMM} {o : Nat} {k : Value → Prop} (h : obX4 μ o) : qGet μ o 3 2 k = k (.ref (o + 2)) := by
  unfold qGet
  rw [h]
  simp
theorem gX4_3 {μ : qMM} {o : Nat} {k : Value → Prop} (h : obX4 μ o) : qGet μ o 3 3 k = k (.ref (o + 3)) := by
  unfold qGet
  rw [h]
  simp
theorem gX4_4 {μ : qMM} {o : Nat} {k : Value → Prop} (h : obX4 μ o) : qGet μ o 3 4 k = k (.int (mI μ o 4)) := by
  unfold qGet
  rw [h]
  simp
theorem pX4_4 {μ : qMM} {o : Nat} {x : Int32} {k : qMM → Prop} (h : obX4 μ o) : qPut μ o 3 4 .int (.int x) k = k (wI μ o 4 x) := by
  unfold qPut
  rw [h]
  simp [qOk]
def obX5 (lg : Nat) (μ : qMM) (o : Nat) : Prop := mS μ o = some (.inl (4, [.ref (lg), .ref (o + 1), .int 0, .int 0, .int 0, .int 0, .int 0, .int 0, .ref (o + 2), .ref (o + 3), .ref (o + 4)]))
theorem obX5_wR {lg : Nat} {μ : qMM} {o : Nat} {a : Nat} {f : Nat → Int32} : obX5 lg (wR μ a f) o ↔ obX5 lg μ o := Iff.rfl
theorem obX5_wI {lg : Nat} {μ : qMM} {o : Nat} {a k : Nat} {f : Int32} : obX5 lg (wI μ a k f) o ↔ obX5 lg μ o := Iff.rfl
theorem obX5_wL {lg : Nat} {μ : qMM} {o : Nat} {a k : Nat} {f : Int64} : obX5 lg (wL μ a k f) o ↔ obX5 lg μ o := Iff.rfl
theorem tX5 (lg : Nat) {μ : qMM} {o : Nat} (h : obX5 lg μ o) : ∃ t, mS μ o = some (.inl (4, t)) := ⟨_, h⟩
theorem gX5_0 (lg : Nat) {μ : qMM} {o : Nat} {k : Value → Prop} (h : obX5 lg μ o) : qGet μ o 4 0 k = k (.ref (lg)) := by
  unfold qGet
  rw [h]
  simp
theorem gX5_1 (lg : Nat) {μ : qMM} {o : Nat} {k : Value → Prop} (h : obX5 lg μ o) : qGet μ o 4 1 k = k (.ref (o + 1)) := by
  unfold qGet
  rw [h]
  simp
theorem gX5_2 (lg : Nat) {μ : qMM} {o : Nat} {k : Value → Prop} (h : obX5 lg μ o) : qGet μ o 4 2 k = k (.int (mI μ o 2)) := by
  unfold qGet
  rw [h]
  simp
theorem pX5_2 (lg : Nat) {μ : qMM} {o : Nat} {x : Int32} {k : qMM → Prop} (h : obX5 lg μ o) : qPut μ o 4 2 .int (.int x) k = k (wI μ o 2 x) := by
  unfold qPut
  rw [h]
  simp [qOk]
theorem gX5_3 (lg : Nat) {μ : qMM} {o : Nat} {k : Value → Prop} (h : obX5 lg μ o) : qGet μ o 4 3 k = k (.int (mI μ o 3)) := by
  unfold qGet
  rw [h]
  simp
theorem pX5_3 (lg : Nat) {μ : qMM} {o : Nat} {x : Int32} {k : qMM → Prop} (h : obX5 lg μ o) : qPut μ o 4 3 .int (.int x) k = k (wI μ o 3 x) := by
  unfold qPut
  rw [h]
  simp [qOk]
theorem gX5_4 (lg : Nat) {μ : qMM} {o : Nat} {k : Value → Prop} (h : obX5 lg μ o) : qGet μ o 4 4 k = k (.int (mI μ o 4)) := by
  unfold qGet
  rw [h]
  simp
theorem pX5_4 (lg : Nat) {μ : qMM} {o : Nat} {x : Int32} {k : qMM → Prop} (h : obX5 lg μ o) : qPut μ o 4 4 .boolean (.int x) k = ((x = 0 ∨ x = 1) ∧ k (wI μ o 4 x)) := by
  unfold qPut
  rw [h]
  simp [qOk]
theorem gX5_5 (lg : Nat) {μ : qMM} {o : Nat} {k : Value → Prop} (h : obX5 lg μ o) : qGet μ o 4 5 k = k (.int (mI μ o 5)) := by
  unfold qGet
  rw [h]
  simp
theorem pX5_5 (lg : Nat) {μ : qMM} {o : Nat} {x : Int32} {k : qMM → Prop} (h : obX5 lg μ o) : qPut μ o 4 5 .int (.int x) k = k (wI μ o 5 x) := by
  unfold qPut
  rw [h]
  simp [qOk]
theorem gX5_6 (lg : Nat) {μ : qMM} {o : Nat} {k : Value → Prop} (h : obX5 lg μ o) : qGet μ o 4 6 k = k (.int (mI μ o 6)) := by
  unfold qGet
  rw [h]
  simp
theorem pX5_6 (lg : Nat) {μ : qMM} {o : Nat} {x : Int32} {k : qMM → Prop} (h : obX5 lg μ o) : qPut μ o 4 6 .int (.int x) k = k (wI μ o 6 x) := by
  unfold qPut
  rw [h]
  simp [qOk]
theorem gX5_7 (lg : Nat) {μ : qMM} {o : Nat} {k : Value → Prop} (h : obX5 lg μ o) : qGet μ o 4 7 k = k (.int (mI μ o 7)) := by
  unfold qGet
  rw [h]
  simp
theorem pX5_7 (lg : Nat) {μ : qMM} {o : Nat} {x : Int32} {k : qMM → Prop} (h : obX5 lg μ o) : qPut μ o 4 7 .int (.int x) k = k (wI μ o 7 x) := by
  unfold qPut
  rw [h]
  simp [qOk]
theorem gX5_8 (lg : Nat) {μ : qMM} {o : Nat} {k : Value → Prop} (h : obX5 lg μ o) : qGet μ o 4 8 k = k (.ref (o + 2)) := by
  unfold qGet
  rw [h]
  simp
theorem gX5_9 (lg : Nat) {μ : qMM} {o : Nat} {k : Value → Prop} (h : obX5 lg μ o) : qGet μ o 4 9 k = k (.ref (o + 3)) := by
  unfold qGet
  rw [h]
  simp
theorem gX5_10 (lg : Nat) {μ : qMM} {o : Nat} {k : Value → Prop} (h : obX5 lg μ o) : qGet μ o 4 10 k = k (.ref (o + 4)) := by
  unfold qGet
  rw [h]
  simp
def obX6 (μ : qMM) (o : Nat) : Prop := mS μ o = some (.inl (5, [.ref (o + 5), .ref (o + 10), .ref (o + 1), .ref (o + 3)]))
theorem obX6_wR {μ : qMM} {o : Nat} {a : Nat} {f : Nat → Int32} : obX6 (wR μ a f) o ↔ obX6 μ o := Iff.rfl
theorem obX6_wI {μ : qMM} {o : Nat} {a k : Nat} {f : Int32} : obX6 (wI μ a k f) o ↔ obX6 μ o := Iff.rfl
theorem obX6_wL {μ : qMM} {o : Nat} {a k : Nat} {f : Int64} : obX6 (wL μ a k f) o ↔ obX6 μ o := Iff.rfl
theorem tX6 {μ : qMM} {o : Nat} (h : obX6 μ o) : ∃ t, mS μ o = some (.inl (5, t)) := ⟨_, h⟩
theorem gX6_0 {μ : qMM} {o : Nat} {k : Value → Prop} (h : obX6 μ o) : qGet μ o 5 0 k = k (.ref (o + 5)) := by
  unfold qGet
  rw [h]
  simp
theorem gX6_1 {μ : qMM} {o : Nat} {k : Value → Prop} (h : obX6 μ o) : qGet μ o 5 1 k = k (.ref (o + 10)) := by
  unfold qGet
  rw [h]
  simp
theorem gX6_2 {μ : qMM} {o : Nat} {k : Value → Prop} (h : obX6 μ o) : qGet μ o 5 2 k = k (.ref (o + 1)) := by
  unfold qGet
  rw [h]
  simp
theorem gX6_3 {μ : qMM} {o : Nat} {k : Value → Prop} (h : obX6 μ o) : qGet μ o 5 3 k = k (.ref (o + 3)) := by
  unfold qGet
  rw [h]
  simp
def obX7 (μ : qMM) (o : Nat) : Prop := mS μ o = some (.inl (6, [.ref (o + 1), .ref (o + 2)]))
theorem obX7_wR {μ : qMM} {o : Nat} {a : Nat} {f : Nat → Int32} : obX7 (wR μ a f) o ↔ obX7 μ o := Iff.rfl
theorem obX7_wI {μ : qMM} {o : Nat} {a k : Nat} {f : Int32} : obX7 (wI μ a k f) o ↔ obX7 μ o := Iff.rfl
theorem obX7_wL {μ : qMM} {o : Nat} {a k : Nat} {f : Int64} : obX7 (wL μ a k f) o ↔ obX7 μ o := Iff.rfl
theorem tX7 {μ : qMM} {o : Nat} (h : obX7 μ o) : ∃ t, mS μ o = some (.inl (6, t)) := ⟨_, h⟩
theorem gX7_0 {μ : qMM} {o : Nat} {k : Value → Prop} (h : obX7 μ o) : qGet μ o 6 0 k = k (.ref (o + 1)) := by
  unfold qGet
  rw [h]
  simp
theorem gX7_1 {μ : qMM} {o : Nat} {k : Value → Prop} (h : obX7 μ o) : qGet μ o 6 1 k = k (.ref (o + 2)) := by
  unfold qGet
  rw [h]
  simp
def obX8 (μ : qMM) (o : Nat) : Prop := mS μ o = some (.inl (7, [.ref (o + 1007), .ref (o + 1087), .int 0, .int 0, .ref (o + 1488)]))
theorem obX8_wR {μ : qMM} {o : Nat} {a : Nat} {f : Nat → Int32} : obX8 (wR μ a f) o ↔ obX8 μ o := Iff.rfl
theorem obX8_wI {μ : qMM} {o : Nat} {a k : Nat} {f : Int32} : obX8 (wI μ a k f) o ↔ obX8 μ o := Iff.rfl
theorem obX8_wL {μ : qMM} {o : Nat} {a k : Nat} {f : Int64} : obX8 (wL μ a k f) o ↔ obX8 μ o := Iff.rfl
theorem tX8 {μ : qMM} {o : Nat} (h : obX8 μ o) : ∃ t, mS μ o = some (.inl (7, t)) := ⟨_, h⟩
theorem gX8_0 {μ : qMM} {o : Nat} {k : Value → Prop} (h : obX8 μ o) : qGet μ o 7 0 k = k (.ref (o + 1007)) := by
  unfold qGet
  rw [h]
  simp
theorem gX8_1 {μ : qMM} {o : Nat} {k : Value → Prop} (h : obX8 μ o) : qGet μ o 7 1 k = k (.ref (o + 1087)) := by
  unfold qGet
  rw [h]
  simp
theorem gX8_2 {μ : qMM} {o : Nat} {k : Value → Prop} (h : obX8 μ o) : qGet μ o 7 2 k = k (.int (mI μ o 2)) := by
  unfold qGet
  rw [h]
  simp
theorem pX8_2 {μ : qMM} {o : Nat} {x : Int32} {k : qMM → Prop} (h : obX8 μ o) : qPut μ o 7 2 .int (.int x) k = k (wI μ o 2 x) := by
  unfold qPut
  rw [h]
  simp [qOk]
theorem gX8_3 {μ : qMM} {o : Nat} {k : Value → Prop} (h : obX8 μ o) : qGet μ o 7 3 k = k (.int (mI μ o 3)) := by
  unfold qGet
  rw [h]
  simp
theorem pX8_3 {μ : qMM} {o : Nat} {x : Int32} {k : qMM → Prop} (h : obX8 μ o) : qPut μ o 7 3 .int (.int x) k = k (wI μ o 3 x) := by
  unfold qPut
  rw [h]
  simp [qOk]
theorem gX8_4 {μ : qMM} {o : Nat} {k : Value → Prop} (h : obX8 μ o) : qGet μ o 7 4 k = k (.ref (o + 1488)) := by
  unfold qGet
  rw [h]
  simp
