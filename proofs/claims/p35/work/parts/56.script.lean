/-! ===== script: what its methods ask and say; steps and equations by program (wip/gen) ===== -/
/-! the script of the class -/
def ScS (μ : qMM) (o : Nat) : Prop := obX4 μ o ∧ iA μ (o + 1) 100 ∧ iA μ (o + 2) 50 ∧ iA μ (o + 3) 50
theorem ScS_wR {μ : qMM} {o a : Nat} {f : Nat → Int32} : ScS (wR μ a f) o ↔ ScS μ o := Iff.rfl
