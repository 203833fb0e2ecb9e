/-! ===== bodies: the script ===== -/
theorem vp50 {n : Nat} (h : n < 50) : vp_in (nI n) 50 := vp_in_nI h (by decide)