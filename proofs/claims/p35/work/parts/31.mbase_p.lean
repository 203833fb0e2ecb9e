/-! ===== bodies: the reference's small ones ===== -/
theorem vpS {n : Nat} (h : n < 5514) : vp_in (nI n) 5514 := vp_in_nI h (by decide)
theorem vpP {n : Nat} (h : n < 22056) : vp_in (nI n) 22056 := vp_in_nI h (by decide)
theorem nIC {n : Nat} (h : n < 1000000) : (nI n).toNatClampNeg = n := nI_clamp (by omega)
theorem cpy_succ {f g : Nat → Int32} {n : Nat} : upd (va_cpy f g 0 0 n) n (f n) = va_cpy f g 0 0 (n + 1) := by
  funext k
  unfold upd va_cpy
  by_cases h : k = n
  · subst h
    simp
  · have : (k < n + 1) ↔ (k < n) := by omega
    simp [h, this]
theorem low16 (x : Int32) : (if 32767 < x &&& 65535 then (x &&& 65535) - 65536 else x &&& 65535) = x.toInt16.toInt32 := by
  have h := pk_and x (m := 65535) 16 (by decide)
  have hq : x.toBitVec.toNat % 2 ^ 16 < 65536 := Nat.mod_lt _ (by decide)
  have h4 : x.toInt = if 2 * x.toBitVec.toNat < 2 ^ 32 then (x.toBitVec.toNat : Int) else (x.toBitVec.toNat : Int) - (2 ^ 32 : Nat) := BitVec.toInt_eq_toNat_cond x.toBitVec
  have hq2 : x.toInt % 65536 = ((x.toBitVec.toNat % 2 ^ 16 : Nat) : Int) := by
    rw [h4]
    split <;> omega
  have e1 : x.toInt16.toInt32.toInt = x.toInt.bmod (2 ^ 16) := by
    rw [Int16.toInt_toInt32, Int32.toInt_toInt16]
  have e2 : x.toInt.bmod (2 ^ 16) = if 2 * (x.toBitVec.toNat % 2 ^ 16) < 2 ^ 16 then ((x.toBitVec.toNat % 2 ^ 16 : Nat) : Int) else ((x.toBitVec.toNat % 2 ^ 16 : Nat) : Int) - (2 ^ 16 : Nat) := by
    rw [Int.bmod_def]
    show (if x.toInt % 65536 < (65536 + 1) / 2 then x.toInt % 65536 else x.toInt % 65536 - 65536) = _
    rw [hq2]
    split <;> split <;> omega
  rw [h]
  generalize x.toBitVec.toNat % 2 ^ 16 = q at *
  apply Int32.toInt_inj.mp
  rw [e1, e2]
  have hg : (32767 : Int32) < nI q ↔ 32767 < q := by
    show nI 32767 < nI q ↔ _
    rw [nI_ltI (by decide) (by omega)]
  by_cases hc : 32767 < q
  · rw [if_pos (hg.mpr hc), if_neg (by omega)]
    show (nI q - nI 65536).toInt = _
    rw [pk_sub_toInt (by omega) (by decide)]
    try omega
  · rw [if_neg (fun z => hc (hg.mp z)), if_pos (by omega), nI_toInt (by omega)]
theorem ofE (p w : Nat) : (514 : Int32) + 10 * nI p + nI w = nI (514 + 10 * p + w) := by
  show nI 514 + nI 10 * nI p + nI w = _
  rw [pk_mul, nI_add, nI_add]
theorem placeE (x : Int32) : (66 : Int32) + 7 * (x &&& 63) = nI (66 + 7 * slotOf x) := by
  rw [(slot_and x).1]
  show nI 66 + nI 7 * nI _ = _
  rw [pk_mul, nI_add]
theorem recE (x : Int32) (w : Nat) : nI (66 + 7 * slotOf x) + 1 + nI w = nI (67 + 7 * slotOf x + w) := by
  rw [nI_1, nI_add]
  congr 1
  omega
theorem joinE (k n : Nat) : nI k + nI n = nI (k + n) := nI_add k n
theorem cpy_succ2 {f g : Nat → Int32} {sp n : Nat} : upd (va_cpy f g sp 0 n) n (f (n + sp)) = va_cpy f g sp 0 (n + 1) := by
  funext k
  unfold upd va_cpy
  by_cases h : k = n
  · subst h
    simp [Nat.add_comm]
  · have : (k < n + 1) ↔ (k < n) := by omega
    simp [h, this]
theorem cpy_succ3 {f g : Nat → Int32} {dp n : Nat} : upd (va_cpy f g 0 dp n) (dp + n) (f n) = va_cpy f g 0 dp (n + 1) := by
  funext k
  unfold upd va_cpy
  by_cases h : k = dp + n
  · subst h
    simp
  · by_cases h2 : dp ≤ k ∧ k < dp + n
    · rw [if_neg h, if_pos h2, if_pos (by omega)]
    · rw [if_neg h, if_neg h2, if_neg (by omega)]
theorem cpy_zero {f g : Nat → Int32} {sp dp : Nat} : va_cpy f g sp dp 0 = g := by
  funext k
  unfold va_cpy
  rw [if_neg (by omega)]
theorem wR_comm {μ : qMM} {a b : Nat} {f g : Nat → Int32} (h : a ≠ b) : wR (wR μ a f) b g = wR (wR μ b g) a f := by
  unfold wR
  congr 2
  funext c
  by_cases h1 : c = a <;> by_cases h2 : c = b <;> simp [h1, h2] <;> omega
