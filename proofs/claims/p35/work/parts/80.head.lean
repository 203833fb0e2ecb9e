/-! ===== headers in one number; the law's rows and the state agree ===== -/
theorem shrL {a d : Nat} {D : Int64} (hD : (D.toBitVec.smod 64).toNat = d) (h : a < 2 ^ 62) : lN a >>> D = lN (a / 2 ^ d) := by
  have hd : a / 2 ^ d ≤ a := Nat.div_le_self _ _
  apply Int64.toInt_inj.mp
  have e : (lN a >>> D).toInt = (lN a).toInt >>> d := by
    rw [← hD]
    exact BitVec.toInt_sshiftRight ..
  rw [e, Int.shiftRight_eq_div_pow, pk_lT (by omega), pk_lT (by omega)]
  rfl
theorem andL {n : Nat} (h : n < 2 ^ 63) {m : Int64} (k : Nat) (hm : m.toBitVec.toNat = 2 ^ k - 1) : lN n &&& m = lN (n % 2 ^ k) := by
  apply Int64.toBitVec_inj.mp
  apply BitVec.eq_of_toNat_eq
  have e : (lN n).toBitVec.toNat = n := Nat.mod_eq_of_lt (by omega)
  have e2 : (lN (n % 2 ^ k)).toBitVec.toNat = n % 2 ^ k := Nat.mod_eq_of_lt (Nat.lt_of_le_of_lt (Nat.mod_le _ _) (by omega))
  rw [Int64.toBitVec_and, BitVec.toNat_and, hm, Nat.and_two_pow_sub_one_eq_mod, e, e2]
def hdN (A Q T F : Nat) : Int64 := lN (((A * 65536 + Q) * 65536 + T) * 16 + F)
theorem hdF_N {A F : Nat} {q t : Int32} (hA : A < 256) (hF : F < 16) : ∃ Q T : Nat, Q < 65536 ∧ T < 65536 ∧ q &&& 65535 = nI Q ∧ t &&& 65535 = nI T ∧ hdF (nI A) q t (nI F) = hdN A Q T F := by
  obtain ⟨Q, hQ, eQ⟩ := pk_andE q (m := 65535) 16 (by decide)
  obtain ⟨T, hT, eT⟩ := pk_andE t (m := 65535) 16 (by decide)
  refine ⟨Q, T, hQ, hT, eQ, eT, ?_⟩
  unfold hdF hdN
  have c1 : (65536 : Int64) = lN 65536 := by decide
  have c2 : (16 : Int64) = lN 16 := by decide
  rw [eQ, eT, nI_l (by omega), nI_l (by omega), nI_l (by omega), nI_l (by omega), c1, c2]
  simp only [lN_mul, lN_add]
theorem ptF_N {A Q T F : Nat} (hA : A < 256) (hQ : Q < 65536) (hT : T < 65536) (hF : F < 16) : ptF (hdN A Q T F) 0 = nI A ∧ ptF (hdN A Q T F) 1 = nI Q ∧ ptF (hdN A Q T F) 2 = nI T ∧ ptF (hdN A Q T F) 3 = nI F := by
  unfold ptF hdN
  have b : ((A * 65536 + Q) * 65536 + T) * 16 + F < 2 ^ 62 := by omega
  refine ⟨?_, ?_, ?_, ?_⟩
  · rw [if_pos rfl, shrL (d := 36) (by decide) b, lN_i]
    congr 1
    omega
  · rw [if_neg (by decide), if_pos rfl, shrL (d := 20) (by decide) b, andL (k := 16) (by omega) (by decide), lN_i]
    congr 1
    omega
  · rw [if_neg (by decide), if_neg (by decide), if_pos rfl, shrL (d := 4) (by decide) b, andL (k := 16) (by omega) (by decide), lN_i]
    congr 1
    omega
  · rw [if_neg (by decide), if_neg (by decide), if_neg (by decide), andL (k := 4) (by omega) (by decide), lN_i]
    congr 1
    omega
/-- h packs the four fields of w -/
def Hd (h : Int64) (w : Nat → Int32) : Prop := ∃ A Q T F : Nat, A < 256 ∧ Q < 65536 ∧ T < 65536 ∧ F < 16 ∧ w 0 = nI A ∧ w 1 = nI Q ∧ w 2 = nI T ∧ w 3 = nI F ∧ h = hdN A Q T F
theorem Hd_pt {h : Int64} {w : Nat → Int32} (k : Hd h w) : ptF h 0 = w 0 ∧ ptF h 1 = w 1 ∧ ptF h 2 = w 2 ∧ ptF h 3 = w 3 := by
  obtain ⟨A, Q, T, F, hA, hQ, hT, hF, e0, e1, e2, e3, rfl⟩ := k
  obtain ⟨p0, p1, p2, p3⟩ := ptF_N hA hQ hT hF
  rw [p0, p1, p2, p3, e0, e1, e2, e3]
  exact ⟨rfl, rfl, rfl, rfl⟩
theorem Hd_inj {h h' : Int64} {w w' : Nat → Int32} (k : Hd h w) (k' : Hd h' w') : h = h' ↔ (w 0 = w' 0 ∧ w 1 = w' 1 ∧ w 2 = w' 2 ∧ w 3 = w' 3) := by
  constructor
  · intro e
    have a := Hd_pt k
    have b := Hd_pt k'
    rw [e] at a
    exact ⟨a.1.symm.trans b.1, a.2.1.symm.trans b.2.1, a.2.2.1.symm.trans b.2.2.1, a.2.2.2.symm.trans b.2.2.2⟩
  · rintro ⟨e0, e1, e2, e3⟩
    obtain ⟨A, Q, T, F, hA, hQ, hT, hF, f0, f1, f2, f3, rfl⟩ := k
    obtain ⟨A', Q', T', F', hA', hQ', hT', hF', g0, g1, g2, g3, rfl⟩ := k'
    rw [f0, g0, nI_eq (by omega) (by omega)] at e0
    rw [f1, g1, nI_eq (by omega) (by omega)] at e1
    rw [f2, g2, nI_eq (by omega) (by omega)] at e2
    rw [f3, g3, nI_eq (by omega) (by omega)] at e3
    rw [e0, e1, e2, e3]
theorem Hd_congr {h : Int64} {w w' : Nat → Int32} (e : ∀ i, i < 4 → w' i = w i) (k : Hd h w) : Hd h w' := by
  obtain ⟨A, Q, T, F, hA, hQ, hT, hF, f0, f1, f2, f3, hh⟩ := k
  exact ⟨A, Q, T, F, hA, hQ, hT, hF, (e 0 (by decide)).trans f0, (e 1 (by decide)).trans f1, (e 2 (by decide)).trans f2, (e 3 (by decide)).trans f3, hh⟩
/-- a header made anew -/
theorem Hd_mk {a q t f : Int32} {w : Nat → Int32} (ha : ∃ A : Nat, A < 256 ∧ a = nI A) (hf : ∃ F : Nat, F < 16 ∧ f = nI F) (e0 : w 0 = a) (e1 : w 1 = q &&& 65535) (e2 : w 2 = t &&& 65535) (e3 : w 3 = f) : Hd (hdF a q t f) w := by
  obtain ⟨A, hA, rfl⟩ := ha
  obtain ⟨F, hF, rfl⟩ := hf
  obtain ⟨Q, T, hQ, hT, eQ, eT, e⟩ := hdF_N (q := q) (t := t) hA hF
  exact ⟨A, Q, T, F, hA, hQ, hT, hF, e0, e1.trans eQ, e2.trans eT, e3, e⟩
theorem Hd_rg {h : Int64} {w : Nat → Int32} (k : Hd h w) : (∃ A : Nat, A < 256 ∧ w 0 = nI A) ∧ (∃ Q : Nat, Q < 65536 ∧ w 1 = nI Q) ∧ (∃ Q : Nat, Q < 65536 ∧ w 2 = nI Q) ∧ ∃ F : Nat, F < 16 ∧ w 3 = nI F := by
  obtain ⟨A, Q, T, F, hA, hQ, hT, hF, f0, f1, f2, f3, hh⟩ := k
  exact ⟨⟨A, hA, f0⟩, ⟨Q, hQ, f1⟩, ⟨T, hT, f2⟩, F, hF, f3⟩
/-- v packs the two strides a, b -/
def SdR (v a b : Int32) : Prop := ∃ P Q : Nat, P < 256 ∧ Q < 4096 ∧ a = nI P ∧ b = nI Q ∧ v = nI (4096 * P + Q)
theorem SdR_at {v a b : Int32} (k : SdR v a b) : v / 4096 = a ∧ v - v / 4096 * 4096 = b := by
  obtain ⟨P, Q, hP, hQ, rfl, rfl, rfl⟩ := k
  have c : (4096 : Int32) = nI 4096 := rfl
  rw [c, pk_rem (by omega) (by decide) (by decide), pk_div (by omega) (by decide) (by decide)]
  constructor
  · congr 1
    omega
  · congr 1
    omega
/-- what an info tells of a packet -/
def IfR (v fo re ak sz : Int32) : Prop := ∃ fN rN aN zN : Nat, fN < 3 ∧ rN ≤ 63 ∧ aN < 2 ∧ zN < 100 ∧ fo = nI fN ∧ re = nI rN - 1 ∧ ak = nI aN ∧ sz = nI zN ∧ v = nI (fN + 4 * rN + 1000 * aN + 10000 * zN)
theorem IfR_at {v fo re ak sz : Int32} (k : IfR v fo re ak sz) : remF v 4 = fo ∧ remF v 1000 / 4 - 1 = re ∧ remF (v / 1000) 10 = ak ∧ v / 10000 = sz := by
  obtain ⟨fN, rN, aN, zN, h1, h2, h3, h4, rfl, rfl, rfl, rfl, rfl⟩ := k
  have c4 : (4 : Int32) = nI 4 := rfl
  have c10 : (10 : Int32) = nI 10 := rfl
  have c1000 : (1000 : Int32) = nI 1000 := rfl
  have c10000 : (10000 : Int32) = nI 10000 := rfl
  unfold remF
  rw [c4, c10, c1000, c10000, pk_rem (by omega) (by decide) (by decide), pk_rem (by omega) (by decide) (by decide), pk_div (by omega) (by decide) (by decide), pk_div (a := fN + 4 * rN + 1000 * aN + 10000 * zN) (d := 1000) (by omega) (by decide) (by decide), pk_rem (by omega) (by decide) (by decide), pk_div (by omega) (by decide) (by decide)]
  refine ⟨?_, ?_, ?_, ?_⟩
  · congr 1
    omega
  · congr 1
    congr 1
    omega
  · congr 1
    omega
  · congr 1
    omega
theorem by_eq (x : Int32) : byF x = bytesOf x := by
  unfold byF bytesOf
  by_cases h : x = 0
  · rw [if_pos h, if_pos h]
  · rw [if_neg h, if_neg h]
    have i1 : x ≤ -129 ↔ x.toInt ≤ -129 := Int32.le_iff_toInt_le
    have i2 : (128 : Int32) ≤ x ↔ 128 ≤ x.toInt := Int32.le_iff_toInt_le
    have i3 : (-128 : Int32) ≤ x ↔ -128 ≤ x.toInt := Int32.le_iff_toInt_le
    have i4 : x ≤ 127 ↔ x.toInt ≤ 127 := Int32.le_iff_toInt_le
    by_cases h1 : x ≤ -129
    · rw [if_pos h1, if_neg (fun q => by rw [i1] at h1; rw [i3] at q; omega)]
    · rw [if_neg h1]
      by_cases h2 : (128 : Int32) ≤ x
      · rw [if_pos h2, if_neg (fun q => by rw [i2] at h2; rw [i4] at q; omega)]
      · rw [if_neg h2, if_pos ⟨by rw [i3]; rw [i1] at h1; omega, by rw [i4]; rw [i2] at h2; omega⟩]
theorem and16 (a x : Int32) : (a + x.toInt16.toInt32) &&& 65535 = (a + x) &&& 65535 := by
  rw [pk_and _ (m := 65535) 16 (by decide), pk_and _ (m := 65535) 16 (by decide)]
  congr 1
  rw [Int32.toBitVec_add, Int32.toBitVec_add, BitVec.toNat_add, BitVec.toNat_add]
  have e : x.toInt16.toInt32.toBitVec.toNat % 2 ^ 16 = x.toBitVec.toNat % 2 ^ 16 := by
    have h := low16 x
    have h2 := pk_and x (m := 65535) 16 (by decide)
    have h3 : x.toBitVec.toNat % 2 ^ 16 < 65536 := Nat.mod_lt _ (by decide)
    rw [h2] at h
    generalize x.toBitVec.toNat % 2 ^ 16 = n at *
    rw [← h]
    by_cases g : (32767 : Int32) < nI n
    · rw [if_pos g]
      have hn : 32768 ≤ n := by
        have := (nI_ltI (a := 32767) (by decide) (by omega)).mp g
        omega
      have e2 : nI n - 65536 = nI n + Int32.ofInt (-65536) := by
        rw [Int32.sub_eq_add_neg]
        rfl
      rw [Int32.toBitVec_sub, BitVec.toNat_sub, pk_tn (by omega)]
      have : (65536 : Int32).toBitVec.toNat = 65536 := by decide
      rw [this]
      omega
    · rw [if_neg g, pk_tn (by omega)]
      omega
  omega
