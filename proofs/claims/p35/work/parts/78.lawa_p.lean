/-! ===== bodies: the law's own functions ===== -/
theorem mrgI {S : qST} {pc : Nat} {l lj : List (Option Value)} {st : List Value} {μ : qMM} {cs : Nat × Nat} {c : Prop} [Decidable c] {a b : Int32} : ((c → EX S pc l lj (.int a :: st) μ cs) ∧ (¬ c → EX S pc l lj (.int b :: st) μ cs)) = EX S pc l lj (.int (if c then a else b) :: st) μ cs := by
  by_cases h : c <;> simp [h]
theorem mrgN {S : qST} {pc : Nat} {l lj : List (Option Value)} {st : List Value} {μ : qMM} {cs : Nat × Nat} {c : Prop} [Decidable c] {a b : Int32} : ((¬ c → EX S pc l lj (.int a :: st) μ cs) ∧ (c → EX S pc l lj (.int b :: st) μ cs)) = EX S pc l lj (.int (if c then b else a) :: st) μ cs := by
  by_cases h : c <;> simp [h]
theorem fEq {α : Type} {a : α} {μ : qMM} {p : α → qMM → Prop} : (∀ r μ', r = a ∧ μ' = μ → p r μ') = p a μ := by
  apply propext
  exact ⟨fun h => h a μ ⟨rfl, rfl⟩, fun h r μ' e => by obtain ⟨rfl, rfl⟩ := e; exact h⟩
theorem xL_low (x1 : Int32) (x2 : Int32) (μ : qMM) (hp : PL_low x1 x2 μ) : EX (SL_low (rti 0 0 (QL_low x1 x2 μ)) (fun _ _ _ => False)) 0 [some (.int x1), some (.int x2)] [] [] μ (0, 0) := by
  have h : ¬ x2 = 0 := hp
  simp [eL_low_0, eL_low_1, eL_low_3, eL_low_4, eL_low_5, eL_low_6, rtv_at, rti_at, rtj_at, rtd_at, rta_at, qOk, qOkR, h, QL_low, lowF]
theorem xL_header (x1 : Int32) (x2 : Int32) (x3 : Int32) (x4 : Int32) (μ : qMM) (hp : PL_header x1 x2 x3 x4 μ) : EX (SL_header (rtj 0 0 (QL_header x1 x2 x3 x4 μ)) (fun _ _ _ => False)) 0 [some (.int x1), some (.int x2), some (.int x3), some (.int x4)] [] [] μ (0, 0) := by
  simp [eL_header_0, eL_header_1, eL_header_2, eL_header_5, eL_header_6, eL_header_7, eL_header_9, eL_header_10, eL_header_11, eL_header_12, eL_header_15, eL_header_16, eL_header_17, eL_header_19, eL_header_20, eL_header_21, eL_header_22, eL_header_25, eL_header_26, eL_header_27, eL_header_28, eL_header_29, rtv_at, rti_at, rtj_at, rtd_at, rta_at, qOk, qOkR, QL_header, hdF]
theorem xL_part (x1 : Int64) (x2 : Int32) (μ : qMM) (hp : PL_part x1 x2 μ) : EX (SL_part (rti 0 0 (QL_part x1 x2 μ)) (fun _ _ _ => False)) 0 [none, none, some (.int x2)] [some (.long x1), none, none] [] μ (0, 0) := by
  simp only [eL_part_0, eL_part_1, eL_part_4, eL_part_5, eL_part_7, eL_part_8, eL_part_9, eL_part_12, eL_part_13, eL_part_14, eL_part_17, eL_part_18, eL_part_20, eL_part_21, eL_part_24, eL_part_25, eL_part_26, eL_part_29, eL_part_30, eL_part_31, eL_part_34, eL_part_35, eL_part_36, eL_part_37, eL_part_40, eL_part_41, eL_part_42, eL_part_45, eL_part_46, eL_part_49, eL_part_50, eL_part_51, rtv_at, rti_at, rtj_at, rtd_at, rta_at, qOk, qOkR]
  by_cases h0 : x2 = 0
  · simp [h0, QL_part, ptF]
  · by_cases h1 : x2 = 1
    · simp [h0, h1, QL_part, ptF]
    · by_cases h2 : x2 = 2
      · simp [h0, h1, h2, QL_part, ptF]
      · simp [h0, h1, h2, QL_part, ptF]
theorem xL_moved (x1 : Int64) (x2 : Int32) (x3 : Int32) (μ : qMM) (hp : PL_moved x1 x2 x3 μ) : EX (SL_moved (rtj 0 0 (QL_moved x1 x2 x3 μ)) (fun _ _ _ => False)) 0 [none, none, some (.int x2), some (.int x3)] [some (.long x1), none, none, none] [] μ (0, 0) := by
  simp [eL_moved_0, eL_moved_1, eL_moved_2, eL_moved_5, eL_moved_6, eL_moved_7, eL_moved_10, eL_moved_11, eL_moved_12, eL_moved_15, eL_moved_16, eL_moved_17, eL_moved_18, eL_moved_19, eL_moved_20, eL_moved_23, eL_moved_24, eL_moved_25, eL_moved_28, eL_moved_29, eL_moved_30, eL_moved_31, eL_moved_32, eL_moved_33, eL_moved_36, eL_moved_39, rtv_at, rti_at, rtj_at, rtd_at, rta_at, qOk, qOkR, QL_moved, movF, PL_part, QL_part, PL_header, QL_header]
theorem xL_apart (x1 : Int32) (x2 : Int32) (μ : qMM) (hp : PL_apart x1 x2 μ) : EX (SL_apart (rti 0 0 (QL_apart x1 x2 μ)) (fun _ _ _ => False)) 0 [some (.int x1), some (.int x2)] [] [] μ (0, 0) := by
  simp [eL_apart_0, eL_apart_1, eL_apart_2, eL_apart_3, eL_apart_4, rtv_at, rti_at, rtj_at, rtd_at, rta_at, qOk, qOkR, QL_apart]
theorem xL_size (x1 : Int64) (x2 : Int64) (μ : qMM) (hp : PL_size x1 x2 μ) : EX (SL_size (rti 0 0 (QL_size x1 x2 μ)) (fun _ _ _ => False)) 0 [none, none, none, none, none, none, none] [some (.long x1), none, some (.long x2), none, none, none, none] [] μ (0, 0) := by
  simp only [eL_size_0, eL_size_1, eL_size_2, eL_size_5, eL_size_6, eL_size_7, eL_size_10, eL_size_13, eL_size_15, eL_size_16, eL_size_17, eL_size_20, eL_size_21, eL_size_22, eL_size_25, eL_size_28, eL_size_30, eL_size_31, eL_size_32, eL_size_33, eL_size_36, eL_size_37, eL_size_38, eL_size_41, eL_size_44, eL_size_45, eL_size_48, PL_part, QL_part, PL_apart, QL_apart, fEq, List.length_nil, List.length_cons, ll0, ll1, ll2, ll3, ll4, Nat.le_refl, and_true, Nat.zero_add, Nat.add_zero, Nat.zero_le, one0, eq_self, not_true_eq_false, not_false_eq_true, true_imp_iff, false_imp_iff, true_and, and_true, Classical.not_not, mrgI, mrgN]
  simp only [eL_size_49, eL_size_50, eL_size_51, eL_size_52, eL_size_55, eL_size_56, eL_size_57, eL_size_60, eL_size_63, eL_size_64, eL_size_67, PL_part, QL_part, PL_apart, QL_apart, fEq, List.length_nil, List.length_cons, ll0, ll1, ll2, ll3, ll4, Nat.le_refl, and_true, Nat.zero_add, Nat.add_zero, Nat.zero_le, one0, eq_self, not_true_eq_false, not_false_eq_true, true_imp_iff, false_imp_iff, true_and, and_true, Classical.not_not, mrgI, mrgN]
  simp only [eL_size_68, eL_size_69, eL_size_71, eL_size_73, eL_size_75, eL_size_78, eL_size_79, eL_size_82, eL_size_84, eL_size_87, eL_size_90, eL_size_92, eL_size_95, eL_size_98, eL_size_99, eL_size_102, one0, eq_self, not_true_eq_false, not_false_eq_true, true_imp_iff, false_imp_iff, true_and, and_true, Classical.not_not, mrgI, mrgN]
  simp only [eL_size_103, eL_size_104, eL_size_106, eL_size_108, eL_size_110, eL_size_113, eL_size_114, eL_size_117, eL_size_119, eL_size_122, eL_size_125, eL_size_127, eL_size_130, eL_size_133, eL_size_134, eL_size_137, one0, eq_self, not_true_eq_false, not_false_eq_true, true_imp_iff, false_imp_iff, true_and, and_true, Classical.not_not, mrgI, mrgN]
  simp only [eL_size_138, eL_size_139, rtv_at, rti_at, rtj_at, rtd_at, rta_at, qOk, qOkR, QL_size, siF, byF, one0, eq_self, not_true_eq_false, not_false_eq_true, true_imp_iff, false_imp_iff, true_and, and_true, Classical.not_not]
  exact ⟨Nat.le_refl _, Nat.le_refl _⟩
theorem xL_base (x1 : Nat) (x2 : Nat) (x3 : Int32) (x4 : Int32) (x5 : Int32) (μ : qMM) (hp : PL_base x1 x2 x3 x4 x5 μ) : EX (SL_base (rtj 0 0 (QL_base x1 x2 x3 x4 x5 μ)) (fun _ _ _ => False)) 0 [some (.ref x1), some (.ref x2), some (.int x3), some (.int x4), some (.int x5)] [] [] μ (0, 0) := by
  obtain ⟨h1, h2, r, hr, rfl⟩ := hp
  have v : vp_in (nI r) 64 := vp_in_nI hr (by decide)
  simp only [eL_base_0, eL_base_1, eL_base_2, eL_base_5, eL_base_6, eL_base_7, eL_base_8, eL_base_9, eL_base_10, eL_base_11, eL_base_13, eL_base_16, eL_base_19, eL_base_20, eL_base_21, eL_base_22, rtv_at, rti_at, rtj_at, rtd_at, rta_at, qOk, qOkR, qA_jA h1, qA_iA h2, v, PL_moved, QL_moved]
  by_cases h : x3 = 2
  · simp [h, QL_base, bsF]
  · simp [h, QL_base, bsF]
def lstT (ack : Nat → Int32) (c : Int32) (n : Nat) : Nat → Int32
  | 0 => -1
  | m + 1 => if ack m = 1 ∨ (0 < c ∧ c ≤ nI (n - m)) then nI m else lstT ack c n m
theorem lstT_r (ack : Nat → Int32) (c : Int32) (n : Nat) : ∀ k, lstT ack c n k = -1 ∨ ∃ m, m < k ∧ lstT ack c n k = nI m
  | 0 => Or.inl rfl
  | k + 1 => by
    unfold lstT
    split
    · exact Or.inr ⟨k, by omega, rfl⟩
    · rcases lstT_r ack c n k with h | ⟨m, h1, h2⟩
      · exact Or.inl h
      · exact Or.inr ⟨m, by omega, h2⟩
theorem lstT_t (ack : Nat → Int32) (c : Int32) (n : Nat) (hn : n ≤ 64) : ∀ k, k ≤ n → trust ack c n k = if 0 ≤ lstT ack c n k ∧ nI n - lstT ack c n k ≤ 15 then lstT ack c n k else -1
  | 0, _ => by simp [trust, lstT]
  | k + 1, hk => by
    have ih := lstT_t ack c n hn k (by omega)
    have e15 : (15 : Int32) = nI 15 := by decide
    unfold trust lstT
    by_cases g : ack k = 1 ∨ (0 < c ∧ c ≤ nI (n - k))
    · rw [if_pos g, if_pos g, pk_sub (by omega)]
      have h0 : (0 : Int32) ≤ nI k := nI_pos' (by omega)
      by_cases g2 : n - k ≤ 15
      · rw [if_pos g2, if_pos ⟨h0, by rw [e15]; exact nI_le g2 (by omega)⟩]
      · rw [if_neg g2, if_neg (fun q => by
          have := q.2
          rw [e15] at this
          exact g2 ((nI_leI (by omega) (by omega)).mp this))]
    · rw [if_neg g, if_neg g, ih]
      by_cases g2 : n - k ≤ 15
      · rw [if_pos g2]
      · rw [if_neg g2]
        rcases lstT_r ack c n k with h | ⟨m, h1, h2⟩
        · rw [h]; simp
        · rw [h2, pk_sub (by omega), if_neg (fun q => by
            have := q.2
            rw [e15] at this
            have := (nI_leI (by omega) (by omega)).mp this
            omega)]
theorem qArr_wR {μ : qMM} {a b ty : Nat} {f : Nat → Int32} {i : Int32} {k : Prop} : qArr (wR μ b f) a ty i k = qArr μ a ty i k := by
  unfold qArr
  rw [mS_wR]
theorem qArr_wL {μ : qMM} {a b c ty : Nat} {f : Int64} {i : Int32} {k : Prop} : qArr (wL μ b c f) a ty i k = qArr μ a ty i k := by
  unfold qArr
  rw [mS_wL]
theorem n0 {μ : qMM} {a : Nat} : mI μ a (0 : Int32).toNatClampNeg = mI μ a 0 := rfl
theorem vpn {i n : Nat} (h : i < n) (hn : n < 2 ^ 31) : vp_in (nI i) n := vp_in_nI h hn
theorem v0 {n : Nat} (h : 0 < n) : vp_in (0 : Int32) n := fun z => by
  rcases z with z | z
  · exact absurd z (by decide)
  · rw [ci0] at z
    omega
theorem xL_trusted_l (x1 x2 : Nat) (c : Int32) (μ : qMM) (h1 : iA μ x1 21) (h2 : iA μ x2 64) (n : Nat) (hn : n ≤ 64) (h0 : mI μ x1 0 = nI n) (R : Option Value → qMM → Nat × Nat → Prop) (X : String → qMM → Nat × Nat → Prop) (hR : R (some (.int (trust (akL (mI μ x2)) c n n))) μ (0, 0)) : ∀ k j : Nat, j + k = n → EX (SL_trusted R X) 5 [some (.ref x1), some (.ref x2), some (.int c), some (.int (lstT (akL (mI μ x2)) c n j)), some (.int (nI j))] [] [] μ (0, 0) := by
  intro k
  induction k with
  | zero =>
    intro j hj
    have : j = n := by omega
    subst this
    rw [eL_trusted_5]
    simp only [eL_trusted_7, eL_trusted_8, eL_trusted_9, eL_trusted_10, qA_iA h1, v0 (show 0 < 21 by decide), ci0, h0, true_and]
    refine ⟨fun _ => ?_, fun h => absurd (Int32.le_refl _) h⟩
    simp only [eL_trusted_55, eL_trusted_56, eL_trusted_59, eL_trusted_60, eL_trusted_61, eL_trusted_62, eL_trusted_63, eL_trusted_64, eL_trusted_66, eL_trusted_69, eL_trusted_70, eL_trusted_73, qA_iA h1, v0 (show 0 < 21 by decide), ci0, h0, true_and, mrgI, mrgN]
    simp only [eL_trusted_74, qOk, true_and]
    rw [lstT_t _ _ _ hn _ (Nat.le_refl _)] at hR
    have e : (if lstT (akL (mI μ x2)) c j j < 0 then (-1 : Int32) else if 15 < nI j - lstT (akL (mI μ x2)) c j j then -1 else lstT (akL (mI μ x2)) c j j) = if 0 ≤ lstT (akL (mI μ x2)) c j j ∧ nI j - lstT (akL (mI μ x2)) c j j ≤ 15 then lstT (akL (mI μ x2)) c j j else -1 := by
      by_cases g : lstT (akL (mI μ x2)) c j j < 0
      · rw [if_pos g, if_neg (fun q => Int32.not_lt.mpr q.1 g)]
      · rw [if_neg g]
        by_cases g2 : 15 < nI j - lstT (akL (mI μ x2)) c j j
        · rw [if_pos g2, if_neg (fun q => Int32.not_lt.mpr q.2 g2)]
        · rw [if_neg g2, if_pos ⟨Int32.not_lt.mp g, Int32.not_lt.mp g2⟩]
    rw [e]
    exact hR
  | succ k ih =>
    intro j hj
    rw [eL_trusted_5]
    have lt : ¬ nI n ≤ nI j := nI_ge (by omega) (by omega)
    simp only [eL_trusted_7, eL_trusted_8, eL_trusted_9, eL_trusted_10, qA_iA h1, v0 (show 0 < 21 by decide), ci0, h0, true_and]
    refine ⟨fun h => absurd h lt, fun _ => ?_⟩
    have vj : vp_in (nI j) 64 := vpn (by omega) (by decide)
    simp only [eL_trusted_13, eL_trusted_14, eL_trusted_16, eL_trusted_17, eL_trusted_20, eL_trusted_21, eL_trusted_23, eL_trusted_24, eL_trusted_25, eL_trusted_28, eL_trusted_29, eL_trusted_32, eL_trusted_33, eL_trusted_34, eL_trusted_35, eL_trusted_37, eL_trusted_38, eL_trusted_39, eL_trusted_42, eL_trusted_44, eL_trusted_47, qA_iA h1, qA_iA h2, vj, v0 (show 0 < 21 by decide), ci0, h0, true_and, mrgI, mrgN, (show ¬ (1000 : Int32) = 0 by decide), (show ¬ (10 : Int32) = 0 by decide), not_false_eq_true]
    simp only [eL_trusted_48, eL_trusted_49, eL_trusted_52]
    have h := ih (j + 1) (by omega)
    rw [nI_clamp (show j < 2 ^ 31 by omega), nI_1]
    unfold lstT at h
    have e : (if mI μ x2 j / 1000 - mI μ x2 j / 1000 / 10 * 10 = 1 then nI j else if c ≤ 0 then lstT (akL (mI μ x2)) c n j else if nI n - nI j < c then lstT (akL (mI μ x2)) c n j else nI j) = if akL (mI μ x2) j = 1 ∨ 0 < c ∧ c ≤ nI (n - j) then nI j else lstT (akL (mI μ x2)) c n j := by
      rw [pk_sub (by omega)]
      show (if akL (mI μ x2) j = 1 then _ else _) = _
      by_cases g : akL (mI μ x2) j = 1
      · rw [if_pos g, if_pos (Or.inl g)]
      · rw [if_neg g]
        by_cases g2 : c ≤ 0
        · rw [if_pos g2, if_neg (fun q => q.elim g (fun q => Int32.not_lt.mpr g2 q.1))]
        · rw [if_neg g2]
          by_cases g3 : nI (n - j) < c
          · rw [if_pos g3, if_neg (fun q => q.elim g (fun q => Int32.not_lt.mpr q.2 g3))]
          · rw [if_neg g3, if_pos (Or.inr ⟨Int32.not_le.mp g2, Int32.not_lt.mp g3⟩)]
    rw [e]
    exact h
theorem xL_trusted (x1 : Nat) (x2 : Nat) (x3 : Int32) (μ : qMM) (hp : PL_trusted x1 x2 x3 μ) : EX (SL_trusted (rti 0 0 (QL_trusted x1 x2 x3 μ)) (fun _ _ _ => False)) 0 [some (.ref x1), some (.ref x2), some (.int x3), none, none] [] [] μ (0, 0) := by
  obtain ⟨h1, h2, n, hn, h0⟩ := hp
  have h := xL_trusted_l x1 x2 x3 μ h1 h2 n hn h0 (rti 0 0 (QL_trusted x1 x2 x3 μ)) (fun _ _ _ => False) (by
    simp [rtv_at, rti_at, rtj_at, rtd_at, rta_at, qOk, qOkR, QL_trusted, h0, nI_clamp (show n < 2 ^ 31 by omega)]) n 0 (by omega)
  simp only [eL_trusted_0, eL_trusted_1, eL_trusted_2, eL_trusted_3]
  exact h
theorem xL_message (x1 : Nat) (x2 : Int32) (μ : qMM) (hp : PL_message x1 x2 μ) : EX (SL_message (rtv 0 0 (QL_message x1 x2 μ)) (fun _ _ _ => False)) 0 [some (.ref x1), some (.int x2)] [] [] μ (0, 0) := by
  obtain ⟨h1, n, hn, h2⟩ := hp
  have e20 : (20 : Int32) = nI 20 := rfl
  by_cases g : mI μ x1 0 < 20
  · have gn : n < 20 := by
      rw [h2, e20] at g
      exact (nI_ltI (by omega) (by omega)).mp g
    have e1 : mI μ x1 0 + 1 = nI (n + 1) := by rw [h2, nI_1]
    have vn : vp_in (nI (n + 1)) 22 := vpn (by omega) (by decide)
    simp [eL_message_0, eL_message_1, eL_message_2, eL_message_3, eL_message_5, eL_message_8, eL_message_9, eL_message_10, eL_message_11, eL_message_12, eL_message_13, eL_message_14, eL_message_15, eL_message_16, eL_message_17, eL_message_18, eL_message_19, eL_message_20, eL_message_21, rtv_at, rti_at, rtj_at, rtd_at, rta_at, qOk, qOkR, qArr_wR, qA_iA h1, QL_message, msF, v0 (show 0 < 22 by decide), g, Int32.not_le.mpr g, e1, wI_def, iA_wR, mI_wR, pk_us, vn, wR_wR]
  · simp [eL_message_0, eL_message_1, eL_message_2, eL_message_3, eL_message_5, eL_message_8, eL_message_9, eL_message_10, eL_message_11, eL_message_12, eL_message_13, eL_message_14, eL_message_15, eL_message_16, eL_message_17, eL_message_18, eL_message_19, eL_message_20, eL_message_21, rtv_at, rti_at, rtj_at, rtd_at, rta_at, qOk, qOkR, qA_iA h1, QL_message, msF, v0 (show 0 < 22 by decide), g, Int32.not_lt.mp g, wR_self]
theorem rem0 (y : Int32) : y - y / 64 * 64 = 0 ↔ slotOf y = 0 := by
  have h := rem64 y
  have h2 := slot_toInt y
  constructor
  · intro q
    rw [q] at h
    have h3 : y.toInt.tmod 64 = 0 := h.symm
    have := Int.emod_eq_zero_of_dvd (Int.dvd_of_tmod_eq_zero h3)
    omega
  · intro q
    apply Int32.toInt_inj.mp
    rw [h]
    show y.toInt.tmod 64 = 0
    exact Int.tmod_eq_zero_of_dvd (Int.dvd_of_emod_eq_zero (by omega))
theorem slot_st (l t : Int32) (j : Nat) (hj : j < 64) : slotOf (l + nI j - t) = 0 ↔ j = slotOf (t - l) := by
  have h1 := slot_toInt (l + nI j - t)
  have h2 := slot_toInt (t - l)
  have b1 := slot_lt (t - l)
  rw [Int32.toInt_sub, Int32.toInt_add, nI_toInt (by omega)] at h1
  rw [Int32.toInt_sub] at h2
  have m1 := Int.bmod_add_bdiv (l.toInt + (j : Int)) (2 ^ 32)
  have m2 := Int.bmod_add_bdiv ((l.toInt + (j : Int)).bmod (2 ^ 32) - t.toInt) (2 ^ 32)
  have m3 := Int.bmod_add_bdiv (t.toInt - l.toInt) (2 ^ 32)
  generalize ((l.toInt + (j : Int)).bmod (2 ^ 32) - t.toInt).bmod (2 ^ 32) = c1 at *
  generalize (l.toInt + (j : Int)).bmod (2 ^ 32) = c2 at *
  generalize (t.toInt - l.toInt).bmod (2 ^ 32) = c3 at *
  omega
theorem xL_numberFor_l (x1 : Nat) (t : Int32) (μ : qMM) (h1 : iA μ x1 21) (R : Option Value → qMM → Nat × Nat → Prop) (X : String → qMM → Nat × Nat → Prop) (hR : R (some (.int (nuF (mI μ x1) t))) μ (0, 0)) : ∀ k j : Nat, j + k = slotOf (t - (mI μ x1 10 - mI μ x1 7 + 1)) → EX (SL_numberFor R X) 12 [some (.ref x1), some (.int t), some (.int (mI μ x1 10 - mI μ x1 7 + 1 + nI j))] [] [] μ (0, 0) := by
  intro k
  generalize hl : mI μ x1 10 - mI μ x1 7 + 1 = l at *
  have hd : slotOf (t - l) < 64 := slot_lt _
  induction k with
  | zero =>
    intro j hj
    rw [eL_numberFor_12]
    have z : (l + nI j - t) - (l + nI j - t) / 64 * 64 = 0 := (rem0 _).mpr ((slot_st l t j (by omega)).mpr (by omega))
    simp only [eL_numberFor_13, eL_numberFor_14, eL_numberFor_15, eL_numberFor_17, eL_numberFor_18, z, (show ¬ (64 : Int32) = 0 by decide), not_false_eq_true, true_and]
    refine ⟨fun _ => ?_, fun h => absurd trivial h⟩
    simp only [eL_numberFor_27, eL_numberFor_28, qOk, true_and]
    unfold nuF at hR
    rw [hl, (slot_and (t - l)).1] at hR
    rw [show j = slotOf (t - l) by omega]
    exact hR
  | succ k ih =>
    intro j hj
    rw [eL_numberFor_12]
    have z : ¬ (l + nI j - t) - (l + nI j - t) / 64 * 64 = 0 := fun q => by
      have := (slot_st l t j (by omega)).mp ((rem0 _).mp q)
      omega
    simp only [eL_numberFor_13, eL_numberFor_14, eL_numberFor_15, eL_numberFor_17, eL_numberFor_18, z, (show ¬ (64 : Int32) = 0 by decide), not_false_eq_true, true_and]
    refine ⟨fun h => h.elim, fun _ => ?_⟩
    simp only [eL_numberFor_21, eL_numberFor_24]
    have h := ih (j + 1) (by omega)
    rw [← nI_1, ← Int32.add_assoc] at h
    exact h
theorem xL_numberFor (x1 : Nat) (x2 : Int32) (μ : qMM) (hp : PL_numberFor x1 x2 μ) : EX (SL_numberFor (rti 0 0 (QL_numberFor x1 x2 μ)) (fun _ _ _ => False)) 0 [some (.ref x1), some (.int x2), none] [] [] μ (0, 0) := by
  have h1 : iA μ x1 21 := hp
  have h := xL_numberFor_l x1 x2 μ h1 (rti 0 0 (QL_numberFor x1 x2 μ)) (fun _ _ _ => False) (by
    simp [rtv_at, rti_at, rtj_at, rtd_at, rta_at, qOk, qOkR, QL_numberFor]) _ 0 (Nat.zero_add _)
  have v10 : vp_in (10 : Int32) 21 := vpn (i := 10) (by decide) (by decide)
  have v7 : vp_in (7 : Int32) 21 := vpn (i := 7) (by decide) (by decide)
  simp only [eL_numberFor_0, eL_numberFor_1, eL_numberFor_3, eL_numberFor_4, eL_numberFor_5, eL_numberFor_7, eL_numberFor_8, eL_numberFor_9, eL_numberFor_10, eL_numberFor_11, qA_iA h1, v10, v7, true_and]
  rw [show nI 0 = 0 from rfl, Int32.add_zero] at h
  exact h
def shT (f : Nat → Int32) (i j : Nat) : Nat → Int32 := fun q => if 1 + i ≤ q ∧ q < j then f (q + 1) else f q
theorem xL_take_l (x1 n i : Nat) (c v : Int32) (μ : qMM) (h1 : iA μ x1 22) (hn : n ≤ 20) (hi : i < n) (h0 : mI μ x1 0 = nI n) (R : Option Value → qMM → Nat × Nat → Prop) (X : String → qMM → Nat × Nat → Prop) (hR : R (some (.int v)) (wR μ x1 (tkF (mI μ x1) n i)) (0, 0)) : ∀ k j : Nat, i < j → j + k = n → EX (SL_take R X) 10 [some (.ref x1), some (.int c), some (.int v), some (.int (nI j))] [] [] (wR μ x1 (shT (mI μ x1) i j)) (0, 0) := by
  intro k
  induction k with
  | zero =>
    intro j hij hj
    have : j = n := by omega
    subst this
    rw [eL_take_10]
    have e0 : shT (mI μ x1) i j 0 = nI j := by
      unfold shT
      rw [if_neg (by omega), h0]
    simp only [eL_take_11, eL_take_12, eL_take_13, eL_take_14, qArr_wR, qA_iA h1, v0 (show 0 < 22 by decide), ci0, mI_wR_s, e0, true_and]
    refine ⟨fun _ => ?_, fun h => absurd (Int32.le_refl _) h⟩
    simp only [eL_take_31, eL_take_32, eL_take_33, eL_take_34, eL_take_35, eL_take_36, eL_take_37, eL_take_38, eL_take_39, qArr_wR, qA_iA h1, v0 (show 0 < 22 by decide), ci0, mI_wR_s, e0, true_and, wI_def, wR_wR, qOk]
    have e : upd (shT (mI μ x1) i j) 0 (nI j - 1) = tkF (mI μ x1) j i := by
      funext q
      unfold tkF
      by_cases g : q = 0
      · subst g
        rw [pk_us, if_pos rfl, h0]
      · rw [pk_un g, if_neg g]
        rfl
    rw [e]
    exact hR
  | succ k ih =>
    intro j hij hj
    rw [eL_take_10]
    have e0 : shT (mI μ x1) i j 0 = nI n := by
      unfold shT
      rw [if_neg (by omega), h0]
    have lt : ¬ nI n ≤ nI j := nI_ge (by omega) (by omega)
    have vj : vp_in (nI j) 22 := vpn (by omega) (by decide)
    have vj1 : vp_in (nI (j + 1)) 22 := vpn (by omega) (by decide)
    simp only [eL_take_11, eL_take_12, eL_take_13, eL_take_14, qArr_wR, qA_iA h1, v0 (show 0 < 22 by decide), ci0, mI_wR_s, e0, true_and]
    refine ⟨fun h => absurd h lt, fun _ => ?_⟩
    simp only [eL_take_17, eL_take_18, eL_take_19, eL_take_20, eL_take_21, eL_take_22, eL_take_23, eL_take_24, eL_take_25, eL_take_28, nI_1, qArr_wR, qA_iA h1, vj, vj1, mI_wR_s, true_and, wI_def, wR_wR, nI_clamp (show j < 2 ^ 31 by omega), nI_clamp (show j + 1 < 2 ^ 31 by omega)]
    have e : upd (shT (mI μ x1) i j) j (shT (mI μ x1) i j (j + 1)) = shT (mI μ x1) i (j + 1) := by
      funext q
      by_cases g : q = j
      · subst g
        rw [pk_us]
        unfold shT
        rw [if_neg (by omega), if_pos (by omega)]
      · rw [pk_un g]
        unfold shT
        by_cases g2 : 1 + i ≤ q ∧ q < j
        · rw [if_pos g2, if_pos (by omega)]
        · rw [if_neg g2, if_neg (by omega)]
    rw [e]
    exact ih (j + 1) (by omega) (by omega)
theorem xL_take (x1 : Nat) (x2 : Int32) (μ : qMM) (hp : PL_take x1 x2 μ) : EX (SL_take (rti 0 0 (QL_take x1 x2 μ)) (fun _ _ _ => False)) 0 [some (.ref x1), some (.int x2), none, none] [] [] μ (0, 0) := by
  obtain ⟨h1, n, i, hn, hi, h0, rfl⟩ := hp
  have e1 : (1 : Int32) + nI i = nI (1 + i) := nI_add 1 i
  have e2 : nI i + 1 = nI (i + 1) := nI_1 i
  have vi : vp_in (nI (1 + i)) 22 := vpn (by omega) (by decide)
  have h := xL_take_l x1 n i (nI i) (mI μ x1 (1 + i)) μ h1 hn hi h0 (rti 0 0 (QL_take x1 (nI i) μ)) (fun _ _ _ => False) (by
    simp [rtv_at, rti_at, rtj_at, rtd_at, rta_at, qOk, qOkR, QL_take, h0, nI_clamp (show n < 2 ^ 31 by omega), nI_clamp (show i < 2 ^ 31 by omega)]) (n - (i + 1)) (i + 1) (by omega) (by omega)
  have e3 : shT (mI μ x1) i (i + 1) = mI μ x1 := by
    funext q
    unfold shT
    rw [if_neg (by omega)]
  rw [e3, wR_self] at h
  simp only [eL_take_0, eL_take_1, eL_take_2, eL_take_3, eL_take_4, eL_take_5, eL_take_6, eL_take_7, eL_take_8, eL_take_9, e1, e2, qA_iA h1, vi, true_and, nI_clamp (show 1 + i < 2 ^ 31 by omega)]
  exact h
theorem tu_r (g I : Nat → Int32) (c : Int32) {n : Nat} (hn : n ≤ 64) (h : g 0 = nI n) : tuF g I c = -1 ∨ ∃ m, m < n ∧ m < 64 ∧ tuF g I c = nI m := by
  unfold tuF
  rw [h, nI_clamp (by omega)]
  rcases trust_r (akL I) c n n with z | ⟨m, h1, h2, h3⟩
  · exact Or.inl z
  · exact Or.inr ⟨m, h1, by omega, h3⟩
theorem xL_next (x1 : Nat) (x2 : Nat) (x3 : Nat) (x4 : Nat) (x5 : Int64) (x6 : Int32) (x7 : Int32) (μ : qMM) (hp : PL_next x1 x2 x3 x4 x5 x6 x7 μ) : EX (SL_next (rti 0 0 (QL_next x1 x2 x3 x4 x5 x6 x7 μ)) (fun _ _ _ => False)) 0 [some (.ref x1), some (.ref x2), some (.ref x3), some (.ref x4), none, none, some (.int x6), some (.int x7), none] [none, none, none, none, some (.long x5), none, none, none, none] [] μ (0, 0) := by
  obtain ⟨h1, h2', h3', h4, n, hn, h0⟩ := hp
  have vv : vp_in (1 : Int32) 21 := vpn (i := 1) (by decide) (by decide)
  have ht : PL_trusted x1 x4 x7 μ := ⟨h1, h4, n, hn, h0⟩
  simp only [eL_next_0, eL_next_1, eL_next_2, eL_next_4, eL_next_7, ht, QL_trusted, fEq, List.length_nil, List.length_cons, ll0, ll1, ll2, ll3, ll4, Nat.le_refl, and_true, Nat.zero_add, Nat.add_zero, Nat.zero_le, one0, eq_self, not_true_eq_false, not_false_eq_true, true_imp_iff, false_imp_iff, true_and, and_true, Classical.not_not]
  have e : trust (akL (mI μ x4)) x7 (mI μ x1 0).toNatClampNeg (mI μ x1 0).toNatClampNeg = tuF (mI μ x1) (mI μ x4) x7 := rfl
  rw [e]
  have hr := tu_r (mI μ x1) (mI μ x4) x7 hn h0
  generalize hm : tuF (mI μ x1) (mI μ x4) x7 = m at *
  simp only [eL_next_9, eL_next_11, eL_next_14, eL_next_16, eL_next_19, eL_next_20, eL_next_21, eL_next_22, eL_next_23, eL_next_26, eL_next_28, qA_iA h1, vv, ci1, rtv_at, rti_at, rtj_at, rtd_at, rta_at, qOk, qOkR, one0, eq_self, not_true_eq_false, not_false_eq_true, true_imp_iff, false_imp_iff, true_and, and_true, Classical.not_not, Nat.le_refl, and_self]
  refine ⟨fun h => ?_, fun h => ⟨fun h2 => ?_, fun h2 => ⟨fun h3 => ?_, fun h3 => ?_⟩⟩⟩
  · refine ⟨?_, rfl⟩
    unfold nxF
    rw [if_pos (Or.inl h)]
  · refine ⟨?_, rfl⟩
    unfold nxF
    rw [hm, if_pos (Or.inr (Or.inl h2))]
  · obtain ⟨r, hr1, hr2, hr3⟩ := hr.resolve_left (fun q => h2 (by rw [q]; decide))
    have hb : PL_base x2 x3 x6 m (mI μ x1 0 - m) μ := ⟨h2', h3', r, hr2, hr3⟩
    simp only [eL_next_29, eL_next_31, eL_next_33, eL_next_34, eL_next_35, eL_next_37, eL_next_39, eL_next_40, eL_next_41, eL_next_42, eL_next_44, eL_next_45, eL_next_48, eL_next_51, eL_next_52, eL_next_54, eL_next_55, qA_iA h1, v0 (show 0 < 21 by decide), ci0, hb, QL_base, PL_size, QL_size, fEq, rtv_at, rti_at, rtj_at, rtd_at, rta_at, qOk, qOkR, List.length_nil, List.length_cons, ll0, ll1, ll2, ll3, ll4, Nat.le_refl, and_true, Nat.zero_add, Nat.add_zero, Nat.zero_le, one0, eq_self, not_true_eq_false, not_false_eq_true, true_imp_iff, false_imp_iff, true_and, and_true, Classical.not_not, and_self]
    refine ⟨?_, rfl⟩
    unfold nxF
    rw [hm, if_neg (fun q => q.elim h (fun q => q.elim h2 h3))]
  · refine ⟨?_, rfl⟩
    unfold nxF
    rw [hm, if_pos (Or.inr (Or.inr h3))]
theorem k9 {P : Nat → Prop} (h0 : P 0) (h1 : P 1) (h2 : P 2) (h3 : P 3) (h4 : P 4) (h5 : P 5) (h6 : P 6) (h7 : P 7) (h8 : P 8) : ∀ k, k < 9 → P k := fun k hk => by
  rcases (by omega : k = 0 ∨ k = 1 ∨ k = 2 ∨ k = 3 ∨ k = 4 ∨ k = 5 ∨ k = 6 ∨ k = 7 ∨ k = 8) with rfl | rfl | rfl | rfl | rfl | rfl | rfl | rfl | rfl <;> assumption
theorem m1_wR {μ : qMM} {a : Nat} {f : Nat → Int32} : (wR μ a f).1 = μ.1 := by cases μ; rfl
theorem m1_wL {μ : qMM} {a k : Nat} {f : Int64} : (wL μ a k f).1 = μ.1 := by cases μ; rfl
theorem mJ_wL {μ : qMM} {a k b : Nat} {v : Int64} : mJ (wL μ a k v) b = if b = a then vp_updL (mJ μ a) k v else mJ μ b := by cases μ; rfl
theorem LaS_1 {μ μ' : qMM} {a : Nat} (h : μ'.1 = μ.1) (k : LaS μ a) : LaS μ' a := by
  have e : ∀ b, mS μ' b = mS μ b := fun b => by unfold mS; rw [h]
  unfold LaS iA jA at k ⊢
  simp only [e]
  exact k
/-! the rows of the law as functions of their places -/
def up2 {α : Type} (I : Nat → α) (k : Nat) (f : α) : Nat → α := fun j => if j = k then f else I j
theorem up2_at {α : Type} {I : Nat → α} {k j : Nat} {f : α} : up2 I k f j = if j = k then f else I j := rfl
theorem up_at {f : Nat → Int32} {k j : Nat} {x : Int32} : upd f k x j = if j = k then x else f j := rfl
theorem up2_s {α : Type} {I : Nat → α} {k : Nat} {f : α} : up2 I k f k = f := if_pos rfl
theorem up2_2 {α : Type} {I : Nat → α} {k : Nat} {f g : α} : up2 (up2 I k f) k g = up2 I k g := by
  funext j
  unfold up2
  by_cases h : j = k <;> simp [h]
def lm (μ : qMM) (a : Nat) (I : Nat → Nat → Int32) (J : Nat → Nat → Int64) : qMM := (μ.1, (fun b => if a ≤ b ∧ b < a + 9 then I (b - a) else μ.2.1 b, fun b => if a ≤ b ∧ b < a + 9 then J (b - a) else μ.2.2 b))
theorem lm_self {μ : qMM} {a : Nat} : lm μ a (lI μ a) (lJ μ a) = μ := by
  obtain ⟨m1, m2, m3⟩ := μ
  unfold lm lI lJ mI mJ
  simp only [Prod.mk.injEq, true_and]
  constructor
  · funext b
    by_cases h : a ≤ b ∧ b < a + 9
    · rw [if_pos h, show a + (b - a) = b by omega]
    · rw [if_neg h]
  · funext b
    by_cases h : a ≤ b ∧ b < a + 9
    · rw [if_pos h, show a + (b - a) = b by omega]
    · rw [if_neg h]
theorem mI_lm {μ : qMM} {a k : Nat} {I : Nat → Nat → Int32} {J : Nat → Nat → Int64} (hk : k < 9) : mI (lm μ a I J) (a + k) = I k := by
  unfold lm mI
  dsimp only
  rw [if_pos (by omega), show a + k - a = k by omega]
theorem mI_lm0 {μ : qMM} {a : Nat} {I : Nat → Nat → Int32} {J : Nat → Nat → Int64} : mI (lm μ a I J) a = I 0 := mI_lm (k := 0) (by decide)
theorem mJ_lm {μ : qMM} {a k : Nat} {I : Nat → Nat → Int32} {J : Nat → Nat → Int64} (hk : k < 9) : mJ (lm μ a I J) (a + k) = J k := by
  unfold lm mJ
  dsimp only
  rw [if_pos (by omega), show a + k - a = k by omega]
theorem mI_lmo {μ : qMM} {a b : Nat} {I : Nat → Nat → Int32} {J : Nat → Nat → Int64} (h : ¬ (a ≤ b ∧ b < a + 9)) : mI (lm μ a I J) b = mI μ b := if_neg h
theorem mJ_lmo {μ : qMM} {a b : Nat} {I : Nat → Nat → Int32} {J : Nat → Nat → Int64} (h : ¬ (a ≤ b ∧ b < a + 9)) : mJ (lm μ a I J) b = mJ μ b := if_neg h
theorem wR_lm {μ : qMM} {a k : Nat} {I : Nat → Nat → Int32} {J : Nat → Nat → Int64} {f : Nat → Int32} (hk : k < 9) : wR (lm μ a I J) (a + k) f = lm μ a (up2 I k f) J := by
  unfold lm wR up2
  simp only [Prod.mk.injEq, and_true, true_and]
  funext b
  by_cases h : b = a + k
  · rw [if_pos h, if_pos (by omega), if_pos (by omega)]
  · rw [if_neg h]
    by_cases h2 : a ≤ b ∧ b < a + 9
    · rw [if_pos h2, if_pos h2, if_neg (by omega)]
    · rw [if_neg h2, if_neg h2]
theorem wR_lm0 {μ : qMM} {a : Nat} {I : Nat → Nat → Int32} {J : Nat → Nat → Int64} {f : Nat → Int32} : wR (lm μ a I J) a f = lm μ a (up2 I 0 f) J := wR_lm (k := 0) (by decide)
theorem wL_lm {μ : qMM} {a k c : Nat} {I : Nat → Nat → Int32} {J : Nat → Nat → Int64} {v : Int64} (hk : k < 9) : wL (lm μ a I J) (a + k) c v = lm μ a I (up2 J k (vp_updL (J k) c v)) := by
  unfold lm wL up2
  simp only [Prod.mk.injEq, true_and]
  funext b
  by_cases h : b = a + k
  · rw [if_pos h, if_pos (by omega), if_pos (by omega), if_pos (by omega), show a + k - a = k by omega]
  · rw [if_neg h]
    by_cases h2 : a ≤ b ∧ b < a + 9
    · rw [if_pos h2, if_pos h2, if_neg (by omega)]
    · rw [if_neg h2, if_neg h2]
theorem qArr_lm {μ : qMM} {a b ty : Nat} {I : Nat → Nat → Int32} {J : Nat → Nat → Int64} {i : Int32} {k : Prop} : qArr (lm μ a I J) b ty i k = qArr μ b ty i k := rfl
theorem iA_lm {μ : qMM} {a b n : Nat} {I : Nat → Nat → Int32} {J : Nat → Nat → Int64} : iA (lm μ a I J) b n ↔ iA μ b n := Iff.rfl
theorem jA_lm {μ : qMM} {a b n : Nat} {I : Nat → Nat → Int32} {J : Nat → Nat → Int64} : jA (lm μ a I J) b n ↔ jA μ b n := Iff.rfl
theorem lm_1 {μ : qMM} {a : Nat} {I : Nat → Nat → Int32} {J : Nat → Nat → Int64} : (lm μ a I J).1 = μ.1 := rfl
theorem LaU_lm {μ : qMM} {a : Nat} {I I' : Nat → Nat → Int32} {J J' : Nat → Nat → Int64} (hI : ∀ k, k < 9 → I k = I' k) (hJ : ∀ k, k < 9 → J k = J' k) : LaU μ (lm μ a I J) a I' J' := ⟨rfl, fun k hk => (mI_lm hk).trans (hI k hk), fun k hk => (mJ_lm hk).trans (hJ k hk), fun b hb => ⟨mI_lmo hb, mJ_lmo hb⟩⟩
theorem lI_lm {μ : qMM} {a k : Nat} {I : Nat → Nat → Int32} {J : Nat → Nat → Int64} (hk : k < 9) : lI (lm μ a I J) a k = I k := mI_lm hk
theorem l19 : (1 < 9) = True := eq_true (by decide)
theorem l29 : (2 < 9) = True := eq_true (by decide)
theorem l39 : (3 < 9) = True := eq_true (by decide)
theorem l49 : (4 < 9) = True := eq_true (by decide)
theorem l59 : (5 < 9) = True := eq_true (by decide)
theorem l69 : (6 < 9) = True := eq_true (by decide)
theorem l79 : (7 < 9) = True := eq_true (by decide)
theorem l89 : (8 < 9) = True := eq_true (by decide)
theorem j01 : ((0 : Nat) = 1) = False := eq_false (by decide)
theorem j02 : ((0 : Nat) = 2) = False := eq_false (by decide)
theorem j03 : ((0 : Nat) = 3) = False := eq_false (by decide)
theorem j04 : ((0 : Nat) = 4) = False := eq_false (by decide)
theorem j05 : ((0 : Nat) = 5) = False := eq_false (by decide)
theorem j06 : ((0 : Nat) = 6) = False := eq_false (by decide)
theorem j07 : ((0 : Nat) = 7) = False := eq_false (by decide)
theorem j08 : ((0 : Nat) = 8) = False := eq_false (by decide)
theorem j10 : ((1 : Nat) = 0) = False := eq_false (by decide)
theorem j12 : ((1 : Nat) = 2) = False := eq_false (by decide)
theorem j13 : ((1 : Nat) = 3) = False := eq_false (by decide)
theorem j14 : ((1 : Nat) = 4) = False := eq_false (by decide)
theorem j15 : ((1 : Nat) = 5) = False := eq_false (by decide)
theorem j20 : ((2 : Nat) = 0) = False := eq_false (by decide)
theorem j21 : ((2 : Nat) = 1) = False := eq_false (by decide)
theorem j23 : ((2 : Nat) = 3) = False := eq_false (by decide)
theorem j24 : ((2 : Nat) = 4) = False := eq_false (by decide)
theorem j25 : ((2 : Nat) = 5) = False := eq_false (by decide)
theorem j30 : ((3 : Nat) = 0) = False := eq_false (by decide)
theorem j31 : ((3 : Nat) = 1) = False := eq_false (by decide)
theorem j32 : ((3 : Nat) = 2) = False := eq_false (by decide)
theorem j34 : ((3 : Nat) = 4) = False := eq_false (by decide)
theorem j35 : ((3 : Nat) = 5) = False := eq_false (by decide)
theorem j40 : ((4 : Nat) = 0) = False := eq_false (by decide)
theorem j41 : ((4 : Nat) = 1) = False := eq_false (by decide)
theorem j42 : ((4 : Nat) = 2) = False := eq_false (by decide)
theorem j43 : ((4 : Nat) = 3) = False := eq_false (by decide)
theorem j45 : ((4 : Nat) = 5) = False := eq_false (by decide)
theorem j50 : ((5 : Nat) = 0) = False := eq_false (by decide)
theorem j51 : ((5 : Nat) = 1) = False := eq_false (by decide)
theorem j52 : ((5 : Nat) = 2) = False := eq_false (by decide)
theorem j53 : ((5 : Nat) = 3) = False := eq_false (by decide)
theorem j54 : ((5 : Nat) = 4) = False := eq_false (by decide)
theorem j56 : ((5 : Nat) = 6) = False := eq_false (by decide)
theorem j57 : ((5 : Nat) = 7) = False := eq_false (by decide)
theorem j58 : ((5 : Nat) = 8) = False := eq_false (by decide)
theorem j60 : ((6 : Nat) = 0) = False := eq_false (by decide)
theorem j65 : ((6 : Nat) = 5) = False := eq_false (by decide)
theorem j67 : ((6 : Nat) = 7) = False := eq_false (by decide)
theorem j68 : ((6 : Nat) = 8) = False := eq_false (by decide)
theorem j70 : ((7 : Nat) = 0) = False := eq_false (by decide)
theorem j71 : ((7 : Nat) = 1) = False := eq_false (by decide)
theorem j75 : ((7 : Nat) = 5) = False := eq_false (by decide)
theorem j76 : ((7 : Nat) = 6) = False := eq_false (by decide)
theorem j78 : ((7 : Nat) = 8) = False := eq_false (by decide)
theorem j80 : ((8 : Nat) = 0) = False := eq_false (by decide)
theorem j85 : ((8 : Nat) = 5) = False := eq_false (by decide)
theorem j86 : ((8 : Nat) = 6) = False := eq_false (by decide)
theorem j87 : ((8 : Nat) = 7) = False := eq_false (by decide)
theorem ite_false_ {α : Sort _} {a b : α} : (if False then a else b) = b := if_neg id
theorem ite_true_ {α : Sort _} {a b : α} : (if True then a else b) = a := if_pos trivial
theorem xL_send (x1 : Nat) (x2 : Nat) (x3 : Nat) (x4 : Nat) (x5 : Int64) (x6 : Nat) (μ : qMM) (hp : PL_send x1 x2 x3 x4 x5 x6 μ) : EX (SL_send (rtv 0 0 (QL_send x1 x2 x3 x4 x5 x6 μ)) (fun _ _ _ => False)) 0 [some (.ref x1), some (.ref x2), some (.ref x3), some (.ref x4), none, none, some (.ref x6), none, none, none] [none, none, none, none, some (.long x5), none, none, none, none, none] [] μ (0, 0) := by
  obtain ⟨hS, rfl, rfl, rfl, rfl, ⟨n, hn, h0, hm⟩, f, hf, hf0⟩ := hp
  obtain ⟨s0, s1, s2, s3, s4, s5, s6, s7, s8⟩ := id hS
  suffices h : EX (SL_send (rtv 0 0 (QL_send x1 (x1 + 1) (x1 + 2) (x1 + 3) x5 (x1 + 4) μ)) (fun _ _ _ => False)) 0 [some (.ref x1), some (.ref (x1 + 1)), some (.ref (x1 + 2)), some (.ref (x1 + 3)), none, none, some (.ref (x1 + 4)), none, none, none] [none, none, none, none, some (.long x5), none, none, none, none, none] [] (lm μ x1 (lI μ x1) (lJ μ x1)) (0, 0) by rwa [lm_self] at h
  unfold QL_send
  have h0 : lI μ x1 0 0 = nI n := h0
  have hm : nxF (lI μ x1 0) (lJ μ x1 1) (lI μ x1 2) (lI μ x1 3) x5 (lI μ x1 0 2) (lI μ x1 0 3) = 120 ∨ ∃ r, r < 64 ∧ tuF (lI μ x1 0) (lI μ x1 3) (lI μ x1 0 3) = nI r := hm
  have hf0 : lI μ x1 4 0 = nI f := hf0
  generalize lI μ x1 = I at *
  generalize lJ μ x1 = J at *
  have hx : PL_next x1 (x1 + 1) (x1 + 2) (x1 + 3) x5 (I 0 2) (I 0 3) (lm μ x1 I J) := ⟨s0, s1, s2, s3, n, by omega, by rw [mI_lm0]; exact h0⟩
  have ht : PL_trusted x1 (x1 + 3) (I 0 3) (lm μ x1 I J) := ⟨s0, s3, n, by omega, by rw [mI_lm0]; exact h0⟩
  have c2 : (2 : Int32).toNatClampNeg = 2 := by decide
  have c3 : (3 : Int32).toNatClampNeg = 3 := by decide
  have c18 : (18 : Int32).toNatClampNeg = 18 := by decide
  have c19 : (19 : Int32).toNatClampNeg = 19 := by decide
  have w2 : vp_in (2 : Int32) 21 := vpn (i := 2) (by decide) (by decide)
  have w3 : vp_in (3 : Int32) 21 := vpn (i := 3) (by decide) (by decide)
  have w4 : vp_in (4 : Int32) 21 := vpn (i := 4) (by decide) (by decide)
  have w1 : vp_in (1 : Int32) 21 := vpn (i := 1) (by decide) (by decide)
  have w18 : vp_in (18 : Int32) 21 := vpn (i := 18) (by decide) (by decide)
  have w19 : vp_in (19 : Int32) 21 := vpn (i := 19) (by decide) (by decide)
  have vn : vp_in (nI n) 64 := vpn hn (by decide)
  have vf : vp_in (nI (f + 1)) 22 := vpn (by omega) (by decide)
  simp only [eL_send_0, eL_send_1, eL_send_2, eL_send_3, eL_send_4, eL_send_6, eL_send_7, eL_send_8, eL_send_9, eL_send_10, eL_send_11, eL_send_12, eL_send_15, eL_send_17, eL_send_18, eL_send_19, eL_send_20, eL_send_21, eL_send_22, eL_send_25, eL_send_27, eL_send_28, eL_send_29, eL_send_30, eL_send_32, eL_send_33, eL_send_35, eL_send_37, eL_send_38, eL_send_39, eL_send_41, eL_send_43, mI_lm0, mI_lm, mJ_lm, qArr_lm, wL_lm, nI_clamp (show n < 2 ^ 31 by omega), hx, ht, QL_next, QL_trusted, fEq, qA_iA s0, qA_jA s1, v0 (show 0 < 21 by decide), w2, w3, ci0, c2, c3, List.length_nil, List.length_cons, ll0, ll1, ll2, ll3, ll4, Nat.le_refl, and_true, Nat.zero_add, Nat.add_zero, Nat.zero_le, one0, eq_self, not_true_eq_false, not_false_eq_true, true_imp_iff, false_imp_iff, true_and, and_true, Classical.not_not, (show (1 : Nat) < 9 by decide), (show (2 : Nat) < 9 by decide), (show (3 : Nat) < 9 by decide), h0, vn]
  have e1 : trust (akL (I 3)) (I 0 3) n n = tuF (I 0) (I 3) (I 0 3) := by
    unfold tuF
    rw [h0, nI_clamp (by omega)]
  rw [e1]
  have hq : ∀ k, (k ≠ 1 → seJ I J x5 k = J k) ∧ seJ I J x5 1 = vp_updL (J 1) n x5 := fun k => ⟨fun h => if_neg h, by
    unfold seJ
    rw [if_pos rfl, h0, nI_clamp (by omega)]⟩
  have hs0 : seI I J x5 0 = upd (upd (upd (upd (I 0) 1 0) 18 (I 0 18 + (if remF (nxF (I 0) (J 1) (I 2) (I 3) x5 (I 0 2) (I 0 3)) 10 = 0 then 1 else 0))) 19 (I 0 19 + (nxF (I 0) (J 1) (I 2) (I 3) x5 (I 0 2) (I 0 3)) / 10)) 0 (nI n + 1) := by
    unfold seI
    rw [if_pos rfl, h0]
  have hs2 : seI I J x5 2 = upd (I 2) n (if nxF (I 0) (J 1) (I 2) (I 3) x5 (I 0 2) (I 0 3) = 120 then I 0 4 else I 2 (tuF (I 0) (I 3) (I 0 3)).toNatClampNeg) := by
    unfold seI
    rw [if_neg (by decide), if_pos rfl, h0, nI_clamp (by omega)]
  have hs3 : seI I J x5 3 = upd (I 3) n (remF (nxF (I 0) (J 1) (I 2) (I 3) x5 (I 0 2) (I 0 3)) 10 + 4 * (if remF (nxF (I 0) (J 1) (I 2) (I 3) x5 (I 0 2) (I 0 3)) 10 = 0 then 0 else tuF (I 0) (I 3) (I 0 3) + 1) + 10000 * (nxF (I 0) (J 1) (I 2) (I 3) x5 (I 0 2) (I 0 3) / 10)) := by
    unfold seI
    rw [if_neg (by decide), if_neg (by decide), if_pos rfl, h0, nI_clamp (by omega)]
  have hs4 : seI I J x5 4 = upd (upd (I 4) 0 (nI f + 1)) (f + 1) (nI n) := by
    unfold seI
    rw [if_neg (by decide), if_neg (by decide), if_neg (by decide), if_pos rfl, hf0, h0, nI_1, nI_clamp (by omega)]
  have hso : ∀ k, k ≠ 0 → k ≠ 2 → k ≠ 3 → k ≠ 4 → seI I J x5 k = I k := fun k q0 q2 q3 q4 => by
    unfold seI
    rw [if_neg q0, if_neg q2, if_neg q3, if_neg q4]
  generalize seI I J x5 = I' at *
  generalize seJ I J x5 = J' at *
  generalize nxF (I 0) (J 1) (I 2) (I 3) x5 (I 0 2) (I 0 3) = its at *
  generalize tuF (I 0) (I 3) (I 0 3) = m at *
  have tail : ∀ v, v = (if its = 120 then I 0 4 else I 2 m.toNatClampNeg) → EX (SL_send (rtv 0 0 (fun μ' => LaU μ μ' x1 I' J')) (fun _ _ _ => False)) 58 [some (.ref x1), some (.ref (x1 + 1)), some (.ref (x1 + 2)), some (.ref (x1 + 3)), none, none, some (.ref (x1 + 4)), some (.int its), some (.int m), some (.int (nI n))] [none, none, none, none, some (.long x5), none, none, none, none, none] [.int v, .int (nI n), .ref (x1 + 2)] (lm μ x1 I (up2 J 1 (vp_updL (J 1) n x5))) (0, 0) := by
    intro v hv
    simp only [eL_send_58, eL_send_59, eL_send_60, eL_send_62, eL_send_64, eL_send_66, eL_send_67, eL_send_68, eL_send_70, eL_send_72, eL_send_73, eL_send_76, eL_send_77, eL_send_80, eL_send_82, eL_send_83, mI_lm0, mI_lm, mJ_lm, wR_lm, wR_lm0, wL_lm, qArr_lm, l19, l29, l39, l49, l59, l69, l79, l89, wI_def, up2_at, up2_2, pk_us, j10, j20, j21, j30, j31, j32, j40, j41, j42, j43, j50, j51, j52, j53, j54, j60, j70, j71, j80, j01, j02, j03, j04, j05, j06, j07, j08, j12, j13, j14, j15, j23, j24, j25, j34, j35, j45, j56, j57, j58, j65, j67, j68, j75, j76, j78, j85, j86, j87, ite_false_, ite_true_, qA_iA s2, vn, nI_clamp (show n < 2 ^ 31 by omega), (show ¬ (10 : Int32) = 0 by decide), one0, eq_self, not_true_eq_false, not_false_eq_true, true_imp_iff, false_imp_iff, true_and, and_true, Classical.not_not, mrgI, mrgN]
    simp only [eL_send_84, eL_send_85, eL_send_86, eL_send_89, eL_send_91, eL_send_93, eL_send_94, eL_send_95, eL_send_96, eL_send_97, eL_send_98, eL_send_99, eL_send_100, eL_send_101, eL_send_102, eL_send_104, eL_send_105, eL_send_106, eL_send_108, eL_send_110, eL_send_111, eL_send_114, eL_send_115, eL_send_118, mI_lm0, mI_lm, mJ_lm, wR_lm, wR_lm0, wL_lm, qArr_lm, l19, l29, l39, l49, l59, l69, l79, l89, wI_def, up2_at, up2_2, pk_us, j10, j20, j21, j30, j31, j32, j40, j41, j42, j43, j50, j51, j52, j53, j54, j60, j70, j71, j80, j01, j02, j03, j04, j05, j06, j07, j08, j12, j13, j14, j15, j23, j24, j25, j34, j35, j45, j56, j57, j58, j65, j67, j68, j75, j76, j78, j85, j86, j87, ite_false_, ite_true_, qA_iA s3, qA_iA s0, vn, w1, w18, ci1, c18, nI_clamp (show n < 2 ^ 31 by omega), (show ¬ (10 : Int32) = 0 by decide), one0, eq_self, not_true_eq_false, not_false_eq_true, true_imp_iff, false_imp_iff, true_and, and_true, Classical.not_not, mrgI, mrgN]
    simp only [eL_send_119, eL_send_120, eL_send_121, eL_send_122, eL_send_124, eL_send_125, eL_send_126, eL_send_128, eL_send_130, eL_send_131, eL_send_132, eL_send_133, eL_send_135, eL_send_136, eL_send_137, eL_send_138, eL_send_139, eL_send_140, eL_send_141, eL_send_143, eL_send_145, eL_send_146, mI_lm0, mI_lm, mJ_lm, wR_lm, wR_lm0, wL_lm, qArr_lm, l19, l29, l39, l49, l59, l69, l79, l89, wI_def, up2_at, up2_2, pk_us, j10, j20, j21, j30, j31, j32, j40, j41, j42, j43, j50, j51, j52, j53, j54, j60, j70, j71, j80, j01, j02, j03, j04, j05, j06, j07, j08, j12, j13, j14, j15, j23, j24, j25, j34, j35, j45, j56, j57, j58, j65, j67, j68, j75, j76, j78, j85, j86, j87, ite_false_, ite_true_, qA_iA s4, qA_iA s0, v0 (show 0 < 22 by decide), w18, w19, ci0, c18, c19, (show ¬ (10 : Int32) = 0 by decide), one0, eq_self, not_true_eq_false, not_false_eq_true, true_imp_iff, false_imp_iff, true_and, and_true, Classical.not_not, hf0, nI_1]
    simp only [eL_send_147, eL_send_149, eL_send_150, eL_send_151, eL_send_152, eL_send_153, eL_send_154, eL_send_155, eL_send_156, eL_send_157, mI_lm0, mI_lm, mJ_lm, wR_lm, wR_lm0, wL_lm, qArr_lm, l19, l29, l39, l49, l59, l69, l79, l89, wI_def, up2_at, up2_2, pk_us, j10, j20, j21, j30, j31, j32, j40, j41, j42, j43, j50, j51, j52, j53, j54, j60, j70, j71, j80, j01, j02, j03, j04, j05, j06, j07, j08, j12, j13, j14, j15, j23, j24, j25, j34, j35, j45, j56, j57, j58, j65, j67, j68, j75, j76, j78, j85, j86, j87, ite_false_, ite_true_, qA_iA s4, qA_iA s0, v0 (show 0 < 21 by decide), vf, ci0, one0, eq_self, not_true_eq_false, not_false_eq_true, true_imp_iff, false_imp_iff, true_and, and_true, Classical.not_not, rtv_at, rti_at, rtj_at, rtd_at, rta_at, qOk, qOkR, nI_clamp (show f + 1 < 2 ^ 31 by omega)]
    refine ⟨LaU_lm ?_ ?_, Nat.le_refl _, Nat.le_refl _⟩
    · refine k9 ?_ ?_ ?_ ?_ ?_ ?_ ?_ ?_ ?_
      · rw [hs0]
        simp [up2_at, up_at, h0]
      · rw [hso 1 (by decide) (by decide) (by decide) (by decide)]
        simp [up2_at]
      · rw [hs2]
        simp [up2_at, hv]
      · rw [hs3]
        simp [up2_at]
      · rw [hs4]
        simp [up2_at, nI_1]
      · rw [hso 5 (by decide) (by decide) (by decide) (by decide)]
        simp [up2_at]
      · rw [hso 6 (by decide) (by decide) (by decide) (by decide)]
        simp [up2_at]
      · rw [hso 7 (by decide) (by decide) (by decide) (by decide)]
        simp [up2_at]
      · rw [hso 8 (by decide) (by decide) (by decide) (by decide)]
        simp [up2_at]
    · intro k hk
      by_cases g : k = 1
      · subst g
        rw [(hq 0).2]
        simp [up2_at]
      · rw [(hq k).1 g]
        simp [up2_at, g]
  by_cases g : its = 120
  · have := tail (I 0 4) (by rw [if_pos g])
    simp only [eL_send_45, eL_send_48, eL_send_49, eL_send_50, eL_send_51, mI_lm0, mI_lm, mJ_lm, wR_lm, wR_lm0, wL_lm, qArr_lm, l19, l29, l39, l49, l59, l69, l79, l89, wI_def, up2_at, up2_2, pk_us, j10, j20, j21, j30, j31, j32, j40, j41, j42, j43, j50, j51, j52, j53, j54, j60, j70, j71, j80, j01, j02, j03, j04, j05, j06, j07, j08, j12, j13, j14, j15, j23, j24, j25, j34, j35, j45, j56, j57, j58, j65, j67, j68, j75, j76, j78, j85, j86, j87, ite_false_, ite_true_, qA_iA s0, w4, ci4, one0, eq_self, not_true_eq_false, not_false_eq_true, true_imp_iff, false_imp_iff, true_and, and_true, Classical.not_not, g, true_and]
    rw [g] at this
    exact this
  · obtain ⟨r, hr, hr2⟩ := hm.resolve_left g
    have := tail (I 2 m.toNatClampNeg) (by rw [if_neg g])
    have vr : vp_in m 64 := by rw [hr2]; exact vpn hr (by decide)
    simp only [eL_send_45, eL_send_54, eL_send_55, eL_send_57, mI_lm0, mI_lm, mJ_lm, wR_lm, wR_lm0, wL_lm, qArr_lm, l19, l29, l39, l49, l59, l69, l79, l89, wI_def, up2_at, up2_2, pk_us, j10, j20, j21, j30, j31, j32, j40, j41, j42, j43, j50, j51, j52, j53, j54, j60, j70, j71, j80, j01, j02, j03, j04, j05, j06, j07, j08, j12, j13, j14, j15, j23, j24, j25, j34, j35, j45, j56, j57, j58, j65, j67, j68, j75, j76, j78, j85, j86, j87, ite_false_, ite_true_, qA_iA s2, vr, one0, eq_self, not_true_eq_false, not_false_eq_true, true_imp_iff, false_imp_iff, true_and, and_true, Classical.not_not, g, true_and]
    exact this
