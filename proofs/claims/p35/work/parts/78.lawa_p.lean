/-! ===== bodies: the law's own functions ===== -/
theorem xL_low (x1 : Int32) (x2 : Int32) (μ : qMM) (hp : PL_low x1 x2 μ) : EX (SL_low (rti 0 0 (QL_low x1 x2 μ)) (fun _ _ _ => False)) 0 [some (.int x1), some (.int x2)] [] [] μ (0, 0) := by
  have h : ¬ x2 = 0 := hp
  simp [eL_low_0, eL_low_1, eL_low_3, eL_low_4, eL_low_5, eL_low_6, rtv_at, rti_at, rtj_at, rtd_at, rta_at, qOk, qOkR, h, QL_low, lowF]
theorem xL_header (x1 : Int32) (x2 : Int32) (x3 : Int32) (x4 : Int32) (μ : qMM) (hp : PL_header x1 x2 x3 x4 μ) : EX (SL_header (rtj 0 0 (QL_header x1 x2 x3 x4 μ)) (fun _ _ _ => False)) 0 [some (.int x1), some (.int x2), some (.int x3), some (.int x4)] [] [] μ (0, 0) := by
  simp [eL_header_0, eL_header_1, eL_header_2, eL_header_5, eL_header_6, eL_header_7, eL_header_9, eL_header_10, eL_header_11, eL_header_12, eL_header_15, eL_header_16, eL_header_17, eL_header_19, eL_header_20, eL_header_21, eL_header_22, eL_header_25, eL_header_26, eL_header_27, eL_header_28, eL_header_29, rtv_at, rti_at, rtj_at, rtd_at, rta_at, qOk, qOkR, QL_header, hdF]
theorem xL_part (x1 : Int64) (x2 : Int32) (μ : qMM) (hp : PL_part x1 x2 μ) : EX (SL_part (rti 0 0 (QL_part x1 x2 μ)) (fun _ _ _ => False)) 0 [none, none, some (.int x2)] [some (.long x1), none, none] [] μ (0, 0) := by
  simp only [eL_part_0, eL_part_1, eL_part_4, eL_part_5, eL_part_7, eL_part_8, eL_part_9, eL_part_12, eL_part_13, eL_part_14, eL_part_17, eL_part_18, eL_part_20, eL_part_21, eL_part_24, eL_part_25, eL_part_26, eL_part_29, eL_part_30, eL_part_31, eL_part_34, eL_part_35, eL_part_36, eL_part_37, eL_part_40, eL_part_41, eL_part_42, eL_part_45, eL_part_46, eL_part_49, eL_part_50, eL_part_51, rtv_at, rti_at, rtj_at, rtd_at, rta_at, qOk, qOkR]
  by_cases h0 : x2 = 0
  · simp [h0, QL_part, ptF]
  · by_cases h1 : x2 = 1
    · simp [h0, h1, QL_part, ptF]
    · by_cases h2 : x2 = 2
      · simp [h0, h1, h2, QL_part, ptF]
      · simp [h0, h1, h2, QL_part, ptF]
theorem xL_moved (x1 : Int64) (x2 : Int32) (x3 : Int32) (μ : qMM) (hp : PL_moved x1 x2 x3 μ) : EX (SL_moved (rtj 0 0 (QL_moved x1 x2 x3 μ)) (fun _ _ _ => False)) 0 [none, none, some (.int x2), some (.int x3)] [some (.long x1), none, none, none] [] μ (0, 0) := by
  simp [eL_moved_0, eL_moved_1, eL_moved_2, eL_moved_5, eL_moved_6, eL_moved_7, eL_moved_10, eL_moved_11, eL_moved_12, eL_moved_15, eL_moved_16, eL_moved_17, eL_moved_18, eL_moved_19, eL_moved_20, eL_moved_23, eL_moved_24, eL_moved_25, eL_moved_28, eL_moved_29, eL_moved_30, eL_moved_31, eL_moved_32, eL_moved_33, eL_moved_36, eL_moved_39, rtv_at, rti_at, rtj_at, rtd_at, rta_at, qOk, qOkR, QL_moved, movF, PL_part, QL_part, PL_header, QL_header]
theorem xL_apart (x1 : Int32) (x2 : Int32) (μ : qMM) (hp : PL_apart x1 x2 μ) : EX (SL_apart (rti 0 0 (QL_apart x1 x2 μ)) (fun _ _ _ => False)) 0 [some (.int x1), some (.int x2)] [] [] μ (0, 0) := by
  simp [eL_apart_0, eL_apart_1, eL_apart_2, eL_apart_3, eL_apart_4, rtv_at, rti_at, rtj_at, rtd_at, rta_at, qOk, qOkR, QL_apart]
theorem xL_size (x1 : Int64) (x2 : Int64) (μ : qMM) (hp : PL_size x1 x2 μ) : EX (SL_size (rti 0 0 (QL_size x1 x2 μ)) (fun _ _ _ => False)) 0 [none, none, none, none, none, none, none] [some (.long x1), none, some (.long x2), none, none, none, none] [] μ (0, 0) := by
  simp [eL_size_0, eL_size_1, eL_size_2, eL_size_5, eL_size_6, eL_size_7, eL_size_10, eL_size_13, eL_size_15, eL_size_16, eL_size_17, eL_size_20, eL_size_21, eL_size_22, eL_size_25, eL_size_28, eL_size_30, eL_size_31, eL_size_32, eL_size_33, eL_size_36, eL_size_37, eL_size_38, eL_size_41, eL_size_44, eL_size_45, eL_size_48, eL_size_49, eL_size_50, eL_size_51, eL_size_52, eL_size_55, eL_size_56, eL_size_57, eL_size_60, eL_size_63, eL_size_64, eL_size_67, eL_size_68, eL_size_69, eL_size_71, eL_size_73, eL_size_75, eL_size_78, eL_size_79, eL_size_82, eL_size_84, eL_size_87, eL_size_90, eL_size_92, eL_size_95, eL_size_98, eL_size_99, eL_size_102, eL_size_103, eL_size_104, eL_size_106, eL_size_108, eL_size_110, eL_size_113, eL_size_114, eL_size_117, eL_size_119, eL_size_122, eL_size_125, eL_size_127, eL_size_130, eL_size_133, eL_size_134, eL_size_137, eL_size_138, eL_size_139, rtv_at, rti_at, rtj_at, rtd_at, rta_at, qOk, qOkR, QL_size, siF, PL_part, QL_part, PL_apart, QL_apart, byF]
  sorry
theorem xL_base (x1 : Nat) (x2 : Nat) (x3 : Int32) (x4 : Int32) (x5 : Int32) (μ : qMM) (hp : PL_base x1 x2 x3 x4 x5 μ) : EX (SL_base (rtj 0 0 (QL_base x1 x2 x3 x4 x5 μ)) (fun _ _ _ => False)) 0 [some (.ref x1), some (.ref x2), some (.int x3), some (.int x4), some (.int x5)] [] [] μ (0, 0) := by
  obtain ⟨h1, h2, r, hr, rfl⟩ := hp
  have v : vp_in (nI r) 64 := vp_in_nI hr (by decide)
  simp only [eL_base_0, eL_base_1, eL_base_2, eL_base_5, eL_base_6, eL_base_7, eL_base_8, eL_base_9, eL_base_10, eL_base_11, eL_base_13, eL_base_16, eL_base_19, eL_base_20, eL_base_21, eL_base_22, rtv_at, rti_at, rtj_at, rtd_at, rta_at, qOk, qOkR, qA_jA h1, qA_iA h2, v, PL_moved, QL_moved]
  by_cases h : x3 = 2
  · simp [h, QL_base, bsF]
  · simp [h, QL_base, bsF]
theorem xL_message (x1 : Nat) (x2 : Int32) (μ : qMM) (hp : PL_message x1 x2 μ) : EX (SL_message (rtv 0 0 (QL_message x1 x2 μ)) (fun _ _ _ => False)) 0 [some (.ref x1), some (.int x2)] [] [] μ (0, 0) := by
  obtain ⟨h1, n, hn, h2⟩ := hp
  simp only [eL_message_0, eL_message_1, eL_message_2, eL_message_3, eL_message_5, eL_message_8, eL_message_9, eL_message_10, eL_message_11, eL_message_12, eL_message_13, eL_message_14, eL_message_15, eL_message_16, eL_message_17, eL_message_18, eL_message_19, eL_message_20, eL_message_21, rtv_at, rti_at, rtj_at, rtd_at, rta_at, qOk, qOkR, qA_iA h1, QL_message, msF]
  sorry
