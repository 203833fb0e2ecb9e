/-! ===== bodies: the small static ones ===== -/
theorem xX8_inRange (x1 : Int32) (x2 : Int32) (x3 : Int32) (μ : qMM) (hp : PX8_inRange x1 x2 x3 μ) : EX (SX8_inRange (rti 0 0 (QX8_inRange x1 x2 x3 μ)) (fun _ _ _ => False)) 0 [some (.int x1), some (.int x2), some (.int x3)] [] [] μ (0, 0) := by
  simp only [eX8_inRange_0, eX8_inRange_1, eX8_inRange_2, eX8_inRange_5, eX8_inRange_6, eX8_inRange_7, eX8_inRange_10, eX8_inRange_11, eX8_inRange_14, eX8_inRange_15, rtv_at, rti_at, rtj_at, rtd_at, rta_at, qOk, qOkR, QX8_inRange]
  by_cases h1 : x2 ≤ x1 <;> by_cases h2 : x1 ≤ x3 <;> simp [h1, h2]
theorem xX3_wrapped (x1 : Int32) (μ : qMM) (hp : PX3_wrapped x1 μ) : EX (SX3_wrapped (rti 0 0 (QX3_wrapped x1 μ)) (fun _ _ _ => False)) 0 [some (.int x1)] [] [] μ (0, 0) := by
  simp only [eX3_wrapped_0, eX3_wrapped_1, eX3_wrapped_3, eX3_wrapped_4, rtv_at, rti_at, rtj_at, rtd_at, rta_at, qOk, qOkR, QX3_wrapped]
  simp
theorem xX3_difference (x1 : Int32) (x2 : Int32) (μ : qMM) (hp : PX3_difference x1 x2 μ) : EX (SX3_difference (rti 0 0 (QX3_difference x1 x2 μ)) (fun _ _ _ => False)) 0 [some (.int x1), some (.int x2)] [] [] μ (0, 0) := by
  simp only [eX3_difference_0, eX3_difference_1, eX3_difference_2, eX3_difference_3, eX3_difference_4, rtv_at, rti_at, rtj_at, rtd_at, rta_at, qOk, qOkR, QX3_difference]
  simp
theorem xX3_bytesOf (x1 : Int32) (μ : qMM) (hp : PX3_bytesOf x1 μ) : EX (SX3_bytesOf (rti 0 0 (QX3_bytesOf x1 μ)) (fun _ _ _ => False)) 0 [some (.int x1)] [] [] μ (0, 0) := by
  simp only [eX3_bytesOf_0, eX3_bytesOf_1, eX3_bytesOf_4, eX3_bytesOf_5, eX3_bytesOf_6, eX3_bytesOf_7, eX3_bytesOf_9, eX3_bytesOf_11, eX3_bytesOf_14, eX3_bytesOf_17, eX3_bytesOf_18, eX3_bytesOf_21, eX3_bytesOf_22, rtv_at, rti_at, rtj_at, rtd_at, rta_at, qOk, qOkR, PX8_inRange, QX8_inRange, QX3_bytesOf, bytesOf]
  by_cases h0 : x1 = 0 <;> by_cases h1 : (-128 : Int32) ≤ x1 <;> by_cases h2 : x1 ≤ 127 <;> simp [h0, h1, h2]
theorem xJ9_floorMod_7cf53 (x1 : Int32) (x2 : Int32) (μ : qMM) (hp : PJ9_floorMod_7cf53 x1 x2 μ) : EX (SJ9_floorMod_7cf53 (rti 0 0 (QJ9_floorMod_7cf53 x1 x2 μ)) (fun _ _ _ => False)) 0 [some (.int x1), some (.int x2), none] [] [] μ (0, 0) := by
  simp only [PJ9_floorMod_7cf53] at hp
  simp only [eJ9_floorMod_7cf53_0, eJ9_floorMod_7cf53_1, eJ9_floorMod_7cf53_2, eJ9_floorMod_7cf53_3, eJ9_floorMod_7cf53_4, eJ9_floorMod_7cf53_5, eJ9_floorMod_7cf53_6, eJ9_floorMod_7cf53_7, eJ9_floorMod_7cf53_10, eJ9_floorMod_7cf53_11, eJ9_floorMod_7cf53_14, eJ9_floorMod_7cf53_15, eJ9_floorMod_7cf53_16, eJ9_floorMod_7cf53_17, eJ9_floorMod_7cf53_18, eJ9_floorMod_7cf53_19, rtv_at, rti_at, rtj_at, rtd_at, rta_at, qOk, qOkR, QJ9_floorMod_7cf53, fmod]
  by_cases h0 : 0 ≤ x1 ^^^ x2 <;> by_cases h1 : x1 - x1 / x2 * x2 = 0 <;> simp [h0, h1, hp]
