/-! ===== what the law's steps leave agrees with what the state becomes ===== -/
theorem nOfE {s t : Nat → Int32} (h : t 9 = s 9) : nOf t = nOf s := by
  unfold nOf
  rw [h]
theorem PaR_congr {I I' : Nat → Nat → Int32} {J J' : Nat → Nat → Int64} {s t : Nat → Int32} {p : Nat} (h : ∀ j, j < 10 → t (514 + 10 * p + j) = s (514 + 10 * p + j)) (h1 : J' 1 p = J 1 p) (h2 : I' 2 p = I 2 p) (h3 : I' 3 p = I 3 p) (k : PaR I J s p) : PaR I' J' t p := by
  unfold PaR
  rw [h1, h2, h3, h 4 (by decide), h 5 (by decide), h 6 (by decide), h 7 (by decide), h 8 (by decide), h 9 (by decide)]
  exact ⟨Hd_congr (fun i hi => h i (by omega)) k.1, k.2⟩
theorem LnR_congr {f s t : Nat → Int32} {k : Nat} (h : ∀ j, k ≤ j → j ≤ k + 20 → t j = s j) (hn : ∃ n : Nat, n ≤ 20 ∧ s k = nI n) (q : LnR f s k) : LnR f t k := by
  obtain ⟨n, hn, e⟩ := hn
  refine ⟨q.1.trans (h k (by omega) (by omega)).symm, fun i hi => ?_⟩
  rw [h k (by omega) (by omega)] at hi
  have := hi
  rw [e, nI_clamp (by omega)] at this
  rw [q.2 i hi, h _ (by omega) (by omega)]
theorem KaR_congr {I I' : Nat → Nat → Int32} {J J' : Nat → Nat → Int64} {s t : Nat → Int32} (h : ∀ j, 66 ≤ j → j < 514 → t j = s j) (h6 : I' 6 = I 6) (h7 : J' 7 = J 7) (h8 : I' 8 = I 8) (q : KaR I J s) : KaR I' J' t := by
  intro j hj
  obtain ⟨q1, q2⟩ := q j hj
  rw [h6, h7, h8, h _ (by omega) (by omega), h (67 + 7 * j + 4) (by omega) (by omega), h (67 + 7 * j + 5) (by omega) (by omega)]
  refine ⟨q1, fun g => ⟨Hd_congr (fun i hi => h _ (by omega) (by omega)) (q2 g).1, (q2 g).2⟩⟩
theorem GaR_congr {g s t : Nat → Int32} (h : ∀ j, (4 ≤ j ∧ j ≤ 9) ∨ (52 ≤ j ∧ j ≤ 65) → t j = s j) (q : GaR g s) : GaR g t := by
  obtain ⟨q0, q1, q2, q3, q4, q7, q8, q9, q10⟩ := q
  refine ⟨?_, ?_, ?_, ?_, ?_, ?_, ?_, ?_, fun i h1 h2 => ?_⟩
  · rw [h 9 (by omega)]; exact q0
  · rw [h 8 (by omega)]; exact q1
  · rw [h 6 (by omega)]; exact q2
  · rw [h 7 (by omega)]; exact q3
  · rw [h 4 (by omega), h 5 (by omega)]; exact q4
  · rw [h 52 (by omega)]; exact q7
  · rw [h 53 (by omega)]; exact q8
  · rw [h 54 (by omega)]; exact q9
  · rw [h _ (by omega)]; exact q10 i h1 h2
theorem Iv_b {H : Nat} {s : Nat → Int32} (iv : Iv H s) : ∃ b : Nat, b ≤ 20 ∧ s 31 = nI b := by
  obtain ⟨-, -, ⟨b, hb, h31, -⟩, -⟩ := iv
  exact ⟨b, hb, h31⟩
/-- the header alone has changed -/
theorem LwR_now {H : Nat} {I : Nat → Nat → Int32} {J : Nat → Nat → Int64} {s t : Nat → Int32} {now now' : Int64} (iv : Iv H s) (h : ∀ j, 4 ≤ j → t j = s j) (hd : Hd now' t) (k : LwR I J s now) : LwR I J t now' := by
  obtain ⟨-, k2, k3, k4, k5, k6, k7⟩ := k
  have e := nOfE (h 9 (by decide))
  refine ⟨hd, GaR_congr (fun j hj => h j (by omega)) k2, fun p hp => PaR_congr (fun j hj => h _ (by omega)) rfl rfl rfl (k3 p (by rw [← e]; exact hp)), LnR_congr (fun j h1 h2 => h j (by omega)) (Iv_n iv).2 k4, LnR_congr (fun j h1 h2 => h j (by omega)) (Iv_b iv) k5, KaR_congr (fun j h1 h2 => h j (by omega)) rfl rfl rfl k6, by rw [e]; exact k7⟩
/-- the numbers alone have changed -/
theorem LwR_g {H : Nat} {I I' : Nat → Nat → Int32} {J : Nat → Nat → Int64} {s t : Nat → Int32} {now : Int64} (iv : Iv H s) (h : ∀ j, ¬ (4 ≤ j ∧ j ≤ 8) → ¬ (52 ≤ j ∧ j ≤ 54) → t j = s j) (hI : ∀ k, k ≠ 0 → I' k = I k) (g : GaR (I' 0) t) (k : LwR I J s now) : LwR I' J t now := by
  obtain ⟨k1, k2, k3, k4, k5, k6, k7⟩ := k
  have e := nOfE (h 9 (by decide) (by decide))
  refine ⟨Hd_congr (fun i hi => h i (by omega) (by omega)) k1, g, fun p hp => PaR_congr (fun j hj => h _ (by omega) (by omega)) rfl (by rw [hI 2 (by decide)]) (by rw [hI 3 (by decide)]) (k3 p (by rw [← e]; exact hp)), ?_, ?_, KaR_congr (fun j h1 h2 => h j (by omega) (by omega)) (hI 6 (by decide)) rfl (hI 8 (by decide)) k6, by rw [e]; exact k7⟩
  · rw [hI 4 (by decide)]
    exact LnR_congr (fun j h1 h2 => h j (by omega) (by omega)) (Iv_n iv).2 k4
  · rw [hI 5 (by decide)]
    exact LnR_congr (fun j h1 h2 => h j (by omega) (by omega)) (Iv_b iv) k5
/-- a link alone has changed -/
theorem LwR_l {H : Nat} {I I' : Nat → Nat → Int32} {J : Nat → Nat → Int64} {s t : Nat → Int32} {now : Int64} (iv : Iv H s) (h : ∀ j, ¬ (10 ≤ j ∧ j ≤ 51) → t j = s j) (hI : ∀ k, k ≠ 4 → k ≠ 5 → I' k = I k) (h4 : LnR (I' 4) t 10) (h5 : LnR (I' 5) t 31) (k : LwR I J s now) : LwR I' J t now := by
  obtain ⟨k1, k2, k3, k4, k5, k6, k7⟩ := k
  have e := nOfE (h 9 (by decide))
  refine ⟨Hd_congr (fun i hi => h i (by omega)) k1, ?_, fun p hp => PaR_congr (fun j hj => h _ (by omega)) rfl (by rw [hI 2 (by decide) (by decide)]) (by rw [hI 3 (by decide) (by decide)]) (k3 p (by rw [← e]; exact hp)), h4, h5, KaR_congr (fun j h1 h2 => h j (by omega)) (hI 6 (by decide) (by decide)) rfl (hI 8 (by decide) (by decide)) k6, by rw [e]; exact k7⟩
  rw [hI 0 (by decide) (by decide)]
  exact GaR_congr (fun j hj => h j (by omega)) k2
theorem LnR_take {f s : Nat → Int32} {k n i : Nat} (q : LnR f s k) (h : s k = nI n) (hn : n ≤ 20) (hi : i < n) : LnR (tkF f n i) (takeF s k i) k := by
  obtain ⟨t1, t2⟩ := take_in hn h hi
  refine ⟨?_, fun j hj => ?_⟩
  · rw [t1]
    unfold tkF
    rw [if_pos rfl, q.1, h, show (1 : Int32) = nI 1 from rfl, pk_sub (by omega)]
  · rw [t1, nI_clamp (by omega)] at hj
    rw [t2 j hj]
    have q2 : ∀ m, m < n → f (1 + m) = s (k + 1 + m) := fun m hm => q.2 m (by rw [h, nI_clamp (by omega)]; exact hm)
    unfold tkF
    rw [if_neg (by omega)]
    by_cases g : j < i
    · rw [if_neg (by omega), if_pos g, q2 j (by omega)]
    · rw [if_pos (by omega), if_neg g, show 1 + j + 1 = 1 + (j + 1) by omega, q2 (j + 1) (by omega)]
theorem LnR_join {f s : Nat → Int32} {k n : Nat} {v : Int32} (q : LnR f s k) (h : s k = nI n) (hn : n < 20) : LnR (upd (upd f 0 (nI (n + 1))) (n + 1) v) (joinF k v s) k := by
  obtain ⟨t1, t2, t3⟩ := join_in (v := v) hn h
  refine ⟨?_, fun j hj => ?_⟩
  · rw [upd_n (by omega), upd_s, t1]
  · rw [t1, nI_clamp (by omega)] at hj
    by_cases g : j = n
    · subst g
      rw [show 1 + j = j + 1 by omega, upd_s, show k + 1 + j = k + (j + 1) by omega, t2]
    · rw [upd_n (by omega), upd_n (by omega), t3 j (by omega), q.2 j (by rw [h, nI_clamp (by omega)]; omega)]
theorem ms_at {f : Nat → Int32} {n : Nat} {v : Int32} (h : f 0 = nI n) (hn : n < 20) : msF f v = upd (upd f 0 (nI (n + 1))) (n + 1) v := by
  unfold msF
  have g : nI n < 20 := (nI_ltI (b := 20) (by omega) (by decide)).mpr hn
  rw [h, if_pos g, nI_1, nI_clamp (by omega)]
theorem LnR_ms {f s : Nat → Int32} {k n : Nat} {v : Int32} (q : LnR f s k) (h : s k = nI n) (hn : n ≤ 20) : LnR (msF f v) (joinF k v s) k := by
  by_cases g : n = 20
  · subst g
    rw [join_full h]
    unfold msF
    rw [q.1, h, if_neg (by decide)]
    exact q
  · rw [ms_at (q.1.trans h) (by omega)]
    exact LnR_join q h (by omega)
theorem take10_ok {H : Nat} {I I' : Nat → Nat → Int32} {J : Nat → Nat → Int64} {s : Nat → Int32} {now : Int64} {n i : Nat} (iv : Iv H s) (k : LwR I J s now) (h : s 10 = nI n) (hn : n ≤ 20) (hi : i < n) (hI : ∀ k, k ≠ 4 → I' k = I k) (h4 : I' 4 = tkF (I 4) n i) : LwR I' J (takeF s 10 i) now := by
  have o : ∀ j, j < 10 ∨ 30 < j → takeF s 10 i j = s j := fun j hj => take_o (by rw [h, nI_clamp (by omega)]; omega)
  refine LwR_l iv (fun j hj => o j (by omega)) (fun k h4 _ => hI k h4) ?_ ?_ k
  · rw [h4]
    exact LnR_take k.2.2.2.1 h hn hi
  · rw [hI 5 (by decide)]
    exact LnR_congr (fun j h1 h2 => o j (by omega)) (Iv_b iv) k.2.2.2.2.1
theorem take31_ok {H : Nat} {I I' : Nat → Nat → Int32} {J : Nat → Nat → Int64} {s : Nat → Int32} {now : Int64} {n i : Nat} (iv : Iv H s) (k : LwR I J s now) (h : s 31 = nI n) (hn : n ≤ 20) (hi : i < n) (hI : ∀ k, k ≠ 5 → I' k = I k) (h5 : I' 5 = tkF (I 5) n i) : LwR I' J (takeF s 31 i) now := by
  have o : ∀ j, j < 31 ∨ 51 < j → takeF s 31 i j = s j := fun j hj => take_o (by rw [h, nI_clamp (by omega)]; omega)
  refine LwR_l iv (fun j hj => o j (by omega)) (fun k _ h5 => hI k h5) ?_ ?_ k
  · rw [hI 4 (by decide)]
    exact LnR_congr (fun j h1 h2 => o j (by omega)) (Iv_n iv).2 k.2.2.2.1
  · rw [h5]
    exact LnR_take k.2.2.2.2.1 h hn hi
theorem join10_ok {H : Nat} {I I' : Nat → Nat → Int32} {J : Nat → Nat → Int64} {s : Nat → Int32} {now : Int64} {n : Nat} {v : Int32} (iv : Iv H s) (k : LwR I J s now) (h : s 10 = nI n) (hn : n < 20) (hI : ∀ k, k ≠ 4 → I' k = I k) (h4 : I' 4 = upd (upd (I 4) 0 (nI (n + 1))) (n + 1) v) : LwR I' J (joinF 10 v s) now := by
  have o : ∀ j, j < 10 ∨ 30 < j → joinF 10 v s j = s j := fun j hj => join_o (by omega) h (by omega)
  refine LwR_l iv (fun j hj => o j (by omega)) (fun k h4 _ => hI k h4) ?_ ?_ k
  · rw [h4]
    exact LnR_join k.2.2.2.1 h hn
  · rw [hI 5 (by decide)]
    exact LnR_congr (fun j h1 h2 => o j (by omega)) (Iv_b iv) k.2.2.2.2.1
/-- a message is heard -/
theorem hear_ok {H : Nat} {I I' : Nat → Nat → Int32} {J : Nat → Nat → Int64} {s : Nat → Int32} {now : Int64} {v : Int32} (iv : Iv H s) (k : LwR I J s now) (hv : v = -1 ∨ ∃ x : Nat, x < 2 ^ 31 ∧ v = nI x) (hI : ∀ k, k ≠ 0 → k ≠ 3 → I' k = I k) (h0 : I' 0 = if v = -1 then upd (I 0) 1 1 else I 0) (h3 : I' 3 = if ¬ v = -1 ∧ v < s 9 ∧ akL (I 3) v.toNatClampNeg = 0 then upd (I 3) v.toNatClampNeg (I 3 v.toNatClampNeg + 1000) else I 3) : LwR I' J (hearF s v) now := by
  rcases hv with rfl | ⟨x, hx, rfl⟩
  · rw [if_pos rfl] at h0
    rw [if_neg (fun q => q.1 rfl)] at h3
    unfold hearF
    rw [if_pos rfl]
    refine LwR_g iv (fun j h1 h2 => upd_n (by omega)) (fun k hk => ?_) ?_ k
    · by_cases g : k = 3
      · rw [g]; exact h3
      · exact hI k hk g
    · rw [h0]
      obtain ⟨q0, q1, q2, q3, q4, q7, q8, q9, q10⟩ := k.2.1
      refine ⟨?_, ?_, ?_, ?_, ?_, ?_, ?_, ?_, fun i h1 h2 => ?_⟩
      · rw [upd_n (by decide), upd_n (by decide)]; exact q0
      · rw [upd_s, upd_s]
      · rw [upd_n (by decide), upd_n (by decide)]; exact q2
      · rw [upd_n (by decide), upd_n (by decide)]; exact q3
      · rw [upd_n (by decide), upd_n (by decide), upd_n (by decide)]; exact q4
      · rw [upd_n (by decide), upd_n (by decide)]; exact q7
      · rw [upd_n (by decide), upd_n (by decide)]; exact q8
      · rw [upd_n (by decide), upd_n (by decide)]; exact q9
      · rw [upd_n (by omega), upd_n (by omega)]; exact q10 i h1 h2
  · have nm : ¬ nI x = -1 := nI_m1 hx
    rw [if_neg nm] at h0
    unfold hearF
    rw [if_neg nm]
    rw [nI_clamp hx] at h3 ⊢
    obtain ⟨k1, k2, k3, k4, k5, k6, k7⟩ := id k
    obtain ⟨e9, -⟩ := Iv_n iv
    have I0 : ∀ k, k ≠ 3 → I' k = I k := fun k hk => by
      by_cases g : k = 0
      · rw [g]; exact h0
      · exact hI k g hk
    have same : ∀ t, I' 3 = I 3 → t = s → LwR I' J t now := fun t e1 e2 => by
      have : I' = I := by
        funext k
        by_cases g : k = 3
        · rw [g]; exact e1
        · exact I0 k g
      rw [this, e2]
      exact k
    by_cases g : nI x < s 9
    · rw [if_pos g]
      have hxn : x < nOf s := by
        rw [e9] at g
        exact (nI_ltI (by omega) (by omega)).mp g
      have pk := k3 x hxn
      have ak := ak_ok pk
      obtain ⟨fN, rN, aN, zN, b1, b2, b3, b4, c1, c2, c3, c4, c5⟩ := pk.2.2
      by_cases ga : akL (I 3) x = 0
      · rw [if_pos ⟨nm, g, ga⟩] at h3
        have ha0 : aN = 0 := by
          rw [ak, c3] at ga
          exact (nI_eq (by omega) (by decide)).mp ga
        subst ha0
        have o : ∀ j, j ≠ 514 + 10 * x + 9 → upd s (514 + 10 * x + 9) 1 j = s j := fun j hj => upd_n hj
        have en := nOfE (o 9 (by omega))
        refine ⟨Hd_congr (fun i hi => o i (by omega)) k1, ?_, fun p hp => ?_, ?_, ?_, KaR_congr (fun j h1 h2 => o j (by omega)) (I0 6 (by decide)) rfl (I0 8 (by decide)) k6, by rw [en]; exact k7⟩
        · rw [I0 0 (by decide)]
          exact GaR_congr (fun j hj => o j (by omega)) k2
        · rw [en] at hp
          by_cases gp : p = x
          · subst gp
            unfold PaR
            rw [I0 2 (by decide), h3, o (514 + 10 * p + 4) (by omega), o (514 + 10 * p + 5) (by omega), o (514 + 10 * p + 7) (by omega), o (514 + 10 * p + 8) (by omega), o (514 + 10 * p + 6) (by omega), upd_s, upd_s]
            refine ⟨Hd_congr (fun i hi => o _ (by omega)) pk.1, pk.2.1, fN, rN, 1, zN, b1, b2, by decide, b4, c1, c2, rfl, c4, ?_⟩
            rw [c5, show (1000 : Int32) = nI 1000 from rfl, nI_add]
            congr 1
            omega
          · exact PaR_congr (fun j hj => o _ (by omega)) rfl (by rw [I0 2 (by decide)]) (by rw [h3, upd_n gp]) (k3 p hp)
        · rw [I0 4 (by decide)]
          exact LnR_congr (fun j h1 h2 => o j (by omega)) (Iv_n iv).2 k4
        · rw [I0 5 (by decide)]
          exact LnR_congr (fun j h1 h2 => o j (by omega)) (Iv_b iv) k5
      · rw [if_neg (fun q => ga q.2.2)] at h3
        have ha1 : aN = 1 := by
          rcases (by omega : aN = 0 ∨ aN = 1) with z | z
          · exact absurd (by rw [ak, c3, z]; rfl) ga
          · exact z
        refine same _ h3 ?_
        funext j
        by_cases gj : j = 514 + 10 * x + 9
        · rw [gj, upd_s, c3, ha1]
          rfl
        · exact upd_n gj
    · rw [if_neg g]
      rw [if_neg (fun q => g q.2.1)] at h3
      exact same _ h3 rfl
