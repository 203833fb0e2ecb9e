/-! ===== the reference's memory as one record ===== -/
/-- its fields, the state, what was saved, what is held aside, the text, what was decoded; the digest -/
abbrev Mod : Type := (Nat → Int32) × (Nat → Int32) × (Nat → Int32) × (Nat → Int32) × (Nat → Int32) × (Nat → Int32) × Int64
def Mod.f (m : Mod) : Nat → Int32 := m.1
def Mod.s (m : Mod) : Nat → Int32 := m.2.1
def Mod.p (m : Mod) : Nat → Int32 := m.2.2.1
def Mod.d (m : Mod) : Nat → Int32 := m.2.2.2.1
def Mod.t (m : Mod) : Nat → Int32 := m.2.2.2.2.1
def Mod.g (m : Mod) : Nat → Int32 := m.2.2.2.2.2.1
def Mod.h (m : Mod) : Int64 := m.2.2.2.2.2.2
def Mod.wf (m : Mod) (x : Nat → Int32) : Mod := (x, m.2.1, m.2.2.1, m.2.2.2.1, m.2.2.2.2.1, m.2.2.2.2.2.1, m.2.2.2.2.2.2)
def Mod.ws (m : Mod) (x : Nat → Int32) : Mod := (m.1, x, m.2.2.1, m.2.2.2.1, m.2.2.2.2.1, m.2.2.2.2.2.1, m.2.2.2.2.2.2)
def Mod.wp (m : Mod) (x : Nat → Int32) : Mod := (m.1, m.2.1, x, m.2.2.2.1, m.2.2.2.2.1, m.2.2.2.2.2.1, m.2.2.2.2.2.2)
def Mod.wd (m : Mod) (x : Nat → Int32) : Mod := (m.1, m.2.1, m.2.2.1, x, m.2.2.2.2.1, m.2.2.2.2.2.1, m.2.2.2.2.2.2)
def Mod.wt (m : Mod) (x : Nat → Int32) : Mod := (m.1, m.2.1, m.2.2.1, m.2.2.2.1, x, m.2.2.2.2.2.1, m.2.2.2.2.2.2)
def Mod.wg (m : Mod) (x : Nat → Int32) : Mod := (m.1, m.2.1, m.2.2.1, m.2.2.2.1, m.2.2.2.2.1, x, m.2.2.2.2.2.2)
def Mod.wh (m : Mod) (x : Int64) : Mod := (m.1, m.2.1, m.2.2.1, m.2.2.2.1, m.2.2.2.2.1, m.2.2.2.2.2.1, x)
theorem Mff {m : Mod} {x : Nat → Int32} : (m.wf x).f = x := (by cases m; rfl)
theorem Mfs {m : Mod} {x : Nat → Int32} : (m.wf x).s = m.s := (by cases m; rfl)
theorem Mfp {m : Mod} {x : Nat → Int32} : (m.wf x).p = m.p := (by cases m; rfl)
theorem Mfd {m : Mod} {x : Nat → Int32} : (m.wf x).d = m.d := (by cases m; rfl)
theorem Mft {m : Mod} {x : Nat → Int32} : (m.wf x).t = m.t := (by cases m; rfl)
theorem Mfg {m : Mod} {x : Nat → Int32} : (m.wf x).g = m.g := (by cases m; rfl)
theorem Mfh {m : Mod} {x : Nat → Int32} : (m.wf x).h = m.h := (by cases m; rfl)
theorem Wf {m : Mod} {x y : Nat → Int32} : (m.wf x).wf y = m.wf y := (by cases m; rfl)
theorem Msf {m : Mod} {x : Nat → Int32} : (m.ws x).f = m.f := (by cases m; rfl)
theorem Mss {m : Mod} {x : Nat → Int32} : (m.ws x).s = x := (by cases m; rfl)
theorem Msp {m : Mod} {x : Nat → Int32} : (m.ws x).p = m.p := (by cases m; rfl)
theorem Msd {m : Mod} {x : Nat → Int32} : (m.ws x).d = m.d := (by cases m; rfl)
theorem Mst {m : Mod} {x : Nat → Int32} : (m.ws x).t = m.t := (by cases m; rfl)
theorem Msg {m : Mod} {x : Nat → Int32} : (m.ws x).g = m.g := (by cases m; rfl)
theorem Msh {m : Mod} {x : Nat → Int32} : (m.ws x).h = m.h := (by cases m; rfl)
theorem Ws {m : Mod} {x y : Nat → Int32} : (m.ws x).ws y = m.ws y := (by cases m; rfl)
theorem Mpf {m : Mod} {x : Nat → Int32} : (m.wp x).f = m.f := (by cases m; rfl)
theorem Mps {m : Mod} {x : Nat → Int32} : (m.wp x).s = m.s := (by cases m; rfl)
theorem Mpp {m : Mod} {x : Nat → Int32} : (m.wp x).p = x := (by cases m; rfl)
theorem Mpd {m : Mod} {x : Nat → Int32} : (m.wp x).d = m.d := (by cases m; rfl)
theorem Mpt {m : Mod} {x : Nat → Int32} : (m.wp x).t = m.t := (by cases m; rfl)
theorem Mpg {m : Mod} {x : Nat → Int32} : (m.wp x).g = m.g := (by cases m; rfl)
theorem Mph {m : Mod} {x : Nat → Int32} : (m.wp x).h = m.h := (by cases m; rfl)
theorem Wp {m : Mod} {x y : Nat → Int32} : (m.wp x).wp y = m.wp y := (by cases m; rfl)
theorem Mdf {m : Mod} {x : Nat → Int32} : (m.wd x).f = m.f := (by cases m; rfl)
theorem Mds {m : Mod} {x : Nat → Int32} : (m.wd x).s = m.s := (by cases m; rfl)
theorem Mdp {m : Mod} {x : Nat → Int32} : (m.wd x).p = m.p := (by cases m; rfl)
theorem Mdd {m : Mod} {x : Nat → Int32} : (m.wd x).d = x := (by cases m; rfl)
theorem Mdt {m : Mod} {x : Nat → Int32} : (m.wd x).t = m.t := (by cases m; rfl)
theorem Mdg {m : Mod} {x : Nat → Int32} : (m.wd x).g = m.g := (by cases m; rfl)
theorem Mdh {m : Mod} {x : Nat → Int32} : (m.wd x).h = m.h := (by cases m; rfl)
theorem Wd {m : Mod} {x y : Nat → Int32} : (m.wd x).wd y = m.wd y := (by cases m; rfl)
theorem Mtf {m : Mod} {x : Nat → Int32} : (m.wt x).f = m.f := (by cases m; rfl)
theorem Mts {m : Mod} {x : Nat → Int32} : (m.wt x).s = m.s := (by cases m; rfl)
theorem Mtp {m : Mod} {x : Nat → Int32} : (m.wt x).p = m.p := (by cases m; rfl)
theorem Mtd {m : Mod} {x : Nat → Int32} : (m.wt x).d = m.d := (by cases m; rfl)
theorem Mtt {m : Mod} {x : Nat → Int32} : (m.wt x).t = x := (by cases m; rfl)
theorem Mtg {m : Mod} {x : Nat → Int32} : (m.wt x).g = m.g := (by cases m; rfl)
theorem Mth {m : Mod} {x : Nat → Int32} : (m.wt x).h = m.h := (by cases m; rfl)
theorem Wt {m : Mod} {x y : Nat → Int32} : (m.wt x).wt y = m.wt y := (by cases m; rfl)
theorem Mgf {m : Mod} {x : Nat → Int32} : (m.wg x).f = m.f := (by cases m; rfl)
theorem Mgs {m : Mod} {x : Nat → Int32} : (m.wg x).s = m.s := (by cases m; rfl)
theorem Mgp {m : Mod} {x : Nat → Int32} : (m.wg x).p = m.p := (by cases m; rfl)
theorem Mgd {m : Mod} {x : Nat → Int32} : (m.wg x).d = m.d := (by cases m; rfl)
theorem Mgt {m : Mod} {x : Nat → Int32} : (m.wg x).t = m.t := (by cases m; rfl)
theorem Mgg {m : Mod} {x : Nat → Int32} : (m.wg x).g = x := (by cases m; rfl)
theorem Mgh {m : Mod} {x : Nat → Int32} : (m.wg x).h = m.h := (by cases m; rfl)
theorem Wg {m : Mod} {x y : Nat → Int32} : (m.wg x).wg y = m.wg y := (by cases m; rfl)
theorem Mhf {m : Mod} {x : Int64} : (m.wh x).f = m.f := (by cases m; rfl)
theorem Mhs {m : Mod} {x : Int64} : (m.wh x).s = m.s := (by cases m; rfl)
theorem Mhp {m : Mod} {x : Int64} : (m.wh x).p = m.p := (by cases m; rfl)
theorem Mhd {m : Mod} {x : Int64} : (m.wh x).d = m.d := (by cases m; rfl)
theorem Mht {m : Mod} {x : Int64} : (m.wh x).t = m.t := (by cases m; rfl)
theorem Mhg {m : Mod} {x : Int64} : (m.wh x).g = m.g := (by cases m; rfl)
theorem Mhh {m : Mod} {x : Int64} : (m.wh x).h = x := (by cases m; rfl)
theorem Wh {m : Mod} {x y : Int64} : (m.wh x).wh y = m.wh y := (by cases m; rfl)
theorem Swsf {m : Mod} {x : Nat → Int32} {y : Nat → Int32} : (m.ws y).wf x = (m.wf x).ws y := (by cases m; rfl)
theorem Swpf {m : Mod} {x : Nat → Int32} {y : Nat → Int32} : (m.wp y).wf x = (m.wf x).wp y := (by cases m; rfl)
theorem Swdf {m : Mod} {x : Nat → Int32} {y : Nat → Int32} : (m.wd y).wf x = (m.wf x).wd y := (by cases m; rfl)
theorem Swtf {m : Mod} {x : Nat → Int32} {y : Nat → Int32} : (m.wt y).wf x = (m.wf x).wt y := (by cases m; rfl)
theorem Swgf {m : Mod} {x : Nat → Int32} {y : Nat → Int32} : (m.wg y).wf x = (m.wf x).wg y := (by cases m; rfl)
theorem Swhf {m : Mod} {x : Nat → Int32} {y : Int64} : (m.wh y).wf x = (m.wf x).wh y := (by cases m; rfl)
theorem Swps {m : Mod} {x : Nat → Int32} {y : Nat → Int32} : (m.wp y).ws x = (m.ws x).wp y := (by cases m; rfl)
theorem Swds {m : Mod} {x : Nat → Int32} {y : Nat → Int32} : (m.wd y).ws x = (m.ws x).wd y := (by cases m; rfl)
theorem Swts {m : Mod} {x : Nat → Int32} {y : Nat → Int32} : (m.wt y).ws x = (m.ws x).wt y := (by cases m; rfl)
theorem Swgs {m : Mod} {x : Nat → Int32} {y : Nat → Int32} : (m.wg y).ws x = (m.ws x).wg y := (by cases m; rfl)
theorem Swhs {m : Mod} {x : Nat → Int32} {y : Int64} : (m.wh y).ws x = (m.ws x).wh y := (by cases m; rfl)
theorem Swdp {m : Mod} {x : Nat → Int32} {y : Nat → Int32} : (m.wd y).wp x = (m.wp x).wd y := (by cases m; rfl)
theorem Swtp {m : Mod} {x : Nat → Int32} {y : Nat → Int32} : (m.wt y).wp x = (m.wp x).wt y := (by cases m; rfl)
theorem Swgp {m : Mod} {x : Nat → Int32} {y : Nat → Int32} : (m.wg y).wp x = (m.wp x).wg y := (by cases m; rfl)
theorem Swhp {m : Mod} {x : Nat → Int32} {y : Int64} : (m.wh y).wp x = (m.wp x).wh y := (by cases m; rfl)
theorem Swtd {m : Mod} {x : Nat → Int32} {y : Nat → Int32} : (m.wt y).wd x = (m.wd x).wt y := (by cases m; rfl)
theorem Swgd {m : Mod} {x : Nat → Int32} {y : Nat → Int32} : (m.wg y).wd x = (m.wd x).wg y := (by cases m; rfl)
theorem Swhd {m : Mod} {x : Nat → Int32} {y : Int64} : (m.wh y).wd x = (m.wd x).wh y := (by cases m; rfl)
theorem Swgt {m : Mod} {x : Nat → Int32} {y : Nat → Int32} : (m.wg y).wt x = (m.wt x).wg y := (by cases m; rfl)
theorem Swht {m : Mod} {x : Nat → Int32} {y : Int64} : (m.wh y).wt x = (m.wt x).wh y := (by cases m; rfl)
theorem Swhg {m : Mod} {x : Nat → Int32} {y : Int64} : (m.wh y).wg x = (m.wg x).wh y := (by cases m; rfl)
def mm (μ : qMM) (o : Nat) (m : Mod) : qMM := (μ.1, (fun b => if b = o then m.f else if b = o + 1 then m.s else if b = o + 2 then m.p else if b = o + 3 then m.d else if b = o + 4 then m.t else if b = o + 5 then m.g else μ.2.1 b, fun b => if b = o then (fun k => if k = 12 then m.h else μ.2.2 b k) else μ.2.2 b))
def rd (μ : qMM) (o : Nat) : Mod := (mI μ o, mI μ (o + 1), mI μ (o + 2), mI μ (o + 3), mI μ (o + 4), mI μ (o + 5), mJ μ o 12)
theorem mS_mm {μ : qMM} {o b : Nat} {m : Mod} : mS (mm μ o m) b = mS μ b := by cases μ; rfl
theorem mN_mm {μ : qMM} {o : Nat} {m : Mod} : mN (mm μ o m) = mN μ := by cases μ; rfl
theorem mI_mm0 {μ : qMM} {o : Nat} {m : Mod} : mI (mm μ o m) o = m.f := if_pos rfl
theorem mI_mm1 {μ : qMM} {o : Nat} {m : Mod} : mI (mm μ o m) (o + 1) = m.s := by
  unfold mm mI
  simp
theorem mI_mm2 {μ : qMM} {o : Nat} {m : Mod} : mI (mm μ o m) (o + 2) = m.p := by
  unfold mm mI
  simp
theorem mI_mm3 {μ : qMM} {o : Nat} {m : Mod} : mI (mm μ o m) (o + 3) = m.d := by
  unfold mm mI
  simp
theorem mI_mm4 {μ : qMM} {o : Nat} {m : Mod} : mI (mm μ o m) (o + 4) = m.t := by
  unfold mm mI
  simp
theorem mI_mm5 {μ : qMM} {o : Nat} {m : Mod} : mI (mm μ o m) (o + 5) = m.g := by
  unfold mm mI
  simp
theorem mJ_mm {μ : qMM} {o : Nat} {m : Mod} : mJ (mm μ o m) o 12 = m.h := by
  unfold mm mJ
  simp
theorem mm_mm {μ : qMM} {o : Nat} {m m' : Mod} : mm (mm μ o m) o m' = mm μ o m' := by
  obtain ⟨m1, m2, m3⟩ := μ
  unfold mm
  simp only [Prod.mk.injEq, true_and]
  constructor
  · funext b
    by_cases h0 : b = o
    · simp [h0]
    · by_cases h1 : b = o + 1
      · simp [h1]
      · by_cases h2 : b = o + 2
        · simp [h2]
        · by_cases h3 : b = o + 3
          · simp [h3]
          · by_cases h4 : b = o + 4
            · simp [h4]
            · by_cases h5 : b = o + 5
              · simp [h5]
              · simp [h0, h1, h2, h3, h4, h5]
  · funext b
    by_cases h0 : b = o
    · subst h0
      funext k
      by_cases h : k = 12 <;> simp [h]
    · simp [h0]
theorem rd_mm {μ : qMM} {o : Nat} {m : Mod} : rd (mm μ o m) o = m := by
  unfold rd
  rw [mI_mm0, mI_mm1, mI_mm2, mI_mm3, mI_mm4, mI_mm5, mJ_mm]
  rfl
theorem mm_rd {μ : qMM} {o : Nat} : mm μ o (rd μ o) = μ := by
  obtain ⟨m1, m2, m3⟩ := μ
  simp only [mm, rd, mI, mJ, Mod.f, Mod.s, Mod.p, Mod.d, Mod.t, Mod.g, Mod.h]
  simp only [Prod.mk.injEq, true_and]
  constructor
  · funext b
    by_cases h0 : b = o
    · simp [h0]
    · by_cases h1 : b = o + 1
      · simp [h1]
      · by_cases h2 : b = o + 2
        · simp [h2]
        · by_cases h3 : b = o + 3
          · simp [h3]
          · by_cases h4 : b = o + 4
            · simp [h4]
            · by_cases h5 : b = o + 5
              · simp [h5]
              · simp [h0, h1, h2, h3, h4, h5]
  · funext b
    by_cases h0 : b = o
    · subst h0
      funext k
      by_cases h : k = 12 <;> simp [h]
    · simp [h0]
theorem mm_ex (μ : qMM) (o : Nat) : ∃ ν m, μ = mm ν o m := ⟨μ, rd μ o, mm_rd.symm⟩
theorem wR_mm0 {μ : qMM} {o : Nat} {m : Mod} {f : Nat → Int32} : wR (mm μ o m) o f = mm μ o (m.wf f) := by
  obtain ⟨m1, m2, m3⟩ := μ
  simp only [wR, mm, Mff, Mfs, Mfp, Mfd, Mft, Mfg, Mfh]
  simp only [Prod.mk.injEq, and_true, true_and]
  funext b
  by_cases h : b = o <;> simp [h]
theorem wR_mm1 {μ : qMM} {o : Nat} {m : Mod} {f : Nat → Int32} : wR (mm μ o m) (o + 1) f = mm μ o (m.ws f) := by
  obtain ⟨m1, m2, m3⟩ := μ
  simp only [wR, mm, Msf, Mss, Msp, Msd, Mst, Msg, Msh]
  simp only [Prod.mk.injEq, and_true, true_and]
  funext b
  by_cases h : b = o + 1 <;> simp [h]
theorem wR_mm2 {μ : qMM} {o : Nat} {m : Mod} {f : Nat → Int32} : wR (mm μ o m) (o + 2) f = mm μ o (m.wp f) := by
  obtain ⟨m1, m2, m3⟩ := μ
  simp only [wR, mm, Mpf, Mps, Mpp, Mpd, Mpt, Mpg, Mph]
  simp only [Prod.mk.injEq, and_true, true_and]
  funext b
  by_cases h : b = o + 2 <;> simp [h]
theorem wR_mm3 {μ : qMM} {o : Nat} {m : Mod} {f : Nat → Int32} : wR (mm μ o m) (o + 3) f = mm μ o (m.wd f) := by
  obtain ⟨m1, m2, m3⟩ := μ
  simp only [wR, mm, Mdf, Mds, Mdp, Mdd, Mdt, Mdg, Mdh]
  simp only [Prod.mk.injEq, and_true, true_and]
  funext b
  by_cases h : b = o + 3 <;> simp [h]
theorem wR_mm4 {μ : qMM} {o : Nat} {m : Mod} {f : Nat → Int32} : wR (mm μ o m) (o + 4) f = mm μ o (m.wt f) := by
  obtain ⟨m1, m2, m3⟩ := μ
  simp only [wR, mm, Mtf, Mts, Mtp, Mtd, Mtt, Mtg, Mth]
  simp only [Prod.mk.injEq, and_true, true_and]
  funext b
  by_cases h : b = o + 4 <;> simp [h]
theorem wR_mm5 {μ : qMM} {o : Nat} {m : Mod} {f : Nat → Int32} : wR (mm μ o m) (o + 5) f = mm μ o (m.wg f) := by
  obtain ⟨m1, m2, m3⟩ := μ
  simp only [wR, mm, Mgf, Mgs, Mgp, Mgd, Mgt, Mgg, Mgh]
  simp only [Prod.mk.injEq, and_true, true_and]
  funext b
  by_cases h : b = o + 5 <;> simp [h]
theorem wL_mm {μ : qMM} {o : Nat} {m : Mod} {v : Int64} : wL (mm μ o m) o 12 v = mm μ o (m.wh v) := by
  obtain ⟨m1, m2, m3⟩ := μ
  simp only [wL, mm, Mhf, Mhs, Mhp, Mhd, Mht, Mhg, Mhh]
  simp only [Prod.mk.injEq, true_and]
  funext b
  by_cases h : b = o
  · subst h
    funext k
    by_cases h : k = 12 <;> simp [h, vp_updL]
  · simp [h]
theorem iA_mm {μ : qMM} {o a n : Nat} {m : Mod} : iA (mm μ o m) a n ↔ iA μ a n := Iff.rfl

