/-! ===== mcalls: pure functions of the state ===== -/
def lateF (s : Nat → Int32) (p : Nat) : Nat → Int32 := upd s 65 (if s 65 < s 55 - nI p then s 55 - nI p else s 65)
def xF (s : Nat → Int32) (p : Nat) : Int32 := if s (514 + 10 * p + 7) = 0 then nI p else numF s (nI p &&& 63)
abbrev dF (s : Nat → Int32) (p : Nat) : Int32 := nI p - s (514 + 10 * p + 8)
def cpyG (s : Nat → Int32) (p : Nat) (g : Nat → Int32) : Nat → Nat → Int32
  | 0 => g
  | k + 1 => upd (cpyG s p g k) k (s (514 + 10 * p + k))
def gotF (s g : Nat → Int32) (p : Nat) : Nat → Int32 := if s (514 + 10 * p + 7) = 0 then cpyG s p g 6 else decF s p (placeF s (xF s p - dF s p)).toNatClampNeg (dF s p) g
def rightL (s g : Nat → Int32) (p : Nat) (x : Int32) : Nat → Int32
  | 0 => if x = nI p then 1 else 0
  | f + 1 => if rightL s g p x f = 0 then 0 else if g f = s (514 + 10 * p + f) then 1 else 0
def outF (s g : Nat → Int32) (p : Nat) : Int32 :=
  if ¬ placeF s (xF s p) = -1 then 3
  else if ¬ s (514 + 10 * p + 7) = 0 ∧ placeF s (xF s p - dF s p) = -1 then 2
  else if rightL s (gotF s g p) p (xF s p) 4 = 0 then 1 else 0
/-- what was decoded is kept, counted and told -/
def tellF (t : Nat → Int32) (x out : Int32) : Nat → Int32 :=
  let t2 := upd t 57 (t 57 + 1)
  let t3 := if out = 0 then upd t2 58 (t2 58 + 1) else upd t2 59 (t2 59 + 1)
  let t4 := upd t3 56 0
  if t4 57 - t4 57 / t4 53 * t4 53 = 0 then joinF 31 x t4 else t4
def recS1 (s g : Nat → Int32) (p : Nat) : Nat → Int32 :=
  if outF s g p = 3 then upd s 61 (s 61 + 1) else if outF s g p = 2 then failF s
  else tellF (keepF s (gotF s g p) (xF s p)) (xF s p) (outF s g p)
abbrev recS (s g : Nat → Int32) (p : Nat) : Nat → Int32 := recS1 (lateF s p) g p
abbrev recG (s g : Nat → Int32) (p : Nat) : Nat → Int32 := if outF (lateF s p) g p = 3 ∨ outF (lateF s p) g p = 2 then g else gotF (lateF s p) g p
abbrev recA (m : Mod) (p : Nat) : Int32 := outF (lateF m.s p) m.g p
def recM (m : Mod) (p : Nat) : Mod := (m.ws (recS m.s m.g p)).wg (recG m.s m.g p)
/-- packet p may come -/
def rcvOK (s : Nat → Int32) (p : Nat) : Prop := (∃ n : Nat, n ≤ 20 ∧ s 31 = nI n) ∧ ¬ s 53 = 0 ∧ (s (514 + 10 * p + 7) = 0 ∨ ∃ r : Nat, r < 500 ∧ s (514 + 10 * p + 8) = nI r)
abbrev inL (s : Nat → Int32) (k : Nat) (i : Int32) : Prop := 0 ≤ i ∧ i ≤ s k - 1
def takeM (m : Mod) (k i : Nat) : Mod := m.ws (takeF m.s k i)
/-- the first link's items may come -/
def dlvOK (s : Nat → Int32) : Prop := (∃ n : Nat, n ≤ 20 ∧ s 10 = nI n ∧ ∀ i, i < n → ∃ p : Nat, p < 500 ∧ s (11 + i) = nI p ∧ rcvOK s p)
def dlvM (m : Mod) (i : Nat) : Mod := ((m.wf (upd m.f 8 (recA (takeM m 10 i) (m.s (11 + i)).toNatClampNeg))).ws (recS (takeF m.s 10 i) m.g (m.s (11 + i)).toNatClampNeg)).wg (recG (takeF m.s 10 i) m.g (m.s (11 + i)).toNatClampNeg)
def losM (m : Mod) (k i : Nat) : Mod := (m.wf (upd m.f 8 (m.s (k + 1 + i)))).ws (takeF m.s k i)
def cpyM (m : Mod) (i : Nat) : Mod := (m.wf (upd m.f 8 (joinF 10 (m.s (11 + i)) m.s 10))).ws (joinF 10 (m.s (11 + i)) m.s)
def cpyR (s : Nat → Int32) (i : Int32) : Int32 := if inL s 10 i then (if s 10 = 20 then 2 else 0) else 1
/-- a message is heard -/
def hearF (s : Nat → Int32) (v : Int32) : Nat → Int32 := if v = -1 then upd s 8 1 else if v < s 9 then upd s (514 + 10 * v.toNatClampNeg + 9) 1 else s
def bakOK (s : Nat → Int32) : Prop := (∃ a : Nat, a ≤ 500 ∧ s 9 = nI a) ∧ ∃ n : Nat, n ≤ 20 ∧ s 31 = nI n ∧ ∀ i, i < n → s (32 + i) = -1 ∨ ∃ x : Nat, x < 2 ^ 31 ∧ s (32 + i) = nI x
def retM (m : Mod) (i : Nat) : Mod := (m.wf (upd m.f 8 (m.s (32 + i)))).ws (hearF (takeF m.s 31 i) (m.s (32 + i)))
def pstOK (m : Mod) : Prop := ∃ c : Nat, c ≤ 4 ∧ m.f 3 = nI c
def endM (m : Mod) : Mod := (m.wf (upd (upd m.f 3 (if m.f 3 = 4 then 4 else m.f 3 + 1)) 6 0)).wp (pastF m.d m.p (m.f 3).toNatClampNeg)
def faiM (m : Mod) (k : Int32) : Mod := m.wf (upd m.f 6 k)
def telM (m : Mod) : Mod := m.wf (upd m.f 6 0)
def holM (m : Mod) : Mod := m.wd (va_cpy m.s m.d 0 0 5514)
def resM (m : Mod) : Mod := m.ws (va_cpy m.d m.s 0 0 5514)
def manyL (s : Nat → Int32) : Nat → Int32
  | 0 => 0
  | k + 1 => manyL s k + (if s (66 + 7 * k) = -1 then 0 else 1)
def mixF (h : Int64) (v : Int32) : Int64 := 31 * h + v.toInt64
def mixL (s : Nat → Int32) (a : Nat) (h : Int64) : Nat → Int64
  | 0 => h
  | k + 1 => mixF (mixL s a h k) (s (a + k))
