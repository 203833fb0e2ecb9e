/-! ===== mlogic: pure functions of the state ===== -/
/-- the trusted packet with the highest number below k, of n: its acknowledgments, the confidence -/
def trust (ack : Nat → Int32) (c : Int32) (n : Nat) : Nat → Int32
  | 0 => -1
  | m + 1 => if n - m ≤ 15 then (if ack m = 1 ∨ (0 < c ∧ c ≤ nI (n - m)) then nI m else trust ack c n m) else -1
abbrev ackF (s : Nat → Int32) : Nat → Int32 := fun p => s (514 + 10 * p + 9)
abbrev nOf (s : Nat → Int32) : Nat := (s 9).toNatClampNeg
/-- a field of the base that packet r gives at distance d -/
def sbF (s : Nat → Int32) (form : Int32) (r : Nat) (d : Int32) (f : Nat) : Int32 := baseF form (nI f) (s (514 + 10 * r + f)) (if 1 ≤ f ∧ f ≤ 2 then s (514 + 10 * r + (3 + f)) else 0) d
def szL (s : Nat → Int32) (form : Int32) (r : Nat) (d : Int32) : Nat → Int32
  | 0 => 3
  | f + 1 => szL s form r d f + (if 1 ≤ f ∧ f ≤ 2 then bytesOf (s f - sbF s form r d f).toInt16.toInt32 else if s f = sbF s form r d f then 0 else 1)
def sizeF (s : Nat → Int32) (form ref : Int32) : Int32 := if form = 0 then 12 else szL s form ref.toNatClampNeg (s 9 - ref) 4
abbrev refF (s : Nat → Int32) : Int32 := trust (ackF s) (s 7) (nOf s) (nOf s)
abbrev formF (s : Nat → Int32) : Int32 := if refF s = -1 ∨ s 8 = 1 then 0 else s 6
/-- the header and the strides of a packet are laid down -/
def putH (s : Nat → Int32) (n : Nat) : Nat → Nat → Int32
  | 0 => s
  | f + 1 => upd (putH s n f) (514 + 10 * n + f) (putH s n f f)
def putK (s : Nat → Int32) (n : Nat) (form : Int32) (r : Nat) : Nat → Nat → Int32
  | 0 => s
  | f + 1 => upd (putK s n form r f) (514 + 10 * n + (4 + f)) (if form = 0 then putK s n form r f (4 + f) else putK s n form r f (514 + 10 * r + (4 + f)))
def sendT (t : Nat → Int32) (n : Nat) (ref form size : Int32) : Nat → Int32 :=
  let t1 := upd (upd (upd (upd t (514 + 10 * n + 6) size) (514 + 10 * n + 7) form) (514 + 10 * n + 8) (if form = 0 then -1 else ref)) (514 + 10 * n + 9) 0
  let t2 := upd t1 8 0
  let t3 := upd t2 64 (t2 64 + size)
  let t4 := upd t3 63 (t3 63 + (if form = 0 then 1 else 0))
  upd t4 9 (t4 9 + 1)
def sendG (s : Nat → Int32) (n : Nat) (ref form size : Int32) : Nat → Int32 := sendT (putK (putH s n 4) n form ref.toNatClampNeg 2) n ref form size
def sendF (s : Nat → Int32) : Nat → Int32 := joinF 10 (nI (nOf s)) (sendG s (nOf s) (refF s) (formF s) (sizeF s (formF s) (refF s)))
/-- what packet p gives with the record at place a -/
def decV (s : Nat → Int32) (p a : Nat) (d : Int32) (f : Nat) : Int32 :=
  let form := s (514 + 10 * p + 7)
  let mine := sbF s form (s (514 + 10 * p + 8)).toNatClampNeg d f
  let its := baseF form (nI f) (s (a + 1 + f)) (if 1 ≤ f ∧ f ≤ 2 then s (a + 4 + f) else 0) d
  let v := s (514 + 10 * p + f)
  if 1 ≤ f ∧ f ≤ 2 then (its + (v - mine).toInt16.toInt32) &&& 65535 else if v = mine then its else v
def decL (s : Nat → Int32) (p a : Nat) (d : Int32) (g : Nat → Int32) : Nat → Nat → Int32
  | 0 => g
  | f + 1 => upd (decL s p a d g f) f (decV s p a d f)
def decF (s : Nat → Int32) (p a : Nat) (d : Int32) (g : Nat → Int32) : Nat → Int32 := upd (upd (decL s p a d g 4) 4 (s (a + 5))) 5 (s (a + 6))
def zeroL (s : Nat → Int32) (a : Nat) : Nat → Nat → Int32
  | 0 => upd s a (-1)
  | k + 1 => upd (zeroL s a k) (a + (k + 1)) 0
def dropL (s : Nat → Int32) : Nat → Nat → Int32
  | 0 => s
  | k + 1 => if ¬ dropL s k (66 + 7 * k) = -1 ∧ dropL s k (66 + 7 * k) ≤ dropL s k 55 - 64 then zeroL (dropL s k) (66 + 7 * k) 6 else dropL s k
def putR (s g : Nat → Int32) (a : Nat) : Nat → Nat → Int32
  | 0 => s
  | k + 1 => upd (putR s g a k) (a + 1 + k) (g k)
def keepF (s g : Nat → Int32) (x : Int32) : Nat → Int32 :=
  let s2 := dropL (upd s 55 (if s 55 < x then x else s 55)) 64
  if s2 55 - 64 < x then putR (upd s2 (66 + 7 * slotOf x) x) g (66 + 7 * slotOf x) 6 else s2
def failF (s : Nat → Int32) : Nat → Int32 :=
  let s1 := upd s 60 (s 60 + 1)
  let s2 := upd s1 56 (s1 56 + 1)
  if s2 56 < s2 54 then s2 else
    let s3 := upd s2 56 0
    joinF 31 (-1) (upd s3 62 (s3 62 + 1))
/-- the link at k without its item i -/
def takeF (s : Nat → Int32) (k i : Nat) : Nat → Int32 := fun j => if j = k then s k - 1 else if k + 1 + i ≤ j ∧ j < k + (s k).toNatClampNeg then s (j + 1) else if j = k + (s k).toNatClampNeg then 0 else s j
/-- the link while its items after i are moved, up to item j -/
def shF (s : Nat → Int32) (k i j : Nat) : Nat → Int32 := fun q => if q = k then s k - 1 else if k + 1 + i ≤ q ∧ q < k + 1 + j then s (q + 1) else s q

