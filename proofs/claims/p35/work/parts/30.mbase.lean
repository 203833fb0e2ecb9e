/-! ===== mbase: pure functions of the state ===== -/
/-! THE REFERENCE: its object at o, its rows behind it; s = mI μ (o + 1) is its state -/
/-- the saved states behind one more -/
def pastF (a p : Nat → Int32) (c : Nat) : Nat → Int32 := if c = 4 then va_cpy a (va_cpy p p 5514 0 16542) 0 16542 5514 else va_cpy a p 0 (5514 * c) 5514
def goesF (s : Nat → Int32) : Nat → Int32 := upd (upd s 1 ((s 1 + s 4) &&& 65535)) 2 ((s 2 + s 5) &&& 65535)
def baseF (form field v stride d : Int32) : Int32 := if form = 2 ∧ 1 ≤ field ∧ field ≤ 2 then (v + d * stride) &&& 65535 else v
/-- v comes to the end of the link at k -/
def joinF (k : Nat) (v : Int32) (s : Nat → Int32) : Nat → Int32 := if s k < 20 then upd (upd s k (s k + 1)) (k + (s k + 1).toNatClampNeg) v else s
/-- the place of the record of a number, none: -1 -/
def placeF (s : Nat → Int32) (x : Int32) : Int32 := if 0 ≤ x ∧ s (66 + 7 * slotOf x) = x then nI (66 + 7 * slotOf x) else -1
def numF (s : Nat → Int32) (t : Int32) : Int32 := (s 55 - s 52 + 1) + ((t - (s 55 - s 52 + 1)) &&& 63)
def recF (s : Nat → Int32) (x : Int32) (w : Nat) : Int32 := if 0 ≤ x ∧ s (66 + 7 * slotOf x) = x then s (67 + 7 * slotOf x + w) else -1
