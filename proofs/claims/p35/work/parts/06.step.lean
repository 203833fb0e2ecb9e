/-! ===== the abstract memory; one instruction's step over it; the least fixed point of a method's step ===== -/
/-- what lies at an address: an object of a class (its fields: .int _ and .long _ stand for data, others for themselves), or an array (0 int, 1 long, 2 int[], 3 references) with its length and its references -/
abbrev qTm : Type := (Nat × List Value) ⊕ (Nat × Nat × (Nat → Option Nat))
/-- the next free address where it is known; the templates; the ints; the longs -/
abbrev qMM : Type := (Option Nat × (Nat → Option qTm)) × ((Nat → Nat → Int32) × (Nat → Nat → Int64))
def mN (μ : qMM) : Option Nat := μ.1.1
def mS (μ : qMM) (a : Nat) : Option qTm := μ.1.2 a
def mI (μ : qMM) (a : Nat) : Nat → Int32 := μ.2.1 a
def mJ (μ : qMM) (a : Nat) : Nat → Int64 := μ.2.2 a
/-- the ints at an address anew -/
def wR (μ : qMM) (a : Nat) (f : Nat → Int32) : qMM := (μ.1, (fun b => if b = a then f else μ.2.1 b, μ.2.2))
def wI (μ : qMM) (a k : Nat) (v : Int32) : qMM := wR μ a (upd (mI μ a) k v)
def wL (μ : qMM) (a k : Nat) (v : Int64) : qMM := (μ.1, (μ.2.1, fun b => if b = a then vp_updL (μ.2.2 a) k v else μ.2.2 b))
def wT (μ : qMM) (a : Nat) (t : qTm) : qMM := ((μ.1.1, fun b => if b = a then some t else μ.1.2 b), μ.2)
def mk1 (μ : qMM) (n : Nat) (t : qTm) : qMM := ((some (n + 1), fun b => if b = n then some t else μ.1.2 b), (fun b => if b = n then fun _ => 0 else μ.2.1 b, fun b => if b = n then fun _ => 0 else μ.2.2 b))
def mkM (μ : qMM) (n N K : Nat) : qMM := ((some (n + 1 + N), fun b => if b = n then some (.inr (2, N, fun i => if i < N then some (n + 1 + i) else none)) else if n < b ∧ b < n + 1 + N then some (.inr (0, K, fun _ => none)) else μ.1.2 b), (fun b => if n ≤ b ∧ b < n + 1 + N then fun _ => 0 else μ.2.1 b, fun b => if n ≤ b ∧ b < n + 1 + N then fun _ => 0 else μ.2.2 b))
/-- a callee: how many values it takes, what it asks, what it says of its answer and the memory behind it, its cells and slots -/
abbrev qCS : Type := Nat × (List Value → qMM → Prop) × (List Value → qMM → Option Value → qMM → Prop) × Nat × Nat
abbrev qKT : Type := Nat → List (Option Value) → List (Option Value) → List Value → qMM → Nat × Nat → Prop
def qTg (pc : Nat) (off : Int) : Option Nat := match (pc : Int) + off with
  | .ofNat t => some t
  | .negSucc _ => none
def qGo (t : Option Nat) (k : Nat → Prop) : Prop := match t with
  | some t => k t
  | none => False
def qCn (op : ClassFile.Cond) (x y : Int32) : Prop := match op with
  | .eq => x = y
  | .ne => ¬ x = y
  | .lt => x < y
  | .ge => y ≤ x
  | .gt => y < x
  | .le => x ≤ y
def qOk (ty : FieldType) (x : Int32) : Prop := match ty with
  | .boolean => x = 0 ∨ x = 1
  | .int => True
  | _ => False
def qOkL (ty : FieldType) : Prop := match ty with
  | .long => True
  | _ => False
def qOkR (ty : FieldType) : Prop := match ty with
  | .object _ => True
  | .array _ => True
  | _ => False
def qSwT (pc : Nat) (d lo hi : Int) (offs : Array Int) (x : Int32) : Option Nat := if x.toInt < lo ∨ hi < x.toInt then qTg pc d else match offs[(x.toInt - lo).toNat]? with
  | some o => qTg pc o
  | none => none
def qSwL (pc : Nat) (d : Int) (ps : Array (Int × Int)) (x : Int32) : Option Nat := qTg pc (Op.lookupswitch.offset ps.toList d x.toInt)
def qCal (q : qCS) (st : List Value) (μ : qMM) (cs : Nat × Nat) (rc rs : Nat) (k : List Value → qMM → Nat × Nat → Prop) : Prop :=
  q.1 ≤ st.length ∧ (st.drop q.1).length ≤ 4 ∧ cs.1 + q.2.2.2.1 ≤ rc ∧ cs.2 + q.2.2.2.2 ≤ rs ∧ q.2.1 (st.take q.1).reverse μ ∧ ∀ v μ', q.2.2.1 (st.take q.1).reverse μ v μ' → k (v.toList ++ st.drop q.1) μ' (cs.1 + q.2.2.2.1, cs.2 + q.2.2.2.2)
def qInv (kd : Nat) (cal : Nat → Option (Nat × qCS)) (idx : Nat) (st : List Value) (μ : qMM) (cs : Nat × Nat) (rc rs : Nat) (k : List Value → qMM → Nat × Nat → Prop) : Prop := match cal idx with
  | some (kd', q) => bif kd' == kd then qCal q st μ cs rc rs k else False
  | none => False
def qGet (μ : qMM) (a ci j : Nat) (k : Value → Prop) : Prop := match mS μ a with
  | some (.inl (c, t)) => c = ci ∧ (match t[j]? with
    | some (.int _) => k (.int (mI μ a j))
    | some (.long _) => k (.long (mJ μ a j))
    | some v => k v
    | none => False)
  | _ => False
def qPut (μ : qMM) (a ci j : Nat) (ty : FieldType) (v : Value) (k : qMM → Prop) : Prop := match mS μ a with
  | some (.inl (c, t)) => c = ci ∧ (match t[j]?, v with
    | some (.int _), .int x => qOk ty x ∧ k (wI μ a j x)
    | some (.long _), .long x => qOkL ty ∧ k (wL μ a j x)
    | some .null, .ref b => qOkR ty ∧ k (wT μ a (.inl (c, t.set j (.ref b))))
    | _, _ => False)
  | _ => False
def qArr (μ : qMM) (a ty : Nat) (i : Int32) (k : Prop) : Prop := match mS μ a with
  | some (.inr (t, n, _)) => t = ty ∧ vp_in i n ∧ k
  | _ => False
def qAal (μ : qMM) (a : Nat) (i : Int32) (k : Nat → Prop) : Prop := match mS μ a with
  | some (.inr (t, n, f)) => (t = 2 ∨ t = 3) ∧ vp_in i n ∧ (match f i.toNatClampNeg with
    | some b => k b
    | none => False)
  | _ => False
def qAst (μ : qMM) (a b : Nat) (i : Int32) (k : qMM → Prop) : Prop := match mS μ a, mS μ b with
  | some (.inr (t, n, f)), some (.inl (c, _)) => t = 3 ∧ c = 5 ∧ vp_in i n ∧ k (wT μ a (.inr (t, n, va_up f i.toNatClampNeg (some b))))
  | _, _ => False
def qAln (s : Option (Nat × (Nat → Int32))) (μ : qMM) (a : Nat) (k : Int32 → Prop) : Prop := match s with
  | some (n, _) => k (Int32.ofNat n)
  | none => match mS μ a with
    | some (.inr (t, n, _)) => (t = 0 ∨ t = 1) ∧ k (Int32.ofNat n)
    | _ => False
def qIld (s : Option (Nat × (Nat → Int32))) (μ : qMM) (a : Nat) (i : Int32) (k : Int32 → Prop) : Prop := match s with
  | some (n, xs) => vp_in i n ∧ k (xs i.toNatClampNeg)
  | none => qArr μ a 0 i (k (mI μ a i.toNatClampNeg))
def qNwO (o : Option (Nat × Nat × List Value)) (μ : qMM) (cs : Nat × Nat) (rc rs : Nat) (k : Nat → qMM → Nat × Nat → Prop) : Prop := match o, mN μ with
  | some (ci, N, t), some n => ¬ ci = 99 ∧ cs.1 + 1 ≤ rc ∧ cs.2 + N ≤ rs ∧ k n (mk1 μ n (.inl (ci, t))) (cs.1 + 1, cs.2 + N)
  | _, _ => False
def qNwA (tg : Nat) (x : Int32) (μ : qMM) (cs : Nat × Nat) (rc rs : Nat) (k : Nat → qMM → Nat × Nat → Prop) : Prop := match mN μ with
  | some n => ¬ x < 0 ∧ x.toNatClampNeg ≤ 65536 ∧ cs.1 + 1 ≤ rc ∧ cs.2 + x.toNatClampNeg ≤ rs ∧ k n (mk1 μ n (.inr (tg, x.toNatClampNeg, fun _ => none))) (cs.1 + 1, cs.2 + x.toNatClampNeg)
  | _ => False
def qNwM (x y : Int32) (μ : qMM) (cs : Nat × Nat) (rc rs : Nat) (k : Nat → qMM → Nat × Nat → Prop) : Prop := match mN μ with
  | some n => ¬ x < 0 ∧ ¬ y < 0 ∧ x.toNatClampNeg ≤ 65536 ∧ y.toNatClampNeg ≤ 65536 ∧ cs.1 + (1 + x.toNatClampNeg) ≤ rc ∧ cs.2 + (x.toNatClampNeg + x.toNatClampNeg * y.toNatClampNeg) ≤ rs ∧ k n (mkM μ n x.toNatClampNeg y.toNatClampNeg) (cs.1 + (1 + x.toNatClampNeg), cs.2 + (x.toNatClampNeg + x.toNatClampNeg * y.toNatClampNeg))
  | _ => False
section
variable (fld : Nat → Option (Nat × Nat × FieldType × Bool)) (cal : Nat → Option (Nat × qCS)) (cst : Nat → Option Int32) (csl : Nat → Option Int64) (nwo : Nat → Option (Nat × Nat × List Value)) (thr : Nat → Option String) (sc : Nat → Option (Nat × (Nat → Int32))) (ini : Bool) (rt : Option FieldType) (rc rs : Nat) (R : Option Value → qMM → Nat × Nat → Prop) (X : String → qMM → Nat × Nat → Prop)
def stepI (i : Instr) (pc : Nat) (l lj : List (Option Value)) (st : List Value) (μ : qMM) (cs : Nat × Nat) (k : qKT) : Prop :=
  match i with
  | .aload_n n => match l[(n : Nat)]? with
    | some (some (.ref a)) => k (pc + 1) l lj (.ref a :: st) μ cs
    | _ => False
  | .aload n => match l[n]? with
    | some (some (.ref a)) => k (pc + 2) l lj (.ref a :: st) μ cs
    | _ => False
  | .iload_n n => match l[(n : Nat)]? with
    | some (some (.int a)) => k (pc + 1) l lj (.int a :: st) μ cs
    | _ => False
  | .iload n => match l[n]? with
    | some (some (.int a)) => k (pc + 2) l lj (.int a :: st) μ cs
    | _ => False
  | .lload_n n => match lj[(n : Nat)]? with
    | some (some (.long a)) => k (pc + 1) l lj (.long a :: st) μ cs
    | _ => False
  | .lload n => match lj[n]? with
    | some (some (.long a)) => k (pc + 2) l lj (.long a :: st) μ cs
    | _ => False
  | .dload n => match lj[n]? with
    | some (some (.double a)) => k (pc + 2) l lj (.double a :: st) μ cs
    | _ => False
  | .iconst n => k (pc + 1) l lj (.int (Int32.ofInt n) :: st) μ cs
  | .bipush n => k (pc + 2) l lj (.int (Int8.ofInt n).toInt32 :: st) μ cs
  | .sipush n => k (pc + 3) l lj (.int (Int16.ofInt n).toInt32 :: st) μ cs
  | .lconst n => k (pc + 1) l lj (.long (Int64.ofNat (n : Nat)) :: st) μ cs
  | .dconst n => match n with
    | 0 => k (pc + 1) l lj (.double FP.dconst0 :: st) μ cs
    | 1 => False
  | .ldc n => match cst n with
    | some v => k (pc + 2) l lj (.int v :: st) μ cs
    | none => False
  | .ldc_w n => match cst n with
    | some v => k (pc + 3) l lj (.int v :: st) μ cs
    | none => False
  | .ldc2_w n => match csl n with
    | some v => k (pc + 3) l lj (.long v :: st) μ cs
    | none => False
  | .istore_n n => match l[(n : Nat)]?, st with
    | some _, .int x :: r => k (pc + 1) (l.set n (some (.int x))) ((lj.set (n - 1) none).set n none) r μ cs
    | _, _ => False
  | .istore n => match l[(n : Nat)]?, st with
    | some _, .int x :: r => k (pc + 2) (l.set n (some (.int x))) ((lj.set (n - 1) none).set n none) r μ cs
    | _, _ => False
  | .astore_n n => match l[(n : Nat)]?, st with
    | some _, .ref x :: r => k (pc + 1) (l.set n (some (.ref x))) ((lj.set (n - 1) none).set n none) r μ cs
    | _, _ => False
  | .astore n => match l[(n : Nat)]?, st with
    | some _, .ref x :: r => k (pc + 2) (l.set n (some (.ref x))) ((lj.set (n - 1) none).set n none) r μ cs
    | _, _ => False
  | .lstore_n n => match l[(n : Nat) + 1]?, lj[(n : Nat) + 1]?, st with
    | some _, some _, .long x :: r => k (pc + 1) ((l.set n none).set (n + 1) none) (((lj.set (n - 1) none).set (n + 1) none).set n (some (.long x))) r μ cs
    | _, _, _ => False
  | .lstore n => match l[(n : Nat) + 1]?, lj[(n : Nat) + 1]?, st with
    | some _, some _, .long x :: r => k (pc + 2) ((l.set n none).set (n + 1) none) (((lj.set (n - 1) none).set (n + 1) none).set n (some (.long x))) r μ cs
    | _, _, _ => False
  | .dstore n => match l[(n : Nat) + 1]?, lj[(n : Nat) + 1]?, st with
    | some _, some _, .double x :: r => k (pc + 2) ((l.set n none).set (n + 1) none) (((lj.set (n - 1) none).set (n + 1) none).set n (some (.double x))) r μ cs
    | _, _, _ => False
  | .iinc n d => match l[n]? with
    | some (some (.int x)) => k (pc + 3) (l.set n (some (.int (x + Int32.ofInt d)))) ((lj.set (n - 1) none).set n none) st μ cs
    | _ => False
  | .iadd => match st with
    | .int y :: .int x :: r => k (pc + 1) l lj (.int (x + y) :: r) μ cs
    | _ => False
  | .isub => match st with
    | .int y :: .int x :: r => k (pc + 1) l lj (.int (x - y) :: r) μ cs
    | _ => False
  | .imul => match st with
    | .int y :: .int x :: r => k (pc + 1) l lj (.int (x * y) :: r) μ cs
    | _ => False
  | .iand => match st with
    | .int y :: .int x :: r => k (pc + 1) l lj (.int (x &&& y) :: r) μ cs
    | _ => False
  | .ixor => match st with
    | .int y :: .int x :: r => k (pc + 1) l lj (.int (x ^^^ y) :: r) μ cs
    | _ => False
  | .irem => match st with
    | .int y :: .int x :: r => ¬ y = 0 ∧ k (pc + 1) l lj (.int (x - x / y * y) :: r) μ cs
    | _ => False
  | .idiv => match st with
    | .int y :: .int x :: r => ¬ y = 0 ∧ k (pc + 1) l lj (.int (x / y) :: r) μ cs
    | _ => False
  | .ishr => match st with
    | .int y :: .int x :: r => k (pc + 1) l lj (.int (x >>> (y &&& 31)) :: r) μ cs
    | _ => False
  | .land => match st with
    | .long y :: .long x :: r => k (pc + 1) l lj (.long (x &&& y) :: r) μ cs
    | _ => False
  | .lshr => match st with
    | .int y :: .long x :: r => k (pc + 1) l lj (.long (x >>> (y.toInt64 &&& 63)) :: r) μ cs
    | _ => False
  | .l2i => match st with
    | .long x :: r => k (pc + 1) l lj (.int x.toInt32 :: r) μ cs
    | _ => False
  | .ladd => match st with
    | .long y :: .long x :: r => k (pc + 1) l lj (.long (x + y) :: r) μ cs
    | _ => False
  | .lmul => match st with
    | .long y :: .long x :: r => k (pc + 1) l lj (.long (x * y) :: r) μ cs
    | _ => False
  | .lcmp => match st with
    | .long y :: .long x :: r => k (pc + 1) l lj (.int (lg_cmp x y) :: r) μ cs
    | _ => False
  | .dcmp op => match st with
    | .double y :: .double x :: r => k (pc + 1) l lj (.int (Op.cmpValue (FP.dcmp x y) op) :: r) μ cs
    | _ => False
  | .ddiv => match st with
    | .double y :: .double x :: r => vf_n64 (FP.ddiv x y) ∧ k (pc + 1) l lj (.double (FP.ddiv x y) :: r) μ cs
    | _ => False
  | .i2l => match st with
    | .int x :: r => k (pc + 1) l lj (.long x.toInt64 :: r) μ cs
    | _ => False
  | .i2s => match st with
    | .int x :: r => k (pc + 1) l lj (.int x.toInt16.toInt32 :: r) μ cs
    | _ => False
  | .i2d => match st with
    | .int x :: r => k (pc + 1) l lj (.double (FP.i2d x) :: r) μ cs
    | _ => False
  | .dup => match st with
    | .int x :: r => k (pc + 1) l lj (.int x :: .int x :: r) μ cs
    | .ref x :: r => k (pc + 1) l lj (.ref x :: .ref x :: r) μ cs
    | _ => False
  | .dup2 => match st with
    | .int y :: .ref x :: r => k (pc + 1) l lj (.int y :: .ref x :: .int y :: .ref x :: r) μ cs
    | _ => False
  | .pop => match st with
    | .int _ :: r => k (pc + 1) l lj r μ cs
    | .ref _ :: r => k (pc + 1) l lj r μ cs
    | _ => False
  | .goto o => qGo (qTg pc o) (fun t => k t l lj st μ cs)
  | .ifCond op o => match st with
    | .int x :: r => qGo (qTg pc o) (fun t => (qCn op x 0 → k t l lj r μ cs) ∧ (¬ qCn op x 0 → k (pc + 3) l lj r μ cs))
    | _ => False
  | .if_icmp op o => match st with
    | .int y :: .int x :: r => qGo (qTg pc o) (fun t => (qCn op x y → k t l lj r μ cs) ∧ (¬ qCn op x y → k (pc + 3) l lj r μ cs))
    | _ => False
  | .tableswitch d lo hi offs => match st with
    | .int x :: r => qGo (qSwT pc d lo hi offs x) (fun t => k t l lj r μ cs)
    | _ => False
  | .lookupswitch d ps => match st with
    | .int x :: r => (ps.toList.zip (ps.toList.drop 1)).all (fun (a, next) => a.1 < next.1) = true ∧ qGo (qSwL pc d ps x) (fun t => k t l lj r μ cs)
    | _ => False
  | .getfield idx => match fld idx, st with
    | some (ci, j, _), .ref a :: r => qGet μ a ci j (fun v => k (pc + 3) l lj (v :: r) μ cs)
    | _, _ => False
  | .putfield idx => match fld idx, st with
    | some (ci, j, ty, fin), v :: .ref a :: r => bif fin && !ini then False else qPut μ a ci j ty v (fun μ' => k (pc + 3) l lj r μ' cs)
    | _, _ => False
  | .iaload => match st with
    | .int i :: .ref a :: r => qIld (sc a) μ a i (fun v => k (pc + 1) l lj (.int v :: r) μ cs)
    | _ => False
  | .iastore => match st with
    | .int x :: .int i :: .ref a :: r => qArr μ a 0 i (k (pc + 1) l lj r (wI μ a i.toNatClampNeg x) cs)
    | _ => False
  | .laload => match st with
    | .int i :: .ref a :: r => qArr μ a 1 i (k (pc + 1) l lj (.long (mJ μ a i.toNatClampNeg) :: r) μ cs)
    | _ => False
  | .lastore => match st with
    | .long x :: .int i :: .ref a :: r => qArr μ a 1 i (k (pc + 1) l lj r (wL μ a i.toNatClampNeg x) cs)
    | _ => False
  | .aaload => match st with
    | .int i :: .ref a :: r => qAal μ a i (fun b => k (pc + 1) l lj (.ref b :: r) μ cs)
    | _ => False
  | .aastore => match st with
    | .ref b :: .int i :: .ref a :: r => qAst μ a b i (fun μ' => k (pc + 1) l lj r μ' cs)
    | _ => False
  | .arraylength => match st with
    | .ref a :: r => qAln (sc a) μ a (fun v => k (pc + 1) l lj (.int v :: r) μ cs)
    | _ => False
  | .new idx => match thr pc with
    | some E => st = [] ∧ X E μ cs
    | none => qNwO (nwo idx) μ cs rc rs (fun n μ' cs' => k (pc + 3) l lj (.ref n :: st) μ' cs')
  | .newarray ty => match ty, st with
    | .int, .int x :: r => qNwA 0 x μ cs rc rs (fun n μ' cs' => k (pc + 2) l lj (.ref n :: r) μ' cs')
    | .long, .int x :: r => qNwA 1 x μ cs rc rs (fun n μ' cs' => k (pc + 2) l lj (.ref n :: r) μ' cs')
    | _, _ => False
  | .anewarray idx => match nwo idx, st with
    | some (5, _, _), .int x :: r => qNwA 3 x μ cs rc rs (fun n μ' cs' => k (pc + 3) l lj (.ref n :: r) μ' cs')
    | _, _ => False
  | .multianewarray idx d => match nwo idx, d, st with
    | some (99, _, _), 2, .int y :: .int x :: r => qNwM x y μ cs rc rs (fun n μ' cs' => k (pc + 4) l lj (.ref n :: r) μ' cs')
    | _, _, _ => False
  | .invokevirtual idx => qInv 0 cal idx st μ cs rc rs (fun st' μ' cs' => k (pc + 3) l lj st' μ' cs')
  | .invokestatic idx => qInv 1 cal idx st μ cs rc rs (fun st' μ' cs' => k (pc + 3) l lj st' μ' cs')
  | .invokespecial idx => qInv 2 cal idx st μ cs rc rs (fun st' μ' cs' => k (pc + 3) l lj st' μ' cs')
  | .ireturn => match st, rt with
    | [.int x], some ty => qOk ty x ∧ R (some (.int x)) μ cs
    | _, _ => False
  | .lreturn => match st, rt with
    | [.long x], some .long => R (some (.long x)) μ cs
    | _, _ => False
  | .dreturn => match st, rt with
    | [.double x], some .double => R (some (.double x)) μ cs
    | _, _ => False
  | .areturn => match st, rt with
    | [.ref a], some ty => qOkR ty ∧ R (some (.ref a)) μ cs
    | _, _ => False
  | .return_ => match st, rt with
    | [], none => R none μ cs
    | _, _ => False
  | _ => False
end
/-! the step grows with what follows it -/
theorem qGo_mono {t : Option Nat} {k k' : Nat → Prop} (h : ∀ n, k n → k' n) : qGo t k → qGo t k' := by
  cases t with
  | none => exact id
  | some n => exact h n
theorem qInv_mono {kd : Nat} {cal : Nat → Option (Nat × qCS)} {idx : Nat} {st : List Value} {μ : qMM} {cs : Nat × Nat} {rc rs : Nat} {k k' : List Value → qMM → Nat × Nat → Prop} (h : ∀ a b c, k a b c → k' a b c) : qInv kd cal idx st μ cs rc rs k → qInv kd cal idx st μ cs rc rs k' := by
  unfold qInv
  cases cal idx with
  | none => exact id
  | some q =>
    obtain ⟨kd', q⟩ := q
    dsimp only
    cases kd' == kd
    · exact id
    · exact fun z => ⟨z.1, z.2.1, z.2.2.1, z.2.2.2.1, z.2.2.2.2.1, fun v μ' hp => h _ _ _ (z.2.2.2.2.2 v μ' hp)⟩
theorem qGet_mono {μ : qMM} {a ci j : Nat} {k k' : Value → Prop} (h : ∀ v, k v → k' v) : qGet μ a ci j k → qGet μ a ci j k' := by
  unfold qGet
  cases mS μ a with
  | none => exact id
  | some t =>
    rcases t with ⟨c, t⟩ | x
    · intro z
      refine ⟨z.1, ?_⟩
      have z2 := z.2
      revert z2
      try dsimp only
      split <;> first | exact h _ | exact id
    · exact id
theorem qPut_mono {μ : qMM} {a ci j : Nat} {ty : FieldType} {v : Value} {k k' : qMM → Prop} (h : ∀ v, k v → k' v) : qPut μ a ci j ty v k → qPut μ a ci j ty v k' := by
  unfold qPut
  cases mS μ a with
  | none => exact id
  | some t =>
    rcases t with ⟨c, t⟩ | x
    · intro z
      refine ⟨z.1, ?_⟩
      have z2 := z.2
      revert z2
      try dsimp only
      split <;> first | exact h _ | exact id | exact fun w => ⟨w.1, h _ w.2⟩
    · exact id
theorem qBif_mono {b : Bool} {k k' : Prop} (h : k → k') : (bif b then False else k) → (bif b then False else k') := by
  cases b
  · exact h
  · exact id
theorem qArr_mono {μ : qMM} {a ty : Nat} {i : Int32} {k k' : Prop} (h : k → k') : qArr μ a ty i k → qArr μ a ty i k' := by
  unfold qArr
  cases mS μ a with
  | none => exact id
  | some t =>
    rcases t with x | ⟨t, n, f⟩
    · exact id
    · exact fun z => ⟨z.1, z.2.1, h z.2.2⟩
theorem qAal_mono {μ : qMM} {a : Nat} {i : Int32} {k k' : Nat → Prop} (h : ∀ b, k b → k' b) : qAal μ a i k → qAal μ a i k' := by
  unfold qAal
  cases mS μ a with
  | none => exact id
  | some t =>
    rcases t with x | ⟨t, n, f⟩
    · exact id
    · intro z
      refine ⟨z.1, z.2.1, ?_⟩
      have z2 := z.2.2
      revert z2
      split
      · exact h _
      · exact id
theorem qAst_mono {μ : qMM} {a b : Nat} {i : Int32} {k k' : qMM → Prop} (h : ∀ b, k b → k' b) : qAst μ a b i k → qAst μ a b i k' := by
  unfold qAst
  split
  · exact fun z => ⟨z.1, z.2.1, z.2.2.1, h _ z.2.2.2⟩
  · exact id
theorem qAln_mono {s : Option (Nat × (Nat → Int32))} {μ : qMM} {a : Nat} {k k' : Int32 → Prop} (h : ∀ b, k b → k' b) : qAln s μ a k → qAln s μ a k' := by
  unfold qAln
  split
  · exact h _
  · split
    · exact fun z => ⟨z.1, h _ z.2⟩
    · exact id
theorem qIld_mono {s : Option (Nat × (Nat → Int32))} {μ : qMM} {a : Nat} {i : Int32} {k k' : Int32 → Prop} (h : ∀ b, k b → k' b) : qIld s μ a i k → qIld s μ a i k' := by
  unfold qIld
  split
  · exact fun z => ⟨z.1, h _ z.2⟩
  · exact qArr_mono (h _)
theorem qNwO_mono {o : Option (Nat × Nat × List Value)} {μ : qMM} {cs : Nat × Nat} {rc rs : Nat} {k k' : Nat → qMM → Nat × Nat → Prop} (h : ∀ a b c, k a b c → k' a b c) : qNwO o μ cs rc rs k → qNwO o μ cs rc rs k' := by
  unfold qNwO
  split
  · exact fun z => ⟨z.1, z.2.1, z.2.2.1, h _ _ _ z.2.2.2⟩
  · exact id
theorem qNwA_mono {tg : Nat} {x : Int32} {μ : qMM} {cs : Nat × Nat} {rc rs : Nat} {k k' : Nat → qMM → Nat × Nat → Prop} (h : ∀ a b c, k a b c → k' a b c) : qNwA tg x μ cs rc rs k → qNwA tg x μ cs rc rs k' := by
  unfold qNwA
  split
  · exact fun z => ⟨z.1, z.2.1, z.2.2.1, z.2.2.2.1, h _ _ _ z.2.2.2.2⟩
  · exact id
theorem qNwM_mono {x y : Int32} {μ : qMM} {cs : Nat × Nat} {rc rs : Nat} {k k' : Nat → qMM → Nat × Nat → Prop} (h : ∀ a b c, k a b c → k' a b c) : qNwM x y μ cs rc rs k → qNwM x y μ cs rc rs k' := by
  unfold qNwM
  split
  · exact fun z => ⟨z.1, z.2.1, z.2.2.1, z.2.2.2.1, z.2.2.2.2.1, z.2.2.2.2.2.1, h _ _ _ z.2.2.2.2.2.2⟩
  · exact id
set_option maxHeartbeats 4000000 in
theorem stepI_mono {fld : Nat → Option (Nat × Nat × FieldType × Bool)} {cal : Nat → Option (Nat × qCS)} {cst : Nat → Option Int32} {csl : Nat → Option Int64} {nwo : Nat → Option (Nat × Nat × List Value)} {thr : Nat → Option String} {sc : Nat → Option (Nat × (Nat → Int32))} {ini : Bool} {rt : Option FieldType} {rc rs : Nat} {R : Option Value → qMM → Nat × Nat → Prop} {X : String → qMM → Nat × Nat → Prop} {i : Instr} {pc : Nat} {l lj : List (Option Value)} {st : List Value} {μ : qMM} {cs : Nat × Nat} {k k' : qKT} (h : ∀ a b c d e f, k a b c d e f → k' a b c d e f) :
    stepI fld cal cst csl nwo thr sc ini rt rc rs R X i pc l lj st μ cs k → stepI fld cal cst csl nwo thr sc ini rt rc rs R X i pc l lj st μ cs k' := by
  cases i <;> dsimp only [stepI] <;> (try exact id) <;> (try exact h _ _ _ _ _ _) <;> (try exact qGo_mono (fun _ => h _ _ _ _ _ _)) <;> (try exact qInv_mono (fun _ _ _ => h _ _ _ _ _ _)) <;>
    (repeat' (first | exact id | exact h _ _ _ _ _ _ | exact qGo_mono (fun _ => h _ _ _ _ _ _) | exact qGo_mono (fun _ z => ⟨fun c => h _ _ _ _ _ _ (z.1 c), fun c => h _ _ _ _ _ _ (z.2 c)⟩) | exact qGet_mono (fun _ => h _ _ _ _ _ _) | exact qBif_mono (qPut_mono (fun _ => h _ _ _ _ _ _)) | exact qArr_mono (h _ _ _ _ _ _) | exact qIld_mono (fun _ => h _ _ _ _ _ _) | exact qAal_mono (fun _ => h _ _ _ _ _ _) | exact qAst_mono (fun _ => h _ _ _ _ _ _) | exact qAln_mono (fun _ => h _ _ _ _ _ _) | exact qNwO_mono (fun _ _ _ => h _ _ _ _ _ _) | exact qNwA_mono (fun _ _ _ => h _ _ _ _ _ _) | exact qNwM_mono (fun _ _ _ => h _ _ _ _ _ _) | exact fun z => ⟨z.1, h _ _ _ _ _ _ z.2⟩ | exact fun z => ⟨z.1, qGo_mono (fun _ => h _ _ _ _ _ _) z.2⟩ | split))
def qLn (i : Instr) (len : Nat) : Bool := match i with
  | .aload _ | .iload _ | .lload _ | .dload _ | .istore _ | .astore _ | .lstore _ | .dstore _ | .bipush _ | .ldc _ | .newarray _ => len == 2
  | .sipush _ | .ldc_w _ | .ldc2_w _ | .iinc _ _ | .goto _ | .ifCond _ _ | .if_icmp _ _ | .getfield _ | .putfield _ | .new _ | .anewarray _ | .invokevirtual _ | .invokestatic _ | .invokespecial _ => len == 3
  | .multianewarray _ _ => len == 4
  | .tableswitch _ _ _ _ | .lookupswitch _ _ => true
  | _ => len == 1
/-- a method's step: at each place its own instruction's -/
abbrev qST : Type := Nat → List (Option Value) → List (Option Value) → List Value → qMM → Nat × Nat → qKT → Prop
def stepOf (code : ByteArray) (fld : Nat → Option (Nat × Nat × FieldType × Bool)) (cal : Nat → Option (Nat × qCS)) (cst : Nat → Option Int32) (csl : Nat → Option Int64) (nwo : Nat → Option (Nat × Nat × List Value)) (thr : Nat → Option String) (sc : Nat → Option (Nat × (Nat → Int32))) (ini : Bool) (rt : Option FieldType) (rc rs : Nat) (R : Option Value → qMM → Nat × Nat → Prop) (X : String → qMM → Nat × Nat → Prop) : qST := fun pc l lj st μ cs k =>
  ∃ (i : Instr) (len : Nat), decode code pc = .ok (i, len) ∧ qLn i len = true ∧ stepI fld cal cst csl nwo thr sc ini rt rc rs R X i pc l lj st μ cs k
/-- from here the method comes to an end that R or X allows -/
def EX (S : qST) (pc : Nat) (l lj : List (Option Value)) (st : List Value) (μ : qMM) (cs : Nat × Nat) : Prop :=
  ∀ Y : qKT, (∀ pc l lj st μ cs, S pc l lj st μ cs Y → Y pc l lj st μ cs) → Y pc l lj st μ cs
theorem EX_at {code : ByteArray} {fld : Nat → Option (Nat × Nat × FieldType × Bool)} {cal : Nat → Option (Nat × qCS)} {cst : Nat → Option Int32} {csl : Nat → Option Int64} {nwo : Nat → Option (Nat × Nat × List Value)} {thr : Nat → Option String} {sc : Nat → Option (Nat × (Nat → Int32))} {ini : Bool} {rt : Option FieldType} {rc rs : Nat} {R : Option Value → qMM → Nat × Nat → Prop} {X : String → qMM → Nat × Nat → Prop} {i : Instr} {len pc : Nat} (hd : decode code pc = .ok (i, len)) (hl : qLn i len = true) (l lj : List (Option Value)) (st : List Value) (μ : qMM) (cs : Nat × Nat) :
    EX (stepOf code fld cal cst csl nwo thr sc ini rt rc rs R X) pc l lj st μ cs = stepI fld cal cst csl nwo thr sc ini rt rc rs R X i pc l lj st μ cs (EX (stepOf code fld cal cst csl nwo thr sc ini rt rc rs R X)) := by
  have mono : ∀ {pc l lj st μ cs} {k k' : qKT}, (∀ a b c d e f, k a b c d e f → k' a b c d e f) → stepOf code fld cal cst csl nwo thr sc ini rt rc rs R X pc l lj st μ cs k → stepOf code fld cal cst csl nwo thr sc ini rt rc rs R X pc l lj st μ cs k' := by
    rintro pc l lj st μ cs k k' h ⟨i, len, h1, h3, h2⟩
    exact ⟨i, len, h1, h3, stepI_mono h h2⟩
  have fold : ∀ {pc l lj st μ cs}, stepOf code fld cal cst csl nwo thr sc ini rt rc rs R X pc l lj st μ cs (EX (stepOf code fld cal cst csl nwo thr sc ini rt rc rs R X)) → EX (stepOf code fld cal cst csl nwo thr sc ini rt rc rs R X) pc l lj st μ cs := by
    intro pc l lj st μ cs h Y hY
    exact hY _ _ _ _ _ _ (mono (fun _ _ _ _ _ _ z => z Y hY) h)
  apply propext
  constructor
  · intro h
    have h2 := h (fun pc l lj st μ cs => stepOf code fld cal cst csl nwo thr sc ini rt rc rs R X pc l lj st μ cs (EX (stepOf code fld cal cst csl nwo thr sc ini rt rc rs R X))) (fun pc l lj st μ cs z => mono (fun _ _ _ _ _ _ => fold) z)
    obtain ⟨i', len', h1, -, h3⟩ := h2
    rw [hd] at h1
    cases h1
    exact h3
  · intro h
    exact fold ⟨i, len, hd, hl, h⟩
