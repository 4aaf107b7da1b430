/-! THE SMALL MACHINE: a method's code as a list, a heap as two lists of cells and pooled rows, numbers as Int (no overflow is asked for at each step), longs as Int64; 'mm_wp' runs a stretch of code and yields what must hold. -/
abbrev MV : Type := Int ⊕ Int64 ⊕ Option Nat ⊕ Nat
abbrev ME : Type := (Nat × List MV) ⊕ (Nat × Nat × (Int → Int)) ⊕ (Nat × (Int → Int64)) ⊕ (Nat × Nat)
abbrev HP : Type := Option Nat × List ME × List ME × Nat × (Nat → Int → Int)
abbrev LV : Type := List (Option MV)
abbrev Tr : Type := List MV → HP → (Option MV → HP → Prop) → (String → HP → Prop) → Prop
abbrev MC : Type := List (Nat × Instr × Nat)
abbrev mI (z : Int) : MV := .inl z
abbrev mL (x : Int64) : MV := .inr (.inl x)
abbrev mR (i : Nat) : MV := .inr (.inr (.inl (some i)))
abbrev mN : MV := .inr (.inr (.inl none))
abbrev mQ (r : Nat) : MV := .inr (.inr (.inr r))
abbrev eO (ci : Nat) (fs : List MV) : ME := .inl (ci, fs)
abbrev eI (k n : Nat) (f : Int → Int) : ME := .inr (.inl (k, n, f))
abbrev eL (n : Nat) (f : Int → Int64) : ME := .inr (.inr (.inl (n, f)))
abbrev eG (n b : Nat) : ME := .inr (.inr (.inr (n, b)))
def mm_rng (z : Int) : Prop := -2147483648 ≤ z ∧ z ≤ 2147483647
def mm_rngB (lo hi z : Int) : Bool := decide (lo ≤ z) && decide (z ≤ hi)
def mm_look {α : Type} : List (Nat × α) → Nat → Option α
  | [], _ => none
  | (k, v) :: t, i => match Nat.beq k i with
    | true => some v
    | false => mm_look t i
def mm_c1 : MV → Bool
  | .inr (.inl _) => false
  | _ => true
def mm_and (a b : Int) : Int := (Int32.ofInt a &&& Int32.ofInt b).toInt
def mm_or (a b : Int) : Int := (Int32.ofInt a ||| Int32.ofInt b).toInt
def mm_shl (a b : Int) : Int := (Int32.ofInt a <<< (Int32.ofInt b &&& 31)).toInt
def mm_shr (a b : Int) : Int := (Int32.ofInt a >>> (Int32.ofInt b &&& 31)).toInt
def mm_ushr (a b : Int) : Int := (((Int32.ofInt a).toUInt32 >>> ((Int32.ofInt b).toUInt32 &&& Int32.toUInt32 31)).toInt32).toInt
def mm_i2b (a : Int) : Int := ((Int32.ofInt a).toInt8.toInt32).toInt
def mm_cmp (x y : Int64) : Int := (lg_cmp x y).toInt
def mm_upd (f : Int → Int) (j v : Int) : Int → Int := fun i => if i = j then v else f i
def mm_updL (f : Int → Int64) (j : Int) (v : Int64) : Int → Int64 := fun i => if i = j then v else f i
def mm_updR (f : Nat → Int → Int) (r : Nat) (v : Int → Int) : Nat → Int → Int := fun i => if i = r then v else f i
/-- steps on the stack alone, nothing asked -/
def mm_p0 (lt : List (Nat × MV)) (ins : Instr) (st : List MV) : Option (List MV) :=
  match ins with
  | .iconst z => match mm_rngB (-2147483648) 2147483647 z with
    | true => some (mI z :: st)
    | false => none
  | .bipush z => match mm_rngB (-128) 127 z with
    | true => some (mI z :: st)
    | false => none
  | .sipush z => match mm_rngB (-32768) 32767 z with
    | true => some (mI z :: st)
    | false => none
  | .lconst k => some (mL (Int64.ofNat k.val) :: st)
  | .aconst_null => some (mN :: st)
  | .ldc i => match mm_look lt i with
    | some (.inl z) => match mm_rngB (-2147483648) 2147483647 z with
      | true => some (mI z :: st)
      | false => none
    | _ => none
  | .ldc_w i => match mm_look lt i with
    | some (.inl z) => match mm_rngB (-2147483648) 2147483647 z with
      | true => some (mI z :: st)
      | false => none
    | _ => none
  | .ldc2_w i => match mm_look lt i with
    | some (.inr (.inl x)) => some (mL x :: st)
    | _ => none
  | .dup => match st with
    | v :: r => match mm_c1 v with
      | true => some (v :: v :: r)
      | false => none
    | [] => none
  | .pop => match st with
    | v :: r => match mm_c1 v with
      | true => some r
      | false => none
    | [] => none
  | .dup2 => match st with
    | v :: r => match mm_c1 v with
      | false => some (v :: v :: r)
      | true => match r with
        | w :: r2 => match mm_c1 w with
          | true => some (v :: w :: v :: w :: r2)
          | false => none
        | [] => none
    | [] => none
  | .i2l => match st with
    | .inl z :: r => some (mL (Int64.ofInt z) :: r)
    | _ => none
  | .i2b => match st with
    | .inl z :: r => some (mI (mm_i2b z) :: r)
    | _ => none
  | .ladd => match st with
    | .inr (.inl y) :: .inr (.inl x) :: r => some (mL (x + y) :: r)
    | _ => none
  | .lsub => match st with
    | .inr (.inl y) :: .inr (.inl x) :: r => some (mL (x - y) :: r)
    | _ => none
  | .lmul => match st with
    | .inr (.inl y) :: .inr (.inl x) :: r => some (mL (x * y) :: r)
    | _ => none
  | .lneg => match st with
    | .inr (.inl x) :: r => some (mL (-x) :: r)
    | _ => none
  | .lcmp => match st with
    | .inr (.inl y) :: .inr (.inl x) :: r => some (mI (mm_cmp x y) :: r)
    | _ => none
  | .iand => match st with
    | .inl b :: .inl a :: r => some (mI (mm_and a b) :: r)
    | _ => none
  | .ior => match st with
    | .inl b :: .inl a :: r => some (mI (mm_or a b) :: r)
    | _ => none
  | .ishl => match st with
    | .inl b :: .inl a :: r => some (mI (mm_shl a b) :: r)
    | _ => none
  | .ishr => match st with
    | .inl b :: .inl a :: r => some (mI (mm_shr a b) :: r)
    | _ => none
  | .iushr => match st with
    | .inl b :: .inl a :: r => some (mI (mm_ushr a b) :: r)
    | _ => none
  | _ => none
/-- steps on the stack alone, with what they ask -/
def mm_p1 (ins : Instr) (st : List MV) : Option (Prop × List MV) :=
  match ins with
  | .iadd => match st with
    | .inl b :: .inl a :: r => some (mm_rng (a + b), mI (a + b) :: r)
    | _ => none
  | .isub => match st with
    | .inl b :: .inl a :: r => some (mm_rng (a - b), mI (a - b) :: r)
    | _ => none
  | .imul => match st with
    | .inl b :: .inl a :: r => some (mm_rng (a * b), mI (a * b) :: r)
    | _ => none
  | .ineg => match st with
    | .inl a :: r => some (mm_rng (-a), mI (-a) :: r)
    | _ => none
  | .idiv => match st with
    | .inl b :: .inl a :: r => some (b ≠ 0 ∧ mm_rng (a.tdiv b), mI (a.tdiv b) :: r)
    | _ => none
  | .irem => match st with
    | .inl b :: .inl a :: r => some (b ≠ 0 ∧ mm_rng (a.tdiv b), mI (a.tmod b) :: r)
    | _ => none
  | .ldiv => match st with
    | .inr (.inl y) :: .inr (.inl x) :: r => some (y ≠ 0, mL (x / y) :: r)
    | _ => none
  | .lrem => match st with
    | .inr (.inl y) :: .inr (.inl x) :: r => some (y ≠ 0, mL (x - x / y * y) :: r)
    | _ => none
  | .l2i => match st with
    | .inr (.inl x) :: r => some (mm_rng x.toInt, mI x.toInt :: r)
    | _ => none
  | _ => none
def mm_br (c : Jvm.ClassFile.Cond) (a b : Int) (J G : Prop) : Prop := match c with
  | .eq => (a = b → J) ∧ (¬ a = b → G)
  | .ne => (¬ a = b → J) ∧ (a = b → G)
  | .lt => (a < b → J) ∧ (b ≤ a → G)
  | .ge => (b ≤ a → J) ∧ (a < b → G)
  | .gt => (b < a → J) ∧ (a ≤ b → G)
  | .le => (a ≤ b → J) ∧ (b < a → G)
def mm_ts (a : Int) (J : Int → Prop) : Int → List Int → Prop
  | _, [] => True
  | lo, o :: t => (a = lo → J o) ∧ mm_ts a J (lo + 1) t
def mm_ls (a : Int) (J : Int → Prop) (d : Int) : List (Int × Int) → Prop
  | [] => J d
  | (k, o) :: t => (a = k → J o) ∧ (¬ a = k → mm_ls a J d t)
def mm_get (h : HP) (i : Nat) : Option ME := match Nat.blt i 1000 with
  | true => h.2.1[i]?
  | false => h.2.2.1[i - 1000]?
def mm_set (h : HP) (i : Nat) (e : ME) : HP := match Nat.blt i 1000 with
  | true => (h.1, h.2.1.set i e, h.2.2)
  | false => (h.1, h.2.1, h.2.2.1.set (i - 1000) e, h.2.2.2)
def mm_setR (h : HP) (r : Nat) (f : Int → Int) : HP := (h.1, h.2.1, h.2.2.1, h.2.2.2.1, mm_updR h.2.2.2.2 r f)
def mm_lpre (l : LV) : Nat → LV
  | 0 => l
  | k + 1 => match l[k]? with
    | some (some (.inr (.inl _))) => l.set k none
    | _ => l
def mm_lset (l : LV) (i : Nat) (v : MV) : LV :=
  match mm_c1 v with
  | true => (mm_lpre l i).set i (some v)
  | false => ((mm_lpre l i).set i (some v)).set (i + 1) none
/-- the width of a stack, as the machine weighs it -/
def mm_wd : List MV → Nat
  | [] => 0
  | v :: t => (match mm_c1 v with | true => 1 | false => 2) + mm_wd t
