/-! texts that ask for values: tokens, what a text says, what it comes to -/
def isFg (c : Int) : Bool := decide (48 ≤ c ∧ c ≤ 57)
def skN (tp : Nat → Int) : Nat → Nat → Nat
  | 0, i => i
  | n + 1, i => if tp i = 32 ∨ tp i = 10 then skN tp n (i + 1) else i
def nuN (tp : Nat → Int) : Nat → Nat → Nat → Nat × Nat
  | 0, i, a => (i, a)
  | n + 1, i, a => match isFg (tp i) with
    | true => nuN tp n (i + 1) (min (a * 10 + (tp i - 48).toNat) 10000)
    | false => (i, a)
abbrev TP : Type := (Nat → Int) × Nat
def tSt (x : TP) (p : Nat) : Nat := skN x.1 (x.2 - p) p
/-- the token: -1 the end, -2 a number -/
def tTk (x : TP) (p : Nat) : Int := if tSt x p < x.2 then (match isFg (x.1 (tSt x p)) with | true => -2 | false => x.1 (tSt x p)) else -1
def tNm (x : TP) (p : Nat) : Nat := if tSt x p < x.2 then (nuN x.1 (x.2 - tSt x p) (tSt x p) 0).2 else 0
def tNx (x : TP) (p : Nat) : Nat := if tSt x p < x.2 then (match isFg (x.1 (tSt x p)) with | true => (nuN x.1 (x.2 - tSt x p) (tSt x p) 0).1 | false => tSt x p + 1) else tSt x p
theorem skN_le (tp : Nat → Int) : ∀ (n i : Nat), i ≤ skN tp n i ∧ skN tp n i ≤ i + n
  | 0, i => ⟨Nat.le_refl _, Nat.le_refl _⟩
  | n + 1, i => by
    unfold skN
    split
    · have := skN_le tp n (i + 1)
      omega
    · omega
theorem nuN_le (tp : Nat → Int) : ∀ (n i a : Nat), i ≤ (nuN tp n i a).1 ∧ (nuN tp n i a).1 ≤ i + n
  | 0, i, a => ⟨Nat.le_refl _, Nat.le_refl _⟩
  | n + 1, i, a => by
    unfold nuN
    cases isFg (tp i) with
    | true =>
      have := nuN_le tp n (i + 1) (min (a * 10 + (tp i - 48).toNat) 10000)
      show i ≤ (nuN tp n (i + 1) (min (a * 10 + (tp i - 48).toNat) 10000)).1 ∧ (nuN tp n (i + 1) (min (a * 10 + (tp i - 48).toNat) 10000)).1 ≤ i + (n + 1)
      omega
    | false =>
      show i ≤ i ∧ i ≤ i + (n + 1)
      omega
theorem nuN_nm (tp : Nat → Int) : ∀ (n i a : Nat), a ≤ 10000 → (nuN tp n i a).2 ≤ 10000
  | 0, i, a, h => h
  | n + 1, i, a, h => by
    unfold nuN
    cases isFg (tp i) with
    | true => exact nuN_nm tp n (i + 1) _ (Nat.min_le_right _ _)
    | false => exact h
theorem tNm_le (x : TP) (p : Nat) : tNm x p ≤ 10000 := by
  unfold tNm
  split
  · exact nuN_nm _ _ _ _ (by omega)
  · omega
theorem t_le {x : TP} {p : Nat} (h : p ≤ x.2) : p ≤ tSt x p ∧ tSt x p ≤ tNx x p ∧ tNx x p ≤ x.2 ∧ (tTk x p ≠ -1 → tSt x p < tNx x p) := by
  have h1 := skN_le x.1 (x.2 - p) p
  have hs : tSt x p = skN x.1 (x.2 - p) p := rfl
  unfold tNx tTk
  by_cases q : tSt x p < x.2
  · rw [if_pos q, if_pos q]
    have h2 := nuN_le x.1 (x.2 - tSt x p) (tSt x p) 0
    cases hf : isFg (x.1 (tSt x p)) with
    | true =>
      refine ⟨by omega, h2.1, by show (nuN x.1 (x.2 - tSt x p) (tSt x p) 0).1 ≤ x.2; omega, fun _ => ?_⟩
      show tSt x p < (nuN x.1 (x.2 - tSt x p) (tSt x p) 0).1
      obtain ⟨k, hk⟩ : ∃ k, x.2 - tSt x p = k + 1 := ⟨x.2 - tSt x p - 1, by omega⟩
      rw [hk]
      unfold nuN
      rw [hf]
      have h3 := nuN_le x.1 k (tSt x p + 1) (min (0 * 10 + (x.1 (tSt x p) - 48).toNat) 10000)
      show tSt x p < (nuN x.1 k (tSt x p + 1) (min (0 * 10 + (x.1 (tSt x p) - 48).toNat) 10000)).1
      omega
    | false =>
      exact ⟨by omega, by show tSt x p ≤ tSt x p + 1; omega, by show tSt x p + 1 ≤ x.2; omega, fun _ => by show tSt x p < tSt x p + 1; omega⟩
  · rw [if_neg q, if_neg q]
    exact ⟨by omega, Nat.le_refl _, by omega, fun z => absurd rfl z⟩
abbrev OP : Type := Nat × Int × Int × Int
abbrev PR (α : Type) : Type := (Nat × Nat) ⊕ (Nat × α)
def pB {α β : Type} (r : PR α) (k : Nat → α → PR β) : PR β := match r with
  | .inl e => .inl e
  | .inr (p, v) => k p v
def pNum (x : TP) (c : Nat → Bool) (p : Nat) : PR Nat := if tTk x p = -2 then (match c (tNm x p) with | true => .inr (tNx x p, tNm x p) | false => .inl (2, tSt x p)) else .inl (1, tSt x p)
def pSkip (x : TP) (c : Int) (p : Nat) : PR Nat := if tTk x p = c then .inr (tNx x p, 0) else .inl (1, tSt x p)
def cLt (m n : Nat) : Bool := Nat.blt n m
def cCl (f n : Nat) : Bool := decide (okK f (n : Int) 0)
def cMv (f n : Nat) : Bool := decide (okM f (n : Int))
def pTwo (x : TP) (w : Nat) (c1 : Nat → Bool) (c2 : Nat → Nat → Bool) (p : Nat) : PR (List OP) := pB (pNum x c1 p) (fun p a => pB (pSkip x 46 p) (fun p _ => pB (pNum x (c2 a) p) (fun p b => .inr (p, [(w, (a : Int), (b : Int), 0)]))))
def pPlain (x : TP) (f p : Nat) : PR (List OP) :=
  if tTk x p = -2 then pB (pNum x (cLt 10000) p) (fun p v => .inr (p, [(0, (v : Int), 0, 0)]))
  else if tTk x p = 122 then pB (pNum x (cLt (fN f)) (tNx x p)) (fun p v => .inr (p, [(1, (v : Int), 0, 0)]))
  else if tTk x p = 103 then pTwo x 2 (cLt (fQ f - 1)) (fun _ => cLt (fQ f)) (tNx x p)
  else if tTk x p = 106 then pB (pNum x (cLt (fQ f - 1)) (tNx x p)) (fun p i => pB (pSkip x 46 p) (fun p _ => pB (pNum x (cLt (fQ f - 1)) p) (fun p j => pB (pSkip x 46 p) (fun p _ => pB (pNum x (cLt (fQ f)) p) (fun p c => .inr (p, [(3, (i : Int), (j : Int), (c : Int))]))))))
  else if tTk x p = 107 then pTwo x 4 (cLt (fQ f)) (fun _ => cLt (fQ f)) (tNx x p)
  else if tTk x p = 112 then pTwo x 5 (cCl f) (fun e => cLt e) (tNx x p)
  else if tTk x p = 35 then pB (pNum x (cLt 8) (tNx x p)) (fun p v => .inr (p, [(6, (v : Int), 0, 0)]))
  else .inl (1, tSt x p)
def pFac (x : TP) (A : Nat → PR (List OP)) (p : Nat) : PR (List OP) := pB (A p) (fun p ops => if tTk x p = 94 then pB (pNum x (cLt 21) (tNx x p)) (fun p n => .inr (p, ops ++ [(12, (n : Int), 0, 0)])) else .inr (p, ops))
def pTmL (x : TP) (A : Nat → PR (List OP)) : Nat → Nat → List OP → PR (List OP)
  | 0, p, ops => .inr (p, ops)
  | n + 1, p, ops => if tTk x p = 42 then pB (pFac x A (tNx x p)) (fun p o2 => pTmL x A n p (ops ++ (o2 ++ [(11, 0, 0, 0)]))) else .inr (p, ops)
def pTm (x : TP) (A : Nat → PR (List OP)) (p : Nat) : PR (List OP) := pB (pFac x A p) (fun p ops => pTmL x A 201 p ops)
def pRwL (x : TP) (A : Nat → PR (List OP)) : Nat → Nat → List OP → PR (List OP)
  | 0, p, ops => .inr (p, ops)
  | n + 1, p, ops => if tTk x p = 43 ∨ tTk x p = 45 then pB (pTm x A (tNx x p)) (fun p2 o2 => pRwL x A n p2 (ops ++ (o2 ++ [(if tTk x p = 43 then 9 else 10, 0, 0, 0)]))) else .inr (p, ops)
def pRw (x : TP) (A : Nat → PR (List OP)) (p : Nat) : PR (List OP) := pB (pTm x A p) (fun p ops => pRwL x A 201 p ops)
abbrev isOp (c : Int) : Prop := c = 40 ∨ c = 45 ∨ c = 126 ∨ c = 109
def pOpn (x : TP) (f : Nat) (A : Nat → PR (List OP)) (p : Nat) : PR (List OP) :=
  if tTk x p = 40 then pB (pRw x A (tNx x p)) (fun p ops => pB (pSkip x 41 p) (fun p _ => .inr (p, ops)))
  else if tTk x p = 45 then pB (A (tNx x p)) (fun p ops => .inr (p, ops ++ [(7, 0, 0, 0)]))
  else if tTk x p = 126 then pB (A (tNx x p)) (fun p ops => .inr (p, ops ++ [(8, (fN f : Int) - 1, 0, 0)]))
  else pB (pNum x (cMv f) (tNx x p)) (fun p a => pB (pSkip x 46 p) (fun p _ => pB (A p) (fun p ops => .inr (p, ops ++ [(8, (a : Int), 0, 0)]))))
def pAt (x : TP) (f : Nat) : Nat → Nat → PR (List OP)
  | 0, p => if isOp (tTk x p) then .inl (3, tSt x p) else pPlain x f p
  | m + 1, p => if isOp (tTk x p) then pOpn x f (pAt x f m) p else pPlain x f p
def pAll (x : TP) (f : Nat) : PR (List OP) := pB (pRw x (pAt x f 6) 0) (fun p ops => if tTk x p = -1 then .inr (p, ops) else .inl (1, tSt x p))
/-! what it comes to: values on a stack, the top first -/
abbrev VL : Type := Nat → Int64
def tst (f : Nat) (V : VL) (L : List VL) : Option (List VL) := if small f V then some (V :: L) else none
def pwV (f : Nat) (V : VL) : Nat → VL → List VL → Option (List VL)
  | 0, P, L => some (P :: L)
  | n + 1, P, L => if small f (mulV f P V) then pwV f V n (mulV f P V) L else none
def evO (a : AS) (o : OP) (L : List VL) : Option (List VL) :=
  if o.1 = 0 then tst (aF a) (fun t => if t = 0 then Int64.ofInt o.2.1 else 0) L
  else if o.1 = 1 then tst (aF a) (fun t => rho (aF a) o.2.1.toNat t) L
  else if o.1 = 2 then tst (aF a) (gauV (aF a) o.2.1.toNat o.2.2.1.toNat) L
  else if o.1 = 3 then tst (aF a) (jacV (aF a) o.2.1.toNat o.2.2.1.toNat o.2.2.2.toNat) L
  else if o.1 = 4 then tst (aF a) (kloV (aF a) o.2.1.toNat o.2.2.1.toNat) L
  else if o.1 = 5 then tst (aF a) (perV (aF a) o.2.1.toNat o.2.2.1.toNat) L
  else if o.1 = 6 then some (vL (aP a o.2.1.toNat) :: L)
  else match L with
    | [] => none
    | V :: L1 =>
      if o.1 = 7 then tst (aF a) (fun t => 0 + (-1) * V t) L1
      else if o.1 = 8 then tst (aF a) (mvV (aF a) V o.2.1.toNat) L1
      else if o.1 = 12 then (if o.2.1 = 0 then tst (aF a) (fun t => if t = 0 then 1 else 0) L1 else pwV (aF a) V (o.2.1.toNat - 1) V L1)
      else match L1 with
        | [] => none
        | U :: L2 =>
          if o.1 = 9 then tst (aF a) (fun t => U t + 1 * V t) L2
          else if o.1 = 10 then tst (aF a) (fun t => U t + (-1) * V t) L2
          else tst (aF a) (mulV (aF a) U V) L2
def evs (a : AS) : List OP → Option (List VL) → Option (List VL)
  | [], E => E
  | o :: r, E => evs a r (match E with | some L => evO a o L | none => none)
theorem evs_app (a : AS) : ∀ (x y : List OP) (E : Option (List VL)), evs a (x ++ y) E = evs a y (evs a x E)
  | [], _, _ => rfl
  | o :: r, y, E => evs_app a r y _
theorem evs_1 (a : AS) (o : OP) (L : List VL) : evs a [o] (some L) = evO a o L := rfl
theorem evs_none (a : AS) : ∀ x : List OP, evs a x none = none
  | [] => rfl
  | o :: r => evs_none a r
/-- what tell answers: the new state, and its number -/
def xTell (a : AS) (p n : Int) : AS × Nat × Int := if okP p ∧ 0 ≤ n ∧ n ≤ (aTn a : Int) then (match pAll (aTt a, n.toNat) (aF a) with
    | .inl (k, b) => (aSetF (aSetT a 0 (aTt a)) (b : Int), 0, -10 - (k : Int))
    | .inr (_, ops) => match evs a ops (some []) with
      | some (V :: _) => (aSetP (aSetF (aSetT a 0 (aTt a)) (-1)) p.toNat (fun t => (V t).toInt), 0, (nzc V (fD (aF a)) : Int))
      | _ => (aSetF (aSetT a 0 (aTt a)) (-1), 0, -2)) else (a, 1, 0)
