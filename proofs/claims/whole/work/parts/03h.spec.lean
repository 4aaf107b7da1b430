/-! what the answers are: both sides are held against this -/
abbrev AS : Type := Nat × (Nat → Nat → Int) × (Nat → Int) × (Nat × (Nat → Int)) × Int × (Nat × (Nat → Int))
abbrev aF (a : AS) : Nat := a.1
abbrev aP (a : AS) : Nat → Nat → Int := a.2.1
abbrev aW (a : AS) : Nat → Int := a.2.2.1
abbrev aTn (a : AS) : Nat := a.2.2.2.1.1
abbrev aTt (a : AS) : Nat → Int := a.2.2.2.1.2
abbrev aFp (a : AS) : Int := a.2.2.2.2.1
abbrev aSn (a : AS) : Nat := a.2.2.2.2.2.1
abbrev aSb (a : AS) : Nat → Int := a.2.2.2.2.2.2
def AO (a : AS) : Prop := aF a < 15 ∧ (∀ i t, i < 8 → t < fD (aF a) → -1000000 ≤ aP a i t ∧ aP a i t ≤ 1000000) ∧ (∀ x, x < 27 → -99 ≤ aW a x ∧ aW a x ≤ 99) ∧ aTn a ≤ 200 ∧ (∀ i, i < aTn a → 0 ≤ aTt a i ∧ aTt a i ≤ 255) ∧ (-1 ≤ aFp a ∧ aFp a ≤ 200) ∧ aSn a ≤ 2640 ∧ ∀ i, i < aSn a → 0 ≤ aSb a i ∧ aSb a i ≤ 127
def aSetP (a : AS) (i : Nat) (V : Nat → Int) : AS := (a.1, (fun j => if j = i then V else aP a j), a.2.2)
def aSetW (a : AS) (W : Nat → Int) : AS := (a.1, a.2.1, W, a.2.2.2)
def aSetT (a : AS) (n : Nat) (t : Nat → Int) : AS := (a.1, a.2.1, a.2.2.1, (n, t), a.2.2.2.2)
def aSetF (a : AS) (p : Int) : AS := (a.1, a.2.1, a.2.2.1, a.2.2.2.1, p, a.2.2.2.2.2)
def aSetS (a : AS) (n : Nat) (t : Nat → Int) : AS := (a.1, a.2.1, a.2.2.1, a.2.2.2.1, a.2.2.2.2.1, (n, t))
abbrev okE (f : Nat) (x : Int) : Prop := 0 ≤ x ∧ x < (fQ f : Int)
abbrev okC (f : Nat) (x : Int) : Prop := 0 ≤ x ∧ x < (fQ f : Int) - 1
abbrev okP (i : Int) : Prop := 0 ≤ i ∧ i < 8
abbrev okK (f : Nat) (e i : Int) : Prop := 1 ≤ e ∧ ((fQ f : Int) - 1) % e = 0 ∧ 0 ≤ i ∧ i < e
abbrev okM (f : Nat) (a : Int) : Prop := 0 ≤ a ∧ a < (fN f : Int) ∧ Nat.gcd a.toNat (fN f) = 1
abbrev vL (V : Nat → Int) : Nat → Int64 := fun t => Int64.ofInt (V t)
def chI (f j x : Nat) : Int := match chE f j x with
  | some e => (e : Int)
  | none => -1
theorem chI_some {f j x e : Nat} (h : chE f j x = some e) : chI f j x = (e : Int) := by unfold chI; rw [h]
theorem chI_none {f j x : Nat} (h : chE f j x = none) : chI f j x = -1 := by unfold chI; rw [h]
theorem chI_rng {f j x : Nat} (hf : f < 15) : -1 ≤ chI f j x ∧ chI f j x < 506 := by
  have hb := fbase hf
  cases h : chE f j x with
  | none => rw [chI_none h]; omega
  | some e => rw [chI_some h]; have := ch_lt hf h; omega
/-- which field it is -/
def fOf (p k : Int) : Option Nat := (List.range 15).find? (fun f => decide (p = (fP f : Int) ∧ k = (fK f : Int)))
def xField (a : AS) (p k : Int) : AS × Int := match fOf p k with
  | some f => ((f, (fun _ _ => 0), (fun _ => 0), a.2.2.2), (fQ f : Int))
  | none => (a, -1)
def xCount (a : AS) (w : Int) : Nat × Int := if w = 0 then (0, fP (aF a)) else if w = 1 then (0, fK (aF a)) else if w = 2 then (0, fQ (aF a)) else if w = 3 then (0, fN (aF a)) else if w = 4 then (0, fD (aF a)) else if w = 5 then (0, fG (aF a)) else if w = 6 then (0, fM (aF a)) else if w = 7 then (0, aTn a) else (1, 0)
def xElement (f : Nat) (how x y : Int) : Nat × Int := if (0 ≤ how ∧ how ≤ 3) ∧ okE f x ∧ okE f y ∧ ¬ (how = 3 ∧ y = 0) then (0, if how = 0 then fsum f x.toNat y.toNat else if how = 1 then rdif f x.toNat y.toNat else if how = 2 then fprd f x.toNat y.toNat else rquo f x.toNat y.toNat) else (1, 0)
def xLog (f : Nat) (x : Int) : Nat × Int := if okE f x ∧ 0 < x then (0, flog f x.toNat) else (1, 0)
def xTrace (f : Nat) (x : Int) : Nat × Int := if okE f x then (0, ftr f x.toNat) else (1, 0)
def xCharacter (f : Nat) (j x : Int) : Nat × Int := if okC f j ∧ okE f x then (0, chI f j.toNat x.toNat) else (1, 0)
/-- the least by which a character is 1 everywhere -/
def ordB (f j n : Nat) : Bool := (List.range (fQ f)).all (fun x => Nat.beq x 0 || Nat.beq (fP f * flog f x * j % fN f * n % fN f) 0)
def ordX (f j : Nat) : Nat := min (fst0 (ordB f j) (fQ f - 1) 1) (fQ f - 1)
def xOrder (f : Nat) (j : Int) : Nat × Int := if okC f j then (0, ordX f j.toNat) else (1, 0)
def xCoefficient (a : AS) (p i : Int) : Nat × Int := if okP p ∧ 0 ≤ i ∧ i < (fD (aF a) : Int) then (0, aP a p.toNat i.toNat) else (1, 0)
def cntB (b : Nat → Bool) : Nat → Nat
  | 0 => 0
  | n + 1 => cntB b n + (match b n with | true => 1 | false => 0)
theorem cntB_le (b : Nat → Bool) : ∀ n, cntB b n ≤ n
  | 0 => Nat.le_refl _
  | n + 1 => by have := cntB_le b n; unfold cntB; split <;> omega
theorem cntB_mono {b : Nat → Bool} {m : Nat} : ∀ n, m ≤ n → cntB b m ≤ cntB b n
  | 0, h => by
    have : m = 0 := by omega
    rw [this]
    exact Nat.le_refl _
  | n + 1, h => by
    by_cases q : m = n + 1
    · rw [q]; exact Nat.le_refl _
    · have := cntB_mono (b := b) n (show m ≤ n by omega)
      show cntB b m ≤ cntB b n + _
      omega
theorem cntB_pos {b : Nat → Bool} {m n : Nat} (hm : m < n) (hb : b m = true) : 1 ≤ cntB b n := by
  have := cntB_mono (b := b) (m := m + 1) n hm
  have h2 : cntB b (m + 1) = cntB b m + 1 := by
    show cntB b m + (match b m with | true => 1 | false => 0) = _
    rw [hb]
  omega
abbrev sameV (f : Nat) (V V' : Nat → Int64) : Prop := ∀ t, t < fD f → V t = V' t
def stB (f : Nat) (V : Nat → Int64) (m : Nat) : Bool := decide (Nat.gcd m (fN f) = 1 ∧ sameV f (mvV f V m) V)
def amV (f : Nat) (V : Nat → Int64) (t : Nat) : Int64 := sumL (fun m => if Nat.gcd m (fN f) = 1 then mvV f V m t else 0) (fN f)
def lmX (f : Nat) (V : Nat → Int64) : Int := if fst0 (stB f V) (fN f - 2) 2 < fN f then (fst0 (stB f V) (fN f - 2) 2 : Int) else -1
def xOf (a : AS) (p w : Int) : Nat × Int64 := if okP p ∧ 0 ≤ w ∧ w ≤ 5 then (0,
    if w = 0 then Int64.ofInt (nzc (vL (aP a p.toNat)) (fD (aF a)) : Nat) else
    if w = 1 then (if ∀ t, t < fD (aF a) → 1 ≤ t → aP a p.toNat t = 0 then 1 else 0) else
    if w = 2 then (if sameV (aF a) (mvV (aF a) (vL (aP a p.toNat)) (fN (aF a) - 1)) (vL (aP a p.toNat)) then 1 else 0) else
    if w = 3 then Int64.ofInt (fD (aF a) / cntB (stB (aF a) (vL (aP a p.toNat))) (fN (aF a)) : Nat) else
    if w = 4 then amV (aF a) (vL (aP a p.toNat)) 0 else Int64.ofInt (lmX (aF a) (vL (aP a p.toNat)))) else (1, 0)
def xSame (a : AS) (i j : Int) : Nat × Int := if okP i ∧ okP j then (0, if sameV (aF a) (vL (aP a i.toNat)) (vL (aP a j.toNat)) then 1 else 0) else (1, 0)
abbrev canM (f : Nat) (how a b c : Int) : Prop := (how = 0 ∧ okC f a ∧ okE f b) ∨ (how = 1 ∧ okC f a ∧ okC f b ∧ okE f c) ∨ (how = 2 ∧ okE f a ∧ okE f b) ∨ (how = 3 ∧ okK f a b) ∨ (how = 4 ∧ okP a ∧ okM f b) ∨ (how = 5 ∧ okE f a) ∨ (how = 6 ∧ okC f a) ∨ (how = 7 ∧ 0 ≤ a ∧ a < (fN f : Int))
def makV (a : AS) (how x y z : Int) : Nat → Int64 := if how = 0 then gauV (aF a) x.toNat y.toNat else if how = 1 then jacV (aF a) x.toNat y.toNat z.toNat else if how = 2 then kloV (aF a) x.toNat y.toNat else if how = 3 then perV (aF a) x.toNat y.toNat else if how = 4 then mvV (aF a) (vL (aP a x.toNat)) y.toNat else if how = 5 then speV (aF a) (aW a) x.toNat else if how = 6 then melV (aF a) (aW a) x.toNat else movV (aF a) x.toNat
def xMake (a : AS) (p how x y z : Int) : AS × Int := if okP p ∧ canM (aF a) how x y z then (if small (aF a) (makV a how x y z) then (aSetP a p.toNat (fun t => (makV a how x y z t).toInt), (nzc (makV a how x y z) (fD (aF a)) : Int)) else (a, -2)) else (a, -1)
def xDivide (a : AS) (p i v : Int) : AS × Int := if okP p ∧ okP i ∧ v ≠ 0 ∧ ∀ t, t < fD (aF a) → (aP a i.toNat t).tmod v = 0 then (aSetP a p.toNat (fun t => (aP a i.toNat t).tdiv v), (nzc (vL (fun t => (aP a i.toNat t).tdiv v)) (fD (aF a)) : Int)) else (a, -1)
def sumN (g : Nat → Nat) : Nat → Nat
  | 0 => 0
  | n + 1 => sumN g n + g n
def ind (b : Bool) : Nat := match b with
  | true => 1
  | false => 0
abbrev ok30 (d : Int) : Prop := 1 ≤ d ∧ d ≤ 30
def solN (f a d b e c : Nat) : Nat := sumN (fun x => sumN (fun y => ind (Nat.beq (fsum f (fprd f a (pw f x d)) (fprd f b (pw f y e))) c)) (fQ f)) (fQ f)
def xSolutions (f : Nat) (a d b e c : Int) : Nat × Int := if okE f a ∧ okE f b ∧ okE f c then (if ok30 d ∧ ok30 e then (0, solN f a.toNat d.toNat b.toNat e.toNat c.toNat) else (2, 0)) else (1, 0)
def ptsN (f d e g c : Nat) : Nat := sumN (fun x => sumN (fun y => sumN (fun z => ind (Nat.beq (fsum f (fsum f (pw f x d) (pw f y e)) (pw f z g)) c)) (fQ f)) (fQ f)) (fQ f)
def xPoints (f : Nat) (d e g c : Int) : Nat × Int := if okE f c then (if ok30 d ∧ ok30 e ∧ ok30 g then (0, ptsN f d.toNat e.toNat g.toNat c.toNat) else (2, 0)) else (1, 0)
def wysN (f d : Nat) : Nat → Nat → Nat
  | 0 => fun v => ind (Nat.beq v 0)
  | n + 1 => fun v => sumN (fun x => sumN (fun y => match Nat.beq (fsum f x (pw f y d)) v with | true => wysN f d n x | false => 0) (fQ f)) (fQ f)
def xRows (f : Nat) (n d c : Int) : Nat × Int := if okE f c then (if (1 ≤ n ∧ n ≤ 6) ∧ ok30 d then (0, wysN f d.toNat n.toNat c.toNat) else (2, 0)) else (1, 0)
def crvN (f a b : Nat) : Nat := sumN (fun x => sumN (fun y => ind (Nat.beq (fprd f y y) (fsum f (fsum f (pw f x 3) (fprd f a x)) b))) (fQ f)) (fQ f)
def xCurve (f : Nat) (a b : Int) : Nat × Int := if okE f a ∧ okE f b then (0, crvN f a.toNat b.toNat) else (1, 0)
def xLet (a : AS) (x v : Int) : AS × Nat × Int := if okE (aF a) x then (if -99 ≤ v ∧ v ≤ 99 then (aSetW a (fun i => if i = x.toNat then v else aW a i), 0, aW a x.toNat) else (a, 2, 0)) else (a, 1, 0)
def alkN (f : Nat) (W : Nat → Int) (y : Nat) : Int := sumI (fun x => W x * W (fsum f x y)) (fQ f)
def xAlike (a : AS) (y : Int) : Nat × Int := if okE (aF a) y then (0, alkN (aF a) (aW a) y.toNat) else (1, 0)
abbrev okS (f : Nat) (x : Int) : Prop := 0 ≤ x ∧ x < (2 : Int) ^ fQ f
def bitB (s x : Nat) : Bool := Nat.beq (s / 2 ^ x % 2) 1
def xMark (a : AS) (s : Int) : AS × Nat × Int := if okS (aF a) s then (aSetW a (fun x => if x < fQ (aF a) then (ind (bitB s.toNat x) : Int) else aW a x), 0, cntB (bitB s.toNat) (fQ (aF a))) else (a, 1, 0)
def prsN (f s d : Nat) : Nat := sumN (fun x => sumN (fun y => ind ((!(Nat.beq x y)) && (bitB s x && (bitB s y && Nat.beq (fsum f x (fneg f y)) d)))) (fQ f)) (fQ f)
def xDifferences (f : Nat) (s : Int) : Nat × Int := if okS f s then (0, if ∀ d, d < fQ f → 2 ≤ d → prsN f s.toNat d = prsN f s.toNat 1 then (prsN f s.toNat 1 : Int) else -1) else (1, 0)
def cycN2 (f e i j : Nat) : Nat := cntB (fun x => (!(Nat.beq x 0)) && (Nat.beq (flog f x % e) i && ((!(Nat.beq (fsum f 1 x) 0)) && Nat.beq (flog f (fsum f 1 x) % e) j))) (fQ f)
def xCyclotomic (f : Nat) (e i j : Int) : Nat × Int := if okK f e i ∧ okK f e j then (0, cycN2 f e.toNat i.toNat j.toNat) else (1, 0)
def xSaid (a : AS) (i : Int) : Int := if 0 ≤ i ∧ i < (aSn a : Int) then aSb a i.toNat else -1
def xFeed (a : AS) (b c d e g : Int) : AS × Int := if aTn a ≤ 180 then (aSetT a (aTn a + 20) (fun i => if i < aTn a then aTt a i else mm_and (mm_shr (if i < aTn a + 4 then b else if i < aTn a + 8 then c else if i < aTn a + 12 then d else if i < aTn a + 16 then e else g) (24 - 8 * (((i - aTn a) % 4 : Nat) : Int))) 255), ((aTn a + 20 : Nat) : Int)) else (a, -1)
