/-! the least polynomial, norms, texts -/
def lsStep (f v : Nat) (L : List Nat) : List Nat := (List.range (L.length + 1)).map (fun i => fsum f (match i with | 0 => 0 | j + 1 => L.getD j 0) (match Nat.blt i L.length with | true => fprd f (fneg f v) (L.getD i 0) | false => 0))
def lsR (f x : Nat) : Nat → Nat → List Nat → Option (List Nat)
  | 0, _, _ => none
  | n + 1, v, L => match Nat.beq (pw f v (fP f)) x with
    | true => some (lsStep f v L)
    | false => lsR f x n (pw f v (fP f)) (lsStep f v L)
def lsX (f x : Nat) : List Nat := match lsR f x 4 x [1] with
  | some L => L
  | none => []
theorem lsR_c : fevery (fun f => fall f (fun x => (lsR f x 4 x [1]).isSome)) = true := by decide +kernel
theorem lsR_at {f x : Nat} (hf : f < 15) (hx : x < fQ f) : lsR f x 4 x [1] = some (lsX f x) := by
  have h := fall_at (fevery_at lsR_c hf) hx
  unfold lsX
  cases hz : lsR f x 4 x [1] with
  | none => rw [hz] at h; cases h
  | some L => rfl
def nrm (f : Nat) : Nat → Nat → Nat → Nat
  | 0, _, all => all
  | n + 1, v, all => nrm f n (pw f v (fP f)) (fprd f all v)
def nrmX (f x : Nat) : Nat := nrm f (fK f) x 1
def xLeast (f : Nat) (x i : Int) : Nat × Int := if okE f x then (if i = -1 then (0, (nrmX f x.toNat : Int)) else if i = -2 then (0, ((lsX f x.toNat).length : Int) - 1) else if 0 ≤ i ∧ i < ((lsX f x.toNat).length : Int) then (0, ((lsX f x.toNat).getD i.toNat 0 : Nat)) else (1, 0)) else (1, 0)
/-- figures from the highest on -/
def dg : Nat → Nat → List Int
  | 0, v => [((48 + v % 10 : Nat) : Int)]
  | k + 1, v => match Nat.ble v 9 with
    | true => [((48 + v % 10 : Nat) : Int)]
    | false => dg k (v / 10) ++ [((48 + v % 10 : Nat) : Int)]
theorem dg_len : ∀ (k v j : Nat), v < 10 ^ (j + 1) → (dg k v).length ≤ j + 1
  | 0, v, j, _ => by simp [dg]
  | k + 1, v, j, h => by
    unfold dg
    cases hb : Nat.ble v 9 with
    | true => simp
    | false =>
      have hv : ¬ v ≤ 9 := fun z => by rw [Nat.ble_eq_true_of_le z] at hb; cases hb
      cases j with
      | zero => omega
      | succ j =>
        have ih := dg_len k (v / 10) j (by rw [Nat.pow_succ] at h; omega)
        simp only [List.length_append, List.length_cons, List.length_nil]
        omega
def chs (l : List Int) : Prop := ∀ c ∈ l, 0 ≤ c ∧ c ≤ 127
theorem chs_app {a b : List Int} (ha : chs a) (hb : chs b) : chs (a ++ b) := fun c hc => by
  rcases List.mem_append.mp hc with h | h
  · exact ha c h
  · exact hb c h
theorem chs_1 {c : Int} (h : 0 ≤ c ∧ c ≤ 127) : chs [c] := fun d hd => by
  simp at hd
  subst hd
  exact h
theorem chs_0 : chs [] := fun d hd => by cases hd
theorem dg_chs : ∀ (k v : Nat), chs (dg k v)
  | 0, v => chs_1 (by omega)
  | k + 1, v => by
    unfold dg
    cases Nat.ble v 9 with
    | true => exact chs_1 (by omega)
    | false => exact chs_app (dg_chs k _) (chs_1 (by omega))
def sgn (l : List Int) (c : Int) : List Int := if c < 0 then [45] else if 0 < l.length then [43] else []
def num (c : Int) (i : Nat) : List Int := if c.natAbs ≠ 1 ∨ i = 0 then dg 6 c.natAbs else []
def zet (i : Nat) : List Int := if 0 < i then [122] else []
def exq (i : Nat) : List Int := if 1 < i then dg 6 i else []
def wrP (l : List Int) (c : Int) (i : Nat) : List Int := ((l ++ sgn l c) ++ num c i) ++ zet i ++ exq i
theorem wrP_len {l : List Int} {c : Int} {i : Nat} (hc : c.natAbs ≤ 1000000) (hi : i < 1000) : (wrP l c i).length ≤ l.length + 12 := by
  have h1 := dg_len 6 c.natAbs 6 (by have : (10 : Nat) ^ 7 = 10000000 := by decide
                                     omega)
  have h2 := dg_len 6 i 2 (by have : (10 : Nat) ^ 3 = 1000 := by decide
                              omega)
  unfold wrP sgn num zet exq
  simp only [List.length_append]
  repeat' split
  all_goals (simp only [List.length_cons, List.length_nil] at *; omega)
theorem wrP_chs {l : List Int} {c : Int} {i : Nat} (h : chs l) : chs (wrP l c i) := by
  unfold wrP sgn num zet exq
  refine chs_app (chs_app (chs_app (chs_app h ?_) ?_) ?_) ?_
  · split
    · exact chs_1 (by omega)
    · split
      · exact chs_1 (by omega)
      · exact chs_0
  · split
    · exact dg_chs _ _
    · exact chs_0
  · split
    · exact chs_1 (by omega)
    · exact chs_0
  · split
    · exact dg_chs _ _
    · exact chs_0
def sayL (V : Nat → Int) : Nat → List Int → List Int
  | 0, l => l
  | n + 1, l => sayL V n (if V n = 0 then l else wrP l (V n) n)
theorem sayL_len {V : Nat → Int} : ∀ (n : Nat) (l : List Int), (∀ t, t < n → (V t).natAbs ≤ 1000000) → n ≤ 999 → (sayL V n l).length ≤ l.length + 12 * n
  | 0, l, _, _ => by simp [sayL]
  | n + 1, l, h, hn => by
    have ih := sayL_len n (if V n = 0 then l else wrP l (V n) n) (fun t ht => h t (by omega)) (by omega)
    unfold sayL
    by_cases q : V n = 0
    · rw [if_pos q] at ih ⊢; omega
    · rw [if_neg q] at ih ⊢
      have := wrP_len (l := l) (h n (by omega)) (show n < 1000 by omega)
      omega
theorem sayL_chs {V : Nat → Int} : ∀ (n : Nat) (l : List Int), chs l → chs (sayL V n l)
  | 0, _, h => h
  | n + 1, l, h => by
    unfold sayL
    refine sayL_chs n _ ?_
    split
    · exact h
    · exact wrP_chs h
def sayX (V : Nat → Int) (d : Nat) : List Int := match sayL V d [] with
  | [] => [48]
  | c :: r => c :: r
theorem sayX_len {V : Nat → Int} {d : Nat} (h : ∀ t, t < d → (V t).natAbs ≤ 1000000) (h1 : 1 ≤ d) (hd : d ≤ 220) : (sayX V d).length ≤ 2640 := by
  have := sayL_len d [] h (by omega)
  unfold sayX
  cases hz : sayL V d [] with
  | nil => simp
  | cons c r => rw [hz] at this; simp only [List.length_nil] at this; show (c :: r).length ≤ 2640; omega
theorem sayX_chs {V : Nat → Int} {d : Nat} : chs (sayX V d) := by
  have := sayL_chs (V := V) d [] chs_0
  unfold sayX
  cases hz : sayL V d [] with
  | nil => exact chs_1 (by omega)
  | cons c r => rw [hz] at this; exact this
def xSay (a : AS) (p : Int) : AS × Nat × Int := if okP p then (aSetS a (sayX (aP a p.toNat) (fD (aF a))).length (fun i => (sayX (aP a p.toNat) (fD (aF a))).getD i 0), 0, ((sayX (aP a p.toNat) (fD (aF a))).length : Int)) else (a, 1, 0)
