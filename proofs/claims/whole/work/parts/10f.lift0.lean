/-! fields above the field: figures, steps, the component's logs of them -/
def dz (g : Nat → Nat → Nat) (p : Nat) : Nat → Nat → Nat → Nat
  | 0, _, _ => 0
  | n + 1, r, b => g (r % p) (b % p) + p * dz g p n (r / p) (b / p)
/-- the component: an element times t -/
def tT (f s low x : Nat) : Nat := dz (fun r b => fsum f r (fprd f (x / fQ f ^ (s - 1)) b)) (fQ f) s (x % fQ f ^ (s - 1) * fQ f) low
def cw (f s low : Nat) : Nat → Nat
  | 0 => 1
  | n + 1 => tT f s low (cw f s low n)
def cLo (f s : Nat) : Nat := (([[1, 3, 3, 3, 5, 3, 3, 29, 17, 9, 5, 83], [2, 4, 5, 4, 5, 4, 11], [2, 6, 22, 27, 6, 22], [2, 8, 7, 32, 7], [3, 11, 12, 60], [2, 11, 10, 11], [4, 13, 13], [2, 14, 18], [2, 24, 32], [2, 25, 25], [3, 24], [2, 24], [5, 27], [6, 31], [3, 36]] : List (List Nat)).getD f []).getD (s - 1) 0
/-- the logs that are kept are those of some field -/
def TW (c : CS) : Prop := c.1 11 = 0 ∨ ∃ f s : Nat, f < 15 ∧ 1 ≤ s ∧ fQ f ^ s ≤ 4096 ∧ c.1 11 = (fQ f : Nat) ∧ c.1 12 = (fQ f ^ s : Nat) ∧ ∀ n : Nat, n < fQ f ^ s - 1 → c.2.1 24 (cw f s (cLo f s) n : Nat) = (n : Int)
theorem TW_fr {I A L : List Nat} {c c' : CS} (h : TW c) (hF : FC I A L c c') (h11 : mm_mem 11 I = false) (h12 : mm_mem 12 I = false) (h24 : mm_mem 24 A = false) : TW c' := by
  unfold TW
  rw [hF.1 11 h11, hF.1 12 h12, hF.2.1 24 h24]
  exact h
