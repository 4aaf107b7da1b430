/-! what the kernel checks of the fifteen fields -/
def rdg (p x i : Nat) : Nat := x / p ^ i % p
theorem rdg_lt {p x i : Nat} (h : 0 < p) : rdg p x i < p := Nat.mod_lt _ h
/-- from the highest figure on -/
def radd (p x y : Nat) : Nat → Nat → Nat
  | 0, v => v
  | n + 1, v => radd p x y n (v * p + (rdg p x n + rdg p y n) % p)
theorem radd_c : fevery (fun f => fall f (fun x => fall f (fun y => Nat.beq (radd (fP f) x y (fK f) 0) (fsum f x y)))) = true := by decide +kernel
theorem radd_sum {f x y : Nat} (hf : f < 15) (hx : x < fQ f) (hy : y < fQ f) : radd (fP f) x y (fK f) 0 = fsum f x y := Nat.eq_of_beq_eq_true (fall_at (fall_at (fevery_at radd_c hf) hx) hy)
theorem step_le {p v d n : Nat} (h : v < p ^ n) (hd : d < p) : v * p + d < p ^ (n + 1) := by
  rw [Nat.pow_succ]
  have : (v + 1) * p ≤ p ^ n * p := Nat.mul_le_mul_right p h
  rw [Nat.add_mul] at this
  omega
def rmJ (p x y i : Nat) : Nat → Nat → List Nat → List Nat
  | 0, _, L => L
  | n + 1, j, L => rmJ p x y i n (j + 1) (L.set (i + j) ((L.getD (i + j) 0 + rdg p x i * rdg p y j) % p))
def rmI (p k x y : Nat) : Nat → Nat → List Nat → List Nat
  | 0, _, L => L
  | n + 1, i, L => rmI p k x y n (i + 1) (rmJ p x y i k 0 L)
def rmR (p its i k top : Nat) : Nat → Nat → List Nat → List Nat
  | 0, _, L => L
  | n + 1, j, L => rmR p its i k top n (j + 1) (L.set (i - k + j) ((L.getD (i - k + j) 0 + (p - top) * rdg p its j) % p))
def rmD (p k its : Nat) : Nat → List Nat → List Nat
  | 0, L => L
  | n + 1, L => rmD p k its n (rmR p its (k + n) k (L.getD (k + n) 0) k 0 (L.set (k + n) 0))
def rmV (p : Nat) : Nat → List Nat → Nat → Nat
  | 0, _, v => v
  | n + 1, L, v => rmV p n L (v * p + L.getD n 0)
def rmul (p k x y its : Nat) : Nat := rmV p k (rmD p k its (k - 1) (rmI p k x y k 0 (List.replicate 16 0))) 0
def rprime (p k q its : Nat) : Bool := (List.range q).all (fun x => (List.range q).all (fun y => Nat.beq x 0 || (Nat.beq y 0 || !(Nat.beq (rmul p k x y its) 0))))
theorem rprime_c : fevery (fun f => Nat.ble (fK f) 1 || (rprime (fP f) (fK f) (fQ f) (fM f) && (List.range (fM f)).all (fun m => !(rprime (fP f) (fK f) (fQ f) m)))) = true := by decide +kernel
theorem rprime_at {f : Nat} (hf : f < 15) (hk : 1 < fK f) : rprime (fP f) (fK f) (fQ f) (fM f) = true ∧ ∀ m, m < fM f → rprime (fP f) (fK f) (fQ f) m = false := by
  have h := fevery_at rprime_c hf
  rw [Bool.or_eq_true, Bool.and_eq_true] at h
  rcases h with h | h
  · exact absurd (Nat.le_of_ble_eq_true h) (by omega)
  · refine ⟨h.1, fun m hm => ?_⟩
    have := List.all_eq_true.mp h.2 m (List.mem_range.mpr hm)
    simpa using this
theorem rmul_c : fevery (fun f => Nat.ble (fK f) 1 || fall f (fun x => fall f (fun y => Nat.beq (rmul (fP f) (fK f) x y (fM f)) (fprd f x y)))) = true := by decide +kernel
theorem rmul_prd {f x y : Nat} (hf : f < 15) (hk : 1 < fK f) (hx : x < fQ f) (hy : y < fQ f) : rmul (fP f) (fK f) x y (fM f) = fprd f x y := by
  have h := fevery_at rmul_c hf
  rw [Bool.or_eq_true] at h
  rcases h with h | h
  · exact absurd (Nat.le_of_ble_eq_true h) (by omega)
  · exact Nat.eq_of_beq_eq_true (fall_at (fall_at h hx) hy)
theorem rprd1_c : fevery (fun f => !(Nat.beq (fK f) 1) || fall f (fun x => fall f (fun y => Nat.beq (x * y % fP f) (fprd f x y)))) = true := by decide +kernel
theorem rprd1 {f x y : Nat} (hf : f < 15) (hk : fK f = 1) (hx : x < fQ f) (hy : y < fQ f) : x * y % fP f = fprd f x y := by
  have h := fevery_at rprd1_c hf
  rw [hk] at h
  exact Nat.eq_of_beq_eq_true (fall_at (fall_at h hx) hy)
theorem fM_c : fevery (fun f => Nat.blt (fM f) 20) = true := by decide +kernel
theorem fM_lt {f : Nat} (hf : f < 15) : fM f < 20 := mm_blt_t (fevery_at fM_c hf)
/-- powers by steps -/
def pw (f x : Nat) : Nat → Nat
  | 0 => 1
  | n + 1 => fprd f (pw f x n) x
theorem pw_lt {f x : Nat} (hf : f < 15) (hx : x < fQ f) : ∀ n, pw f x n < fQ f
  | 0 => by have := fbase hf; show 1 < fQ f; omega
  | n + 1 => fprd_lt hf (pw_lt hf hx n) hx
/-- how many steps to 1 -/
def ordN (f x : Nat) : Nat → Nat → Nat → Nat
  | 0, _, n => n
  | m + 1, v, n => match Nat.beq v 1 with
    | true => n
    | false => ordN f x m (fprd f v x) (n + 1)
def ord1 (f x : Nat) : Nat → Nat → Bool
  | 0, v => Nat.beq v 1
  | m + 1, v => Nat.beq v 1 || ord1 f x m (fprd f v x)
theorem ord_c : fevery (fun f => fall f (fun x => Nat.beq x 0 || ord1 f x 30 x)) = true := by decide +kernel
theorem gen_c : fevery (fun f => Nat.beq (ordN f (fG f) 30 (fG f) 1) (fQ f - 1) && (Nat.blt 0 (fG f) && (Nat.blt (fG f) (fQ f) && (List.range (fG f)).all (fun x => Nat.beq x 0 || !(Nat.beq (ordN f x 30 x 1) (fQ f - 1)))))) = true := by decide +kernel
def rtr (f : Nat) : Nat → Nat → Nat → Nat
  | 0, _, v => v
  | n + 1, x, v => rtr f n (pw f x (fP f)) (fsum f v x)
theorem rtr_c : fevery (fun f => fall f (fun x => Nat.beq (rtr f (fK f) x 0) (ftr f x))) = true := by decide +kernel
theorem rtr_at {f x : Nat} (hf : f < 15) (hx : x < fQ f) : rtr f (fK f) x 0 = ftr f x := Nat.eq_of_beq_eq_true (fall_at (fevery_at rtr_c hf) hx)
/-- the first that it is -/
def fst0 (b : Nat → Bool) : Nat → Nat → Nat
  | 0, i => i
  | n + 1, i => match b i with
    | true => i
    | false => fst0 b n (i + 1)
def rquo (f x y : Nat) : Nat := fst0 (fun v => Nat.beq (fprd f v y) x) (fQ f) 0
def rdif (f x y : Nat) : Nat := fst0 (fun v => Nat.beq (fsum f v y) x) (fQ f) 0
theorem rquo_c : fevery (fun f => fall f (fun x => fall f (fun y => Nat.beq y 0 || (Nat.blt (rquo f x y) (fQ f) && (Nat.beq (fprd f (rquo f x y) y) x && Nat.beq (fprd f x (fpow f ((fQ f - 1 - flog f y) % (fQ f - 1)))) (rquo f x y)))))) = true := by decide +kernel
theorem rquo_at {f x y : Nat} (hf : f < 15) (hx : x < fQ f) (hy : y < fQ f) (h0 : 1 ≤ y) : rquo f x y < fQ f ∧ fprd f (rquo f x y) y = x ∧ fprd f x (fpow f ((fQ f - 1 - flog f y) % (fQ f - 1))) = rquo f x y := by
  have h := fall_at (fall_at (fevery_at rquo_c hf) hx) hy
  simp only [Bool.or_eq_true, Bool.and_eq_true] at h
  rcases h with h | ⟨h1, h2, h3⟩
  · exact absurd (Nat.eq_of_beq_eq_true h) (by omega)
  · exact ⟨mm_blt_t h1, Nat.eq_of_beq_eq_true h2, Nat.eq_of_beq_eq_true h3⟩
theorem rdif_c : fevery (fun f => fall f (fun x => fall f (fun y => Nat.blt (rdif f x y) (fQ f) && (Nat.beq (fsum f (rdif f x y) y) x && Nat.beq (fsum f x (fneg f y)) (rdif f x y))))) = true := by decide +kernel
theorem rdif_at {f x y : Nat} (hf : f < 15) (hx : x < fQ f) (hy : y < fQ f) : rdif f x y < fQ f ∧ fsum f (rdif f x y) y = x ∧ fsum f x (fneg f y) = rdif f x y := by
  have h := fall_at (fall_at (fevery_at rdif_c hf) hx) hy
  simp only [Bool.and_eq_true] at h
  exact ⟨mm_blt_t h.1, Nat.eq_of_beq_eq_true h.2.1, Nat.eq_of_beq_eq_true h.2.2⟩
theorem fst0_lt {b : Nat → Bool} : ∀ (n i : Nat), i ≤ fst0 b n i ∧ ∀ j, i ≤ j → j < fst0 b n i → b j = false
  | 0, i => ⟨Nat.le_refl _, fun j h1 h2 => absurd h2 (by show ¬ j < i; omega)⟩
  | n + 1, i => by
    unfold fst0
    cases hb : b i with
    | true => exact ⟨Nat.le_refl _, fun j h1 h2 => absurd h2 (by show ¬ j < i; omega)⟩
    | false =>
      obtain ⟨h1, h2⟩ := fst0_lt (b := b) n (i + 1)
      refine ⟨by show i ≤ fst0 b n (i + 1); omega, fun j q1 q2 => ?_⟩
      by_cases e : j = i
      · rw [e]; exact hb
      · exact h2 j (by omega) q2
