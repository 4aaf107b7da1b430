/-! what the sums over elements are, for both sides -/
def chE (f j x : Nat) : Option Nat := if x = 0 then (if j = 0 then some 0 else none) else some (fP f * flog f x * j % fN f)
def wvE (f x : Nat) : Nat := (fQ f - 1) * ftr f x
def tv (f : Nat) (o : Option (Int64 × Nat)) (t : Nat) : Int64 := match o with
  | none => 0
  | some (b, e) => b * rho f (e % fN f) t
def gauT (f j a x : Nat) : Option (Int64 × Nat) := match chE f j x with
  | some e => some (1, e + wvE f (fprd f a x))
  | none => none
def jacT (f i j c x : Nat) : Option (Int64 × Nat) := match chE f i x with
  | some a => match chE f j (fsum f c (fneg f x)) with
    | some b => some (1, a + b)
    | none => none
  | none => none
def kloT (f a b x : Nat) : Option (Int64 × Nat) := if x = 0 then none else some (1, wvE f (fsum f (fprd f a x) (rquo f b x)))
def perT (f e i x : Nat) : Option (Int64 × Nat) := if x ≠ 0 ∧ flog f x % e = i then some (1, wvE f x) else none
def speT (f : Nat) (F : Nat → Int) (a x : Nat) : Option (Int64 × Nat) := some (Int64.ofInt (F x), wvE f (fprd f a x))
def melT (f : Nat) (F : Nat → Int) (j x : Nat) : Option (Int64 × Nat) := match chE f j x with
  | some e => some (Int64.ofInt (F x), e)
  | none => none
def movT (f a m : Nat) : Option (Int64 × Nat) := if Nat.gcd m (fN f) = 1 then some (1, m * a) else none
def gauV (f j a t : Nat) : Int64 := sumL (fun x => tv f (gauT f j a x) t) (fQ f)
def jacV (f i j c t : Nat) : Int64 := sumL (fun x => tv f (jacT f i j c x) t) (fQ f)
def kloV (f a b t : Nat) : Int64 := sumL (fun x => tv f (kloT f a b x) t) (fQ f)
def perV (f e i t : Nat) : Int64 := sumL (fun x => tv f (perT f e i x) t) (fQ f)
def speV (f : Nat) (F : Nat → Int) (a t : Nat) : Int64 := sumL (fun x => tv f (speT f F a x) t) (fQ f)
def melV (f : Nat) (F : Nat → Int) (j t : Nat) : Int64 := sumL (fun x => tv f (melT f F j x) t) (fQ f)
def movV (f a t : Nat) : Int64 := sumL (fun m => tv f (movT f a m) t) (fN f)
def mulV (f : Nat) (x y : Nat → Int64) (t : Nat) : Int64 := sumL (fun i => sumL (fun j => x i * y j * rho f ((i + j) % fN f) t) (fD f)) (fD f)
def mvV (f : Nat) (x : Nat → Int64) (a t : Nat) : Int64 := sumL (fun i => x i * rho f (i * a % fN f) t) (fD f)
theorem wv_c : fevery (fun f => fall f (fun x => Nat.blt (wvE f x) (fN f))) = true := by decide +kernel
theorem wv_lt {f x : Nat} (hf : f < 15) (hx : x < fQ f) : wvE f x < fN f := mm_blt_t (fall_at (fevery_at wv_c hf) hx)
theorem ch_lt {f j x e : Nat} (hf : f < 15) (h : chE f j x = some e) : e < fN f := by
  have hb := fbase hf
  unfold chE at h
  split at h
  · split at h
    · cases h; omega
    · cases h
  · cases h
    exact Nat.mod_lt _ (by omega)
theorem cV_congr {f n t : Nat} {c c' : Nat → Int64} (h : ∀ e, e < n → c e = c' e) : cV f c n t = cV f c' n t := sumL_congr _ (fun e he => by rw [h e he])
theorem cV_zero {f n t : Nat} {c : Nat → Int64} (h : ∀ e, e < n → c e = 0) : cV f c n t = 0 := by
  unfold cV
  rw [sumL_congr (g' := fun _ => 0) n (fun e he => by rw [h e he]; simp), sumL_0]
theorem cV_upd {f t i : Nat} {c : Int → Int64} {b : Int64} : ∀ n, cV f (fun e => mm_updL c (i : Int) (c i + b) (e : Int)) n t = cV f (fun e => c (e : Int)) n t + (if i < n then b * rho f i t else 0)
  | 0 => by simp [cV, sumL]
  | n + 1 => by
    have ih := cV_upd (f := f) (t := t) (i := i) (c := c) (b := b) n
    unfold cV at ih ⊢
    unfold sumL
    rw [ih]
    by_cases q : i = n
    · subst q
      rw [if_neg (by omega), if_pos (by omega)]
      show _ + (if (i : Int) = (i : Int) then c i + b else c i) * rho f i t = _
      rw [if_pos rfl]
      grind
    · have e1 : mm_updL c (i : Int) (c i + b) (n : Int) = c (n : Int) := by
        unfold mm_updL
        rw [if_neg (by omega)]
      show _ + mm_updL c (i : Int) (c i + b) (n : Int) * rho f n t = _
      rw [e1]
      by_cases q2 : i < n
      · rw [if_pos q2, if_pos (by omega)]
        grind
      · rw [if_neg q2, if_neg (by omega)]
        grind
theorem cV_upd' {f t i n : Nat} {c : Int → Int64} {b : Int64} (hi : i < n) : cV f (fun e => mm_updL c (i : Int) (c i + b) (e : Int)) n t = cV f (fun e => c (e : Int)) n t + b * rho f i t := by rw [cV_upd, if_pos hi]
abbrev small (f : Nat) (V : Nat → Int64) : Prop := ∀ t, t < fD f → -1000000 ≤ (V t).toInt ∧ (V t).toInt ≤ 1000000
/-- how many aren't 0 -/
def nzc (V : Nat → Int64) : Nat → Nat
  | 0 => 0
  | n + 1 => nzc V n + (if V n = 0 then 0 else 1)
theorem nzc_le (V : Nat → Int64) : ∀ n, nzc V n ≤ n
  | 0 => Nat.le_refl _
  | n + 1 => by have := nzc_le V n; unfold nzc; split <;> omega
theorem nzc_congr {V V' : Nat → Int64} : ∀ n, (∀ t, t < n → V t = V' t) → nzc V n = nzc V' n
  | 0, _ => rfl
  | n + 1, h => by unfold nzc; rw [nzc_congr n (fun t ht => h t (by omega)), h n (by omega)]
