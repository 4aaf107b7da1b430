/-! large fields: figures, walks, what the kernel checks of them -/
theorem dz_lt {g : Nat → Nat → Nat} {p : Nat} (hp : 0 < p) (hg : ∀ r b, r < p → b < p → g r b < p) : ∀ n r b, dz g p n r b < p ^ n
  | 0, _, _ => Nat.one_pos
  | n + 1, r, b => by
    have h1 := hg (r % p) (b % p) (Nat.mod_lt _ hp) (Nat.mod_lt _ hp)
    have h2 := dz_lt hp hg n (r / p) (b / p)
    have h3 : p * (dz g p n (r / p) (b / p) + 1) ≤ p * p ^ n := Nat.mul_le_mul_left p h2
    show g (r % p) (b % p) + p * dz g p n (r / p) (b / p) < p ^ (n + 1)
    rw [Nat.pow_succ, Nat.mul_comm (p ^ n) p]
    rw [Nat.mul_add] at h3
    omega
theorem dz_0 {g : Nat → Nat → Nat} {p : Nat} (hp : 0 < p) (hg : ∀ b, b < p → g 0 b = 0) : ∀ n b, dz g p n 0 b = 0
  | 0, _ => rfl
  | n + 1, b => by
    show g (0 % p) (b % p) + p * dz g p n (0 / p) (b / p) = 0
    rw [Nat.zero_mod, Nat.zero_div, hg _ (Nat.mod_lt _ hp), dz_0 hp hg n]
    rfl
theorem dz_s (g : Nat → Nat → Nat) (p n r b : Nat) : dz g p (n + 1) r b = g (r % p) (b % p) + p * dz g p n (r / p) (b / p) := rfl
/-- the reference: an element times t; of degree 1 times a number -/
def onB (p dg its v : Nat) : Nat := match Nat.beq dg 1 with
  | true => v * its % p
  | false => dz (fun r b => (r + (p - v / p ^ (dg - 1)) * b) % p) p dg (v % p ^ (dg - 1) * p) its
/-- the reference: 1 less an element -/
def lsS (p dg v : Nat) : Nat := dz (fun r _ => (p - r) % p) p dg v 0
def lsL (p dg v : Nat) : Nat := lsS p dg v - lsS p dg v % p + (lsS p dg v % p + 1) % p
/-- the component: 1 less an element -/
def oLs (f s x : Nat) : Nat := fsum f 1 (fneg f (x % fQ f)) + fQ f * dz (fun r _ => fsum f 0 (fneg f r)) (fQ f) (s - 1) (x / fQ f) 0
def itr (st : Nat → Nat) : Nat → Nat → Nat
  | 0, v => v
  | n + 1, v => st (itr st n v)
theorem itr_s (st : Nat → Nat) : ∀ n v, itr st (n + 1) v = itr st n (st v)
  | 0, _ => rfl
  | n + 1, v => by show st (itr st (n + 1) v) = st (itr st n (st v)); rw [itr_s st n v]
theorem itr_add (st : Nat → Nat) (a : Nat) : ∀ b v, itr st (a + b) v = itr st b (itr st a v)
  | 0, _ => rfl
  | b + 1, v => by show st (itr st (a + b) v) = st (itr st b (itr st a v)); rw [itr_add st a b v]
theorem cw_itr (f s low : Nat) : ∀ n, cw f s low n = itr (tT f s low) n 1
  | 0 => rfl
  | n + 1 => by show tT f s low (cw f s low n) = tT f s low _; rw [cw_itr f s low n]
def rwk (p dg its n : Nat) : Nat := itr (onB p dg its) n 1
/-- so many steps, 0 if 0 or 1 is met -/
def rn (st : Nat → Nat) : Nat → Nat → Nat → Nat
  | 0, _, v => v
  | k + 1, n, v => match n with
    | 0 => v
    | 1 => match st v with
      | 0 => 0
      | 1 => 0
      | u + 2 => u + 2
    | n' + 2 => match rn st k ((n' + 2) / 2) v with
      | 0 => 0
      | u + 1 => rn st k ((n' + 2) - (n' + 2) / 2) (u + 1)
theorem rn_at {st : Nat → Nat} : ∀ (k n v : Nat), n ≤ 2 ^ k → 0 < v → (∀ i, 0 < i → i ≤ n → 2 ≤ itr st i v) → rn st (k + 1) n v = itr st n v
  | k, 0, v, _, _, _ => rfl
  | k, 1, v, _, _, h => by
    have h1 := h 1 (by omega) (by omega)
    show (match st v with | 0 => 0 | 1 => 0 | u + 2 => u + 2) = st v
    have h1 : 2 ≤ st v := h1
    split
    · rename_i e; rw [e] at h1; omega
    · rename_i e; rw [e] at h1; omega
    · rename_i e; exact e.symm
  | 0, n + 2, v, hn, _, _ => by
    have : (2 : Nat) ^ 0 = 1 := rfl
    omega
  | k + 1, n + 2, v, hn, hv, h => by
    rw [Nat.pow_succ] at hn
    have e1 := rn_at k ((n + 2) / 2) v (by omega) hv (fun i hi h2 => h i hi (by omega))
    have p1 := h ((n + 2) / 2) (by omega) (by omega)
    have e2 := rn_at k ((n + 2) - (n + 2) / 2) (itr st ((n + 2) / 2) v) (by omega) (by omega) (fun i hi h2 => by
      rw [← itr_add]
      exact h _ (by omega) (by omega))
    rw [← itr_add, show (n + 2) / 2 + (n + 2 - (n + 2) / 2) = n + 2 by omega] at e2
    show (match rn st (k + 1) ((n + 2) / 2) v with | 0 => 0 | u + 1 => rn st (k + 1) ((n + 2) - (n + 2) / 2) (u + 1)) = itr st (n + 2) v
    rw [e1]
    split
    · rename_i e; rw [e] at p1; omega
    · rename_i u e
      rw [e] at e2
      exact e2
/-- whether a walk comes back to 1 just after m steps -/
def gdB (st : Nat → Nat) (m : Nat) : Bool := match rn st 13 (m - 1) 1 with
  | 0 => false
  | u + 1 => Nat.beq (st (u + 1)) 1
def gdW (st : Nat → Nat) (m : Nat) : Prop := itr st m 1 = 1 ∧ ∀ i, 0 < i → i < m → 2 ≤ itr st i 1
theorem gdB_t {st : Nat → Nat} {m : Nat} (h1 : 1 ≤ m) (hm : m ≤ 4096) (h : gdW st m) : gdB st m = true := by
  have e := rn_at (st := st) 12 (m - 1) 1 (by have : (2 : Nat) ^ 12 = 4096 := by decide
                                              omega) (by omega) (fun i hi h2 => h.2 i hi (by omega))
  have p1 : 1 ≤ itr st (m - 1) 1 := by
    by_cases q : m = 1
    · subst q; exact Nat.le_refl 1
    · exact Nat.le_trans (by omega) (h.2 (m - 1) (by omega) (by omega))
  unfold gdB
  rw [e]
  split
  · rename_i z; rw [z] at p1; omega
  · rename_i u z
    have h5 : st (itr st (m - 1) 1) = itr st (m - 1 + 1) 1 := rfl
    rw [z, show m - 1 + 1 = m by omega, h.1] at h5
    show Nat.beq (st (Nat.succ u)) 1 = true
    rw [h5]
    rfl
/-- all of a stretch -/
def allB (b : Nat → Bool) : Nat → Nat → Nat → Bool
  | 0, _, _ => false
  | k + 1, lo, n => match n with
    | 0 => true
    | 1 => b lo
    | n' + 2 => match allB b k lo ((n' + 2) / 2) with
      | true => allB b k (lo + (n' + 2) / 2) ((n' + 2) - (n' + 2) / 2)
      | false => false
theorem allB_at {b : Nat → Bool} : ∀ (k lo n : Nat), allB b k lo n = true → ∀ i, lo ≤ i → i < lo + n → b i = true
  | 0, _, _, h, _, _, _ => by cases h
  | k + 1, lo, 0, _, i, h1, h2 => by omega
  | k + 1, lo, 1, h, i, h1, h2 => by
    have : i = lo := by omega
    rw [this]
    exact h
  | k + 1, lo, n + 2, h, i, h1, h2 => by
    have h : (match allB b k lo ((n + 2) / 2) with
      | true => allB b k (lo + (n + 2) / 2) ((n + 2) - (n + 2) / 2)
      | false => false) = true := h
    cases hq : allB b k lo ((n + 2) / 2) with
    | false => rw [hq] at h; cases h
    | true =>
      rw [hq] at h
      by_cases w : i < lo + (n + 2) / 2
      · exact allB_at k lo _ hq i h1 w
      · exact allB_at k _ _ h i (by omega) (by omega)
def gt (T v : Nat) : Nat := Nat.land (Nat.shiftRight T (12 * v)) 4095
def wkB (st : Nat → Nat) (P m : Nat) : Bool := Nat.beq (gt P 0) 1 && allB (fun n => Nat.beq (st (gt P n)) (gt P (n + 1))) 14 0 m
def lgB (P L m : Nat) : Bool := Nat.beq (gt P m) 1 && allB (fun n => Nat.beq (gt L (gt P n)) n && (Nat.ble (gt P n) m && Nat.blt 0 (gt P n))) 14 0 m
def ivB (P L m : Nat) : Bool := allB (fun v => Nat.blt (gt L v) m && Nat.beq (gt P (gt L v)) v) 14 1 m
/-- a walk that meets all but 0, with its powers and logs -/
def WL (st : Nat → Nat) (P L m : Nat) : Prop := (∀ n, n ≤ m → itr st n 1 = gt P n) ∧ gt P m = 1 ∧ (∀ n, n < m → gt L (gt P n) = n ∧ gt P n ≤ m ∧ 0 < gt P n) ∧ ∀ v, 1 ≤ v → v ≤ m → gt L v < m ∧ gt P (gt L v) = v
theorem WL_of {st : Nat → Nat} {P L m : Nat} (h1 : wkB st P m = true) (h2 : lgB P L m = true) (h3 : ivB P L m = true) : WL st P L m := by
  unfold wkB at h1
  unfold lgB at h2
  rw [Bool.and_eq_true] at h1 h2
  refine ⟨fun n => ?_, Nat.eq_of_beq_eq_true h2.1, fun n hn => ?_, fun v hv hv2 => ?_⟩
  · induction n with
    | zero => intro _; exact (Nat.eq_of_beq_eq_true h1.1).symm
    | succ n ih =>
      intro hn
      show st (itr st n 1) = _
      rw [ih (by omega)]
      exact Nat.eq_of_beq_eq_true (allB_at 14 0 m h1.2 n (by omega) (by omega))
  · have h := allB_at 14 0 m h2.2 n (by omega) (by omega)
    rw [Bool.and_eq_true, Bool.and_eq_true] at h
    exact ⟨Nat.eq_of_beq_eq_true h.1, Nat.le_of_ble_eq_true h.2.1, mm_blt_t h.2.2⟩
  · have h := allB_at 14 1 m h3 v hv (by omega)
    rw [Bool.and_eq_true] at h
    exact ⟨mm_blt_t h.1, Nat.eq_of_beq_eq_true h.2⟩
theorem WL_gd {st : Nat → Nat} {P L m : Nat} (h : WL st P L m) (hm : 1 ≤ m) : gdW st m := by
  refine ⟨by rw [h.1 m (Nat.le_refl m)]; exact h.2.1, fun i hi h2 => ?_⟩
  rw [h.1 i (by omega)]
  have h3 := h.2.2.1 i h2
  have h0 := h.2.2.1 0 (by omega)
  have e0 : gt P 0 = 1 := (h.1 0 (by omega)).symm
  rw [e0] at h0
  by_cases q : gt P i = 1
  · rw [q, h0.1] at h3; omega
  · omega
/-- how many roots -/
def rt (L d v : Nat) : Nat := if v = 0 then 1 else if gt L v % d = 0 then d else 0
theorem rt_le {L d v : Nat} (hd : 1 ≤ d) : rt L d v ≤ d := by
  unfold rt
  split
  · exact hd
  · split <;> omega
theorem cntB_sp (b : Nat → Bool) (n : Nat) : ∀ k, cntB b (n + k) = cntB b n + cntB (fun i => b (n + i)) k
  | 0 => rfl
  | k + 1 => by
    show cntB b (n + k) + _ = cntB b n + (cntB (fun i => b (n + i)) k + _)
    rw [cntB_sp b n k, Nat.add_assoc]
    rfl
theorem cntB_co {b b' : Nat → Bool} : ∀ n, (∀ i, i < n → b i = b' i) → cntB b n = cntB b' n
  | 0, _ => rfl
  | n + 1, h => by
    rw [cntB_s, cntB_s, cntB_co n (fun i hi => h i (by omega)), h n (by omega)]
theorem cntB_one {j : Nat} : ∀ n, cntB (fun i => Nat.beq i j) n = if j < n then 1 else 0
  | 0 => by rw [if_neg (by omega)]; rfl
  | n + 1 => by
    rw [cntB_s, cntB_one n]
    by_cases q : n = j
    · rw [q, Nat.beq_refl, if_neg (by omega), if_pos (by omega)]; rfl
    · rw [beq_f q]
      by_cases w : j < n
      · rw [if_pos w, if_pos (by omega)]; rfl
      · rw [if_neg w, if_neg (by omega)]; rfl
theorem cntB_no {b : Nat → Bool} : ∀ n, (∀ i, i < n → b i = false) → cntB b n = 0
  | 0, _ => rfl
  | n + 1, h => by rw [cntB_s, cntB_no n (fun i hi => h i (by omega)), h n (by omega)]; rfl
theorem cnt_mod {m j : Nat} (hj : j < m) : ∀ d, cntB (fun i => Nat.beq (i % m) j) (d * m) = d
  | 0 => by rw [Nat.zero_mul]; rfl
  | d + 1 => by
    rw [Nat.add_mul, Nat.one_mul, cntB_sp, cnt_mod hj d, cntB_co m (b' := fun i => Nat.beq i j) (fun i hi => by
      show Nat.beq ((d * m + i) % m) j = Nat.beq i j
      rw [Nat.add_comm, Nat.add_mul_mod_self_right, Nat.mod_eq_of_lt hi]), cntB_one, if_pos hj]
theorem beq_iff {a b c d : Nat} (h : a = b ↔ c = d) : Nat.beq a b = Nat.beq c d := by
  by_cases q : a = b
  · have w := h.mp q
    rw [q, w, Nat.beq_refl, Nat.beq_refl]
  · have w : ¬ c = d := fun z => q (h.mpr z)
    rw [beq_f q, beq_f w]
theorem rt_cnt {st : Nat → Nat} {P L m d v : Nat} (h : WL st P L m) (hm : 1 ≤ m) (hd : 1 ≤ d) (hdm : m % d = 0) (hv : v ≤ m) : ind (Nat.beq v 0) + cntB (fun i => Nat.beq (itr st (i * d % m) 1) v) m = rt L d v := by
  have hlt : ∀ i, i * d % m < m := fun i => Nat.mod_lt _ (by omega)
  unfold rt
  by_cases q : v = 0
  · subst q
    rw [if_pos rfl, cntB_no m (fun i hi => beq_f (fun z => by
      have := (h.2.2.1 _ (hlt i)).2.2
      rw [h.1 _ (Nat.le_of_lt (hlt i))] at z
      omega))]
    rfl
  · rw [if_neg q, beq_f q]
    obtain ⟨k, hk⟩ : ∃ k, k = gt L v := ⟨_, rfl⟩
    have h4 := h.2.2.2 v (by omega) hv
    rw [← hk] at h4 ⊢
    have e1 : ∀ i, (itr st (i * d % m) 1 = v ↔ i * d % m = k) := fun i => by
      rw [h.1 _ (Nat.le_of_lt (hlt i))]
      constructor
      · intro z
        rw [hk, ← z, (h.2.2.1 _ (hlt i)).1]
      · intro z
        rw [z, h4.2]
    rw [cntB_co m (b' := fun i => Nat.beq (i * d % m) k) (fun i _ => beq_iff (e1 i))]
    obtain ⟨m', rfl⟩ : ∃ m', m = d * m' := ⟨m / d, by have := Nat.div_add_mod m d; omega⟩
    have hm' : 0 < m' := Nat.pos_of_ne_zero (fun z => by rw [z] at hm; omega)
    by_cases w : k % d = 0
    · rw [if_pos w]
      obtain ⟨j, rfl⟩ : ∃ j, k = d * j := ⟨k / d, by have := Nat.div_add_mod k d; omega⟩
      have hj : j < m' := Nat.lt_of_mul_lt_mul_left h4.1
      rw [cntB_co (d * m') (b' := fun i => Nat.beq (i % m') j) (fun i _ => beq_iff (by
        rw [Nat.mul_comm i d, Nat.mul_mod_mul_left]
        constructor
        · intro z; exact Nat.eq_of_mul_eq_mul_left hd z
        · intro z; rw [z])), cnt_mod hj]
      show 0 + d = d
      omega
    · rw [if_neg w, cntB_no _ (fun i _ => beq_f (fun z => w (by rw [← z, Nat.mul_comm i d, Nat.mul_mod_mul_left, Nat.mul_mod_right])))]
      rfl
theorem cntB_sum (b : Nat → Bool) : ∀ n, cntB b n = sumN (fun i => ind (b i)) n
  | 0 => rfl
  | n + 1 => by rw [cntB_s, cntB_sum b n]; rfl
theorem ind_one {t : Nat} (n : Nat) : sumN (fun v => ind (Nat.beq t v)) n = if t < n then 1 else 0 := by
  rw [← sumN_one (c := 1) (t := t) n]
  refine sumN_congr n (fun i _ => ?_)
  unfold ind
  rfl
theorem beq_cm (a b : Nat) : Nat.beq a b = Nat.beq b a := beq_iff ⟨fun h => h.symm, fun h => h.symm⟩
theorem rt_sum {st : Nat → Nat} {P L m d : Nat} (h : WL st P L m) (hm : 1 ≤ m) (hd : 1 ≤ d) (hdm : m % d = 0) : sumN (rt L d) (m + 1) = m + 1 := by
  have hlt : ∀ i, i * d % m < m := fun i => Nat.mod_lt _ (by omega)
  rw [sumN_congr (b := fun v => ind (Nat.beq 0 v) + sumN (fun i => ind (Nat.beq (itr st (i * d % m) 1) v)) m) (m + 1) (fun v hv => by
    rw [← rt_cnt h hm hd hdm (by omega), cntB_sum, beq_cm]), sumN_add, ind_one, if_pos (by omega), sumN_swap, sumN_congr (b := fun _ => 1) m (fun i _ => by
    rw [ind_one, if_pos (by
      rw [h.1 _ (Nat.le_of_lt (hlt i))]
      have := (h.2.2.1 _ (hlt i)).2.1
      omega)]), sumN_c]
  omega
theorem sumN_perm {n : Nat} {φ ψ : Nat → Nat} (h1 : ∀ v, v < n → φ v < n ∧ ψ (φ v) = v) (h2 : ∀ x, x < n → ψ x < n ∧ φ (ψ x) = x) (g : Nat → Nat) : sumN (fun v => g (φ v)) n = sumN g n := by
  rw [sumN_congr (b := fun v => sumN (fun x => match Nat.beq (φ v) x with | true => g (φ v) | false => 0) n) n (fun v hv => ((sumN_one (c := g (φ v)) (t := φ v) n).trans (if_pos (h1 v hv).1)).symm), sumN_swap]
  refine sumN_congr n (fun x hx => ?_)
  refine (sumN_congr (b := fun v => match Nat.beq (ψ x) v with | true => g x | false => 0) n (fun v hv => ?_)).trans ((sumN_one (c := g x) (t := ψ x) n).trans (if_pos (h2 x hx).1))
  by_cases q : φ v = x
  · have : ψ x = v := by rw [← q]; exact (h1 v hv).2
    rw [q, this, Nat.beq_refl, Nat.beq_refl]
  · have : ¬ ψ x = v := fun z => q (by rw [← z]; exact (h2 x hx).2)
    rw [beq_f q, beq_f this]
/-- how many ways, by logs -/
def liS (L m d e : Nat) (less : Nat → Nat) : Nat := sumN (fun v => rt L d v * rt L e (less v)) (m + 1)
theorem rt_1 (L v : Nat) : rt L 1 v = 1 := by
  unfold rt
  split
  · rfl
  · rw [Nat.mod_one, if_pos rfl]
theorem li_e1 {st : Nat → Nat} {P L m d : Nat} {less : Nat → Nat} (h : WL st P L m) (hm : 1 ≤ m) (hd : 1 ≤ d) (hdm : m % d = 0) : liS L m d 1 less = m + 1 := by
  unfold liS
  rw [sumN_congr (b := rt L d) (m + 1) (fun v _ => by rw [rt_1, Nat.mul_one]), rt_sum h hm hd hdm]
theorem li_d1 {st : Nat → Nat} {P L m e : Nat} {less : Nat → Nat} (h : WL st P L m) (hm : 1 ≤ m) (hd : 1 ≤ e) (hdm : m % e = 0) (hl : ∀ v, v < m + 1 → less v < m + 1 ∧ less (less v) = v) : liS L m 1 e less = m + 1 := by
  unfold liS
  rw [sumN_congr (b := fun v => rt L e (less v)) (m + 1) (fun v _ => by rw [rt_1, Nat.one_mul]), sumN_perm hl hl, rt_sum h hm hd hdm]
def phi (P L m u v : Nat) : Nat := match v with
  | 0 => 0
  | w + 1 => gt P (u * gt L (w + 1) % m)
theorem phi_p {P L m u v : Nat} (hv : 1 ≤ v) : phi P L m u v = gt P (u * gt L v % m) := by
  obtain ⟨w, rfl⟩ : ∃ w, v = w + 1 := ⟨v - 1, by omega⟩
  rfl
def isB (P L P' L' m u u' : Nat) (less less' : Nat → Nat) : Bool := Nat.beq (u * u' % m) (1 % m) && (Nat.ble 1 m && allB (fun v => Nat.beq (phi P' L m u (less v)) (less' (phi P' L m u v))) 14 0 (m + 1))
theorem phi_in {st st' : Nat → Nat} {P L P' L' m u v : Nat} (h : WL st P L m) (h' : WL st' P' L' m) (hm : 1 ≤ m) (hv : v ≤ m) : phi P' L m u v ≤ m ∧ (1 ≤ v → 1 ≤ phi P' L m u v ∧ gt L' (phi P' L m u v) = u * gt L v % m) := by
  by_cases q : v = 0
  · subst q
    exact ⟨Nat.zero_le _, fun z => by omega⟩
  · rw [phi_p (by omega)]
    have := h'.2.2.1 (u * gt L v % m) (Nat.mod_lt _ (by omega))
    exact ⟨this.2.1, fun _ => ⟨this.2.2, this.1⟩⟩
theorem mod_uu {u u' k m : Nat} (hu : u * u' % m = 1 % m) (hk : k < m) : u' * (u * k % m) % m = k := by
  rw [Nat.mul_mod, Nat.mod_mod, ← Nat.mul_mod, ← Nat.mul_assoc, Nat.mul_comm u' u, Nat.mul_mod, hu, ← Nat.mul_mod, Nat.one_mul, Nat.mod_eq_of_lt hk]
theorem phi_iv {st st' : Nat → Nat} {P L P' L' m u u' v : Nat} (h : WL st P L m) (h' : WL st' P' L' m) (hm : 1 ≤ m) (hu : u * u' % m = 1 % m) (hv : v ≤ m) : phi P L' m u' (phi P' L m u v) = v := by
  by_cases q : v = 0
  · subst q; rfl
  · have h2 := phi_in (u := u) h h' hm hv
    obtain ⟨h3, h4⟩ := h2.2 (by omega)
    have h5 := h.2.2.2 v (by omega) hv
    rw [phi_p h3, h4, mod_uu hu h5.1, h5.2]
theorem rt_phi {st st' : Nat → Nat} {P L P' L' m u u' v d : Nat} (h : WL st P L m) (h' : WL st' P' L' m) (hm : 1 ≤ m) (hu : u * u' % m = 1 % m) (hd : 1 ≤ d) (hdm : m % d = 0) (hv : v ≤ m) : rt L' d (phi P' L m u v) = rt L d v := by
  by_cases q : v = 0
  · subst q; rfl
  · obtain ⟨h3, h4⟩ := (phi_in (u := u) h h' hm hv).2 (by omega)
    have h5 := h.2.2.2 v (by omega) hv
    have e1 : ∀ x, x % m % d = x % d := fun x => Nat.mod_mod_of_dvd x (Nat.dvd_of_mod_eq_zero hdm)
    unfold rt
    rw [if_neg (by omega), if_neg q, h4, e1]
    by_cases w : gt L v % d = 0
    · rw [if_pos w, if_pos (by rw [Nat.mul_mod, w, Nat.mul_zero, Nat.zero_mod])]
    · rw [if_neg w, if_neg (fun z => w (by
        have h6 := mod_uu (k := gt L v) hu h5.1
        rw [← h6, e1, Nat.mul_mod, e1, z, Nat.mul_zero, Nat.zero_mod]))]
theorem li_is {st st' : Nat → Nat} {P L P' L' m u u' d e : Nat} {less less' : Nat → Nat} (h : WL st P L m) (h' : WL st' P' L' m) (hB : isB P L P' L' m u u' less less' = true) (hd : 1 ≤ d) (hdm : m % d = 0) (he : 1 ≤ e) (hem : m % e = 0) (hl : ∀ v, v < m + 1 → less v < m + 1) : liS L m d e less = liS L' m d e less' := by
  unfold isB at hB
  rw [Bool.and_eq_true, Bool.and_eq_true] at hB
  have hu := Nat.eq_of_beq_eq_true hB.1
  have hu' : u' * u % m = 1 % m := by rw [Nat.mul_comm]; exact hu
  have hm := Nat.le_of_ble_eq_true hB.2.1
  unfold liS
  rw [← sumN_perm (n := m + 1) (φ := phi P' L m u) (ψ := phi P L' m u') (fun v hv => ⟨by have := (phi_in (u := u) h h' hm (show v ≤ m by omega)).1; omega, phi_iv h h' hm hu (by omega)⟩) (fun v hv => ⟨by have := (phi_in (u := u') h' h hm (show v ≤ m by omega)).1; omega, phi_iv h' h hm hu' (by omega)⟩) (fun x => rt L' d x * rt L' e (less' x))]
  refine sumN_congr (m + 1) (fun v hv => ?_)
  have h3 := Nat.eq_of_beq_eq_true (allB_at 14 0 (m + 1) hB.2.2 v (by omega) (by omega))
  have h4 := hl v hv
  show rt L d v * rt L e (less v) = rt L' d (phi P' L m u v) * rt L' e (less' (phi P' L m u v))
  rw [← h3, rt_phi h h' hm hu hd hdm (by omega), rt_phi h h' hm hu he hem (by omega)]
def lsB (p dg m : Nat) : Bool := allB (fun v => Nat.ble (lsL p dg v) m && Nat.beq (lsL p dg (lsL p dg v)) v) 14 0 (m + 1)
theorem lsB_at {p dg m : Nat} (h : lsB p dg m = true) : ∀ v, v < m + 1 → lsL p dg v < m + 1 ∧ lsL p dg (lsL p dg v) = v := fun v hv => by
  have h2 := allB_at 14 0 (m + 1) h v (by omega) (by omega)
  rw [Bool.and_eq_true] at h2
  have := Nat.le_of_ble_eq_true h2.1
  exact ⟨by omega, Nat.eq_of_beq_eq_true h2.2⟩
def faB (p dg m lo n : Nat) : Bool := allB (fun i => match i % p with | 0 => true | _ + 1 => !(gdB (onB p dg i) m)) 14 lo n
theorem onB_p {p dg i v : Nat} (hd : 1 ≤ dg) (hi : i % p = 0) : onB p dg i v % p = 0 := by
  unfold onB
  split
  · rw [Nat.mod_mod, Nat.mul_mod, hi, Nat.mul_zero, Nat.zero_mod]
  · obtain ⟨n, rfl⟩ : ∃ n, dg = n + 1 := ⟨dg - 1, by omega⟩
    rw [dz_s, Nat.add_mul_mod_self_left, hi, Nat.mul_zero, Nat.add_zero, Nat.mod_mod, Nat.mod_mod, Nat.mul_mod_left]
theorem faB_at {p dg m lo n : Nat} (hp : 2 ≤ p ∧ 1 ≤ dg) (hm : 1 ≤ m ∧ m ≤ 4096) (h : faB p dg m lo n = true) (i : Nat) (h1 : lo ≤ i) (h2 : i < lo + n) : ¬ gdW (onB p dg i) m := by
  intro hg
  have h3 := allB_at 14 lo n h i h1 h2
  split at h3
  · rename_i e
    obtain ⟨k, rfl⟩ : ∃ k, m = k + 1 := ⟨m - 1, by omega⟩
    have h4 : onB p dg i (itr (onB p dg i) k 1) = 1 := hg.1
    have h5 := onB_p (v := itr (onB p dg i) k 1) hp.2 e
    rw [h4, Nat.mod_eq_of_lt (by omega)] at h5
    omega
  · rw [gdB_t hm.1 hm.2 hg] at h3
    cases h3
/-- what holds of the reference's large field -/
def LRp (p dg it P L m : Nat) : Prop := WL (onB p dg it) P L m ∧ (∀ i, 1 ≤ i → i < it → ¬ gdW (onB p dg i) m) ∧ ∀ v, v < m + 1 → lsL p dg v < m + 1 ∧ lsL p dg (lsL p dg v) = v
def gcW (st : Nat → Nat) (m : Nat) : Prop := itr st m 1 = 1 ∧ ∀ i, 0 < i → i < m → itr st i 1 ≠ 1
theorem s00_c : fevery (fun f => fall f (fun x => Nat.beq (fprd f 0 x) 0) && Nat.beq (fsum f 0 0) 0) = true := by decide +kernel
theorem tT_0 {f s low : Nat} (hf : f < 15) : tT f s low 0 = 0 := by
  have hb := fbase hf
  have h := fevery_at s00_c hf
  rw [Bool.and_eq_true] at h
  unfold tT
  rw [Nat.zero_mod, Nat.zero_mul, Nat.zero_div]
  refine dz_0 (by omega) (fun b hb2 => ?_) s low
  rw [Nat.eq_of_beq_eq_true (fall_at h.1 hb2), Nat.eq_of_beq_eq_true h.2]
theorem itr_0 {st : Nat → Nat} (h : st 0 = 0) : ∀ n, itr st n 0 = 0
  | 0 => rfl
  | n + 1 => by show st (itr st n 0) = 0; rw [itr_0 h n, h]
theorem gc_gd {st : Nat → Nat} {m : Nat} (h0 : st 0 = 0) (h : gcW st m) : gdW st m := by
  refine ⟨h.1, fun i hi h2 => ?_⟩
  have h3 := h.2 i hi h2
  by_cases q : itr st i 1 = 0
  · have h4 := itr_add st i (m - i) 1
    rw [q, itr_0 h0, show i + (m - i) = m by omega, h.1] at h4
    omega
  · omega
def fcB (f s m lo n : Nat) : Bool := allB (fun i => match i % fQ f with | 0 => true | _ + 1 => !(gdB (tT f s i) m)) 14 lo n
theorem fcB_at {f s m lo n : Nat} (hf : f < 15) (hm : 1 ≤ m ∧ m ≤ 4096) (h : fcB f s m lo n = true) (i : Nat) (h1 : lo ≤ i) (h2 : i < lo + n) (h3 : i % fQ f ≠ 0) : ¬ gcW (tT f s i) m := by
  intro hg
  have h4 := allB_at 14 lo n h i h1 h2
  split at h4
  · rename_i e; exact h3 e
  · rw [gdB_t hm.1 hm.2 (gc_gd (tT_0 hf) hg)] at h4
    cases h4
/-- what holds of the component's -/
def LCp (f s low P L m rP rL p dg : Nat) : Prop := WL (tT f s low) P L m ∧ (∀ i, 1 ≤ i → i < low → i % fQ f ≠ 0 → ¬ gcW (tT f s i) m) ∧ ∃ u u', isB rP rL P L m u u' (lsL p dg) (oLs f s) = true
