/-! powers of the root of unity by coefficients: rz f e t, coefficient t of its e-th power -/
def phis (f : Nat) : List Int := (List.range (fD f)).map (fphi f)
def rstep (φ L : List Int) : List Int := List.zipWith (fun a c => a - L.getLastD 0 * c) (0 :: L.dropLast) φ
def rv (f : Nat) : Nat → List Int
  | 0 => 1 :: List.replicate (fD f - 1) 0
  | e + 1 => rstep (phis f) (rv f e)
def rz (f e t : Nat) : Int := (rv f e).getD t 0
theorem phis_len (f : Nat) : (phis f).length = fD f := by simp [phis]
theorem rstep_len {φ L : List Int} (h : L.length = φ.length) (h0 : 1 ≤ L.length) : (rstep φ L).length = φ.length := by
  unfold rstep
  simp
  omega
theorem rv_len {f : Nat} (hf : f < 15) : ∀ e, (rv f e).length = fD f
  | 0 => by have := fbase hf; simp [rv]; omega
  | e + 1 => by
    have := fbase hf
    have ih := rv_len hf e
    unfold rv
    rw [rstep_len (by rw [ih, phis_len]) (by omega), phis_len]
theorem phis_get {f t : Nat} (h : t < fD f) : (phis f)[t]? = some (fphi f t) := by simp [phis, h]
theorem rstep_get {φ L : List Int} {t : Nat} {c : Int} (h : L.length = φ.length) (hc : φ[t]? = some c) : (rstep φ L).getD t 0 = (if t = 0 then 0 else L.getD (t - 1) 0) - L.getD (L.length - 1) 0 * c := by
  have ht : t < φ.length := (List.getElem?_eq_some_iff.mp hc).1
  have hlast : L.getLastD 0 = L.getD (L.length - 1) 0 := by
    rw [List.getLastD_eq_getLast?, List.getLast?_eq_getElem?, List.getD_eq_getElem?_getD]
  unfold rstep
  rw [hlast, List.getD_eq_getElem?_getD, List.getElem?_zipWith, hc]
  cases t with
  | zero => simp
  | succ t =>
    have h2 : t < L.length - 1 := by omega
    have h3 : (0 :: L.dropLast)[t + 1]? = L[t]? := by
      rw [List.getElem?_cons_succ, List.getElem?_dropLast, if_pos h2]
    rw [h3]
    have h4 : t < L.length := by omega
    simp [List.getD_eq_getElem?_getD, h4]
theorem rz_0 {f t : Nat} (hf : f < 15) (ht : t < fD f) : rz f 0 t = if t = 0 then 1 else 0 := by
  unfold rz rv
  cases t with
  | zero => rfl
  | succ t =>
    rw [if_neg (by omega), List.getD_eq_getElem?_getD, List.getElem?_cons_succ, List.getElem?_replicate]
    split <;> rfl
theorem rz_s {f e t : Nat} (hf : f < 15) (ht : t < fD f) : rz f (e + 1) t = (if t = 0 then 0 else rz f e (t - 1)) - rz f e (fD f - 1) * fphi f t := by
  have hl := rv_len hf e
  have h := rstep_get (φ := phis f) (L := rv f e) (t := t) (by rw [hl, phis_len]) (phis_get ht)
  rw [hl] at h
  exact h
theorem rz_low {f : Nat} (hf : f < 15) : ∀ e, e < fD f → ∀ t, t < fD f → rz f e t = if t = e then 1 else 0
  | 0, _, t, ht => rz_0 hf ht
  | e + 1, he, t, ht => by
    rw [rz_s hf ht, rz_low hf e (by omega) (fD f - 1) (by omega), if_neg (show ¬ fD f - 1 = e by omega)]
    by_cases q : t = 0
    · rw [if_pos q, if_neg (by omega)]
      omega
    · rw [if_neg q, rz_low hf e (by omega) (t - 1) (by omega)]
      by_cases q2 : t = e + 1
      · rw [if_pos (by omega), if_pos q2]; omega
      · rw [if_neg (by omega), if_neg q2]; omega
def sumI (g : Nat → Int) : Nat → Int
  | 0 => 0
  | n + 1 => sumI g n + g n
theorem sumI_congr {g g' : Nat → Int} : ∀ (n : Nat), (∀ i, i < n → g i = g' i) → sumI g n = sumI g' n
  | 0, _ => rfl
  | n + 1, h => by
    unfold sumI
    rw [sumI_congr n (fun i hi => h i (by omega)), h n (by omega)]
theorem sumI_0 : ∀ (n : Nat), sumI (fun _ => 0) n = 0
  | 0 => rfl
  | n + 1 => by unfold sumI; rw [sumI_0 n]; rfl
theorem sumI_lin {a b : Nat → Int} {c : Int} : ∀ (n : Nat), sumI (fun i => a i - b i * c) n = sumI a n - sumI b n * c
  | 0 => by simp [sumI]
  | n + 1 => by
    unfold sumI
    rw [sumI_lin n, Int.add_mul]
    omega
theorem sumI_one {g : Nat → Int} {t : Nat} : ∀ (n : Nat), sumI (fun j => g j * (if t = j then 1 else 0)) n = if t < n then g t else 0
  | 0 => by simp [sumI]
  | n + 1 => by
    unfold sumI
    rw [sumI_one n]
    by_cases q : t = n
    · subst q; simp
    · rw [if_neg q]
      by_cases q2 : t < n
      · rw [if_pos q2, if_pos (by omega)]; simp
      · rw [if_neg q2, if_neg (by omega)]; simp
/-- the polynomial is 0 by the root, moved by any power -/
theorem rz_rec {f : Nat} (hf : f < 15) : ∀ m t, t < fD f → sumI (fun j => fphi f j * rz f (m + j) t) (fD f) + rz f (m + fD f) t = 0
  | 0, t, ht => by
    have hb := fbase hf
    have h1 : sumI (fun j => fphi f j * rz f (0 + j) t) (fD f) = sumI (fun j => fphi f j * (if t = j then 1 else 0)) (fD f) := sumI_congr _ (fun j hj => by rw [Nat.zero_add, rz_low hf j hj t ht])
    rw [h1, sumI_one, if_pos ht, Nat.zero_add]
    obtain ⟨d, hd⟩ : ∃ d, fD f = d + 1 := ⟨fD f - 1, by omega⟩
    rw [hd, rz_s hf ht, hd, show d + 1 - 1 = d by omega, rz_low hf d (by omega) d (by omega), if_pos rfl]
    by_cases q : t = 0
    · rw [if_pos q]; omega
    · rw [if_neg q, rz_low hf d (by omega) (t - 1) (by omega), if_neg (by omega)]; omega
  | m + 1, t, ht => by
    have hb := fbase hf
    have ih := rz_rec hf m
    have h1 : sumI (fun j => fphi f j * rz f (m + 1 + j) t) (fD f) = sumI (fun j => (if t = 0 then 0 else fphi f j * rz f (m + j) (t - 1)) - (fphi f j * rz f (m + j) (fD f - 1)) * fphi f t) (fD f) := sumI_congr _ (fun j hj => by
      rw [show m + 1 + j = (m + j) + 1 by omega, rz_s hf ht]
      split
      · rw [Int.mul_sub, ← Int.mul_assoc]; simp
      · rw [Int.mul_sub, ← Int.mul_assoc])
    rw [h1, sumI_lin, show m + 1 + fD f = (m + fD f) + 1 by omega, rz_s hf ht]
    have i1 := ih (fD f - 1) (by omega)
    have e1 : rz f (m + fD f) (fD f - 1) = - sumI (fun j => fphi f j * rz f (m + j) (fD f - 1)) (fD f) := by omega
    by_cases q : t = 0
    · simp only [if_pos q]
      rw [sumI_0, e1, Int.neg_mul]
      omega
    · simp only [if_neg q]
      have i2 := ih (t - 1) (by omega)
      have e2 : rz f (m + fD f) (t - 1) = - sumI (fun j => fphi f j * rz f (m + j) (t - 1)) (fD f) := by omega
      rw [e1, e2, Int.neg_mul]
      omega
theorem half_c : fevery (fun f => Nat.beq (2 * (fN f / 2)) (fN f) && (Nat.ble (fD f) (fN f / 2) && (decide (fphi f (fD f) = 1) && decide (rv f (fN f / 2) = -1 :: List.replicate (fD f - 1) 0)))) = true := by decide +kernel
theorem half_at {f : Nat} (hf : f < 15) : 2 * (fN f / 2) = fN f ∧ fD f ≤ fN f / 2 ∧ fphi f (fD f) = 1 ∧ rv f (fN f / 2) = -1 :: List.replicate (fD f - 1) 0 := by
  have h := fevery_at half_c hf
  simp only [Bool.and_eq_true, decide_eq_true_eq] at h
  exact ⟨Nat.eq_of_beq_eq_true h.1, Nat.le_of_ble_eq_true h.2.1, h.2.2.1, h.2.2.2⟩
/-- half way round it is less itself -/
theorem rz_half {f : Nat} (hf : f < 15) : ∀ e t, t < fD f → rz f (e + fN f / 2) t = - rz f e t
  | 0, t, ht => by
    rw [rz_0 hf ht, Nat.zero_add]
    unfold rz
    rw [(half_at hf).2.2.2]
    cases t with
    | zero => rfl
    | succ t =>
      rw [if_neg (by omega), List.getD_eq_getElem?_getD, List.getElem?_cons_succ, List.getElem?_replicate]
      split <;> rfl
  | e + 1, t, ht => by
    have hb := fbase hf
    rw [show e + 1 + fN f / 2 = (e + fN f / 2) + 1 by omega, rz_s hf ht, rz_s hf ht, rz_half hf e (fD f - 1) (by omega), Int.neg_mul]
    by_cases q : t = 0
    · rw [if_pos q, if_pos q]; omega
    · rw [if_neg q, if_neg q, rz_half hf e (t - 1) (by omega)]; omega
theorem rz_n {f : Nat} (hf : f < 15) (e t : Nat) (ht : t < fD f) : rz f (e + fN f) t = rz f e t := by
  have h := (half_at hf).1
  rw [show e + fN f = (e + fN f / 2) + fN f / 2 by omega, rz_half hf _ t ht, rz_half hf _ t ht]
  omega
/-- the same as longs -/
def rho (f e t : Nat) : Int64 := Int64.ofInt (rz f e t)
def ph (f j : Nat) : Int64 := Int64.ofInt (fphi f j)
def sumL (g : Nat → Int64) : Nat → Int64
  | 0 => 0
  | n + 1 => sumL g n + g n
theorem sumL_congr {g g' : Nat → Int64} : ∀ (n : Nat), (∀ i, i < n → g i = g' i) → sumL g n = sumL g' n
  | 0, _ => rfl
  | n + 1, h => by
    unfold sumL
    rw [sumL_congr n (fun i hi => h i (by omega)), h n (by omega)]
theorem sumL_ofInt {g : Nat → Int} : ∀ n, sumL (fun i => Int64.ofInt (g i)) n = Int64.ofInt (sumI g n)
  | 0 => rfl
  | n + 1 => by unfold sumL sumI; rw [sumL_ofInt n, Int64.ofInt_add]
theorem sumL_split {g : Nat → Int64} (m : Nat) : ∀ n, sumL g (m + n) = sumL g m + sumL (fun i => g (m + i)) n
  | 0 => by simp [sumL]
  | n + 1 => by
    show sumL g (m + n) + g (m + n) = sumL g m + (sumL (fun i => g (m + i)) n + g (m + n))
    rw [sumL_split m n, Int64.add_assoc]
theorem sumL_sub {a b : Nat → Int64} {c : Int64} : ∀ n, sumL (fun i => a i - c * b i) n = sumL a n - c * sumL b n
  | 0 => by simp [sumL]
  | n + 1 => by
    unfold sumL
    rw [sumL_sub n]
    grind
theorem sumL_add {a b : Nat → Int64} {c : Int64} : ∀ n, sumL (fun i => a i + c * b i) n = sumL a n + c * sumL b n
  | 0 => by simp [sumL]
  | n + 1 => by
    unfold sumL
    rw [sumL_add n]
    grind
theorem sumL_one {g : Nat → Int64} {t : Nat} : ∀ (n : Nat), sumL (fun j => g j * (if t = j then 1 else 0)) n = if t < n then g t else 0
  | 0 => by simp [sumL]
  | n + 1 => by
    unfold sumL
    rw [sumL_one n]
    by_cases q : t = n
    · subst q; simp
    · rw [if_neg q]
      by_cases q2 : t < n
      · rw [if_pos q2, if_pos (by omega)]; simp
      · rw [if_neg q2, if_neg (by omega)]; simp
theorem sumL_0 : ∀ (n : Nat), sumL (fun _ => 0) n = 0
  | 0 => rfl
  | n + 1 => by unfold sumL; rw [sumL_0 n]; rfl
theorem rho_low {f e t : Nat} (hf : f < 15) (he : e < fD f) (ht : t < fD f) : rho f e t = if t = e then 1 else 0 := by
  unfold rho
  rw [rz_low hf e he t ht]
  split <;> rfl
theorem rho_rec {f m t : Nat} (hf : f < 15) (ht : t < fD f) : sumL (fun j => ph f j * rho f (m + j) t) (fD f) = - rho f (m + fD f) t := by
  have h := rz_rec hf m t ht
  have h1 : sumL (fun j => ph f j * rho f (m + j) t) (fD f) = sumL (fun j => Int64.ofInt (fphi f j * rz f (m + j) t)) (fD f) := sumL_congr _ (fun j _ => by unfold ph rho; rw [Int64.ofInt_mul])
  rw [h1, sumL_ofInt, show sumI (fun j => fphi f j * rz f (m + j) t) (fD f) = - rz f (m + fD f) t by omega, Int64.ofInt_neg]
  rfl
theorem rho_half {f e t : Nat} (hf : f < 15) (ht : t < fD f) : rho f (e + fN f / 2) t = - rho f e t := by
  unfold rho
  rw [rz_half hf e t ht, Int64.ofInt_neg]
/-- what counts by powers stand for -/
def cV (f : Nat) (c : Nat → Int64) (n t : Nat) : Int64 := sumL (fun e => c e * rho f e t) n
theorem cV_low {f t : Nat} {c : Nat → Int64} (hf : f < 15) (ht : t < fD f) : cV f c (fD f) t = c t := by
  unfold cV
  rw [sumL_congr (g' := fun j => c j * (if t = j then 1 else 0)) _ (fun j hj => by rw [rho_low hf hj ht]), sumL_one, if_pos ht]
/-- one power less, by the polynomial -/
theorem cV_less {f t k : Nat} {c c' : Nat → Int64} (hf : f < 15) (ht : t < fD f) (hk : fD f ≤ k) (hc : ∀ e, e < k → c' e = if k - fD f ≤ e then c e - c k * ph f (e - (k - fD f)) else c e) : cV f c' k t = cV f c (k + 1) t := by
  have e1 : k = (k - fD f) + fD f := by omega
  generalize hm : k - fD f = m at *
  subst e1
  unfold cV
  show _ = sumL (fun e => c e * rho f e t) (m + fD f) + c (m + fD f) * rho f (m + fD f) t
  rw [sumL_split m, sumL_split m]
  have h1 : sumL (fun e => c' e * rho f e t) m = sumL (fun e => c e * rho f e t) m := sumL_congr _ (fun e he => by rw [hc e (by omega), if_neg (by omega)])
  have h2 : sumL (fun i => c' (m + i) * rho f (m + i) t) (fD f) = sumL (fun i => c (m + i) * rho f (m + i) t - c (m + fD f) * (ph f i * rho f (m + i) t)) (fD f) := sumL_congr _ (fun i hi => by
    rw [hc (m + i) (by omega), if_pos (by omega), show m + i - m = i by omega]
    grind)
  rw [h1, h2, sumL_sub, rho_rec hf ht]
  grind
