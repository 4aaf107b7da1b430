/-! the polynomials of divisors: what dividing leaves -/
theorem getD_cons0 (x : Int) (a : List Int) : (x :: a).getD 0 0 = x := rfl
theorem getD_consS (x : Int) (a : List Int) (e : Nat) : (x :: a).getD (e + 1) 0 = a.getD e 0 := by simp
theorem mulP_l0 (x : Int) (a b : List Int) : (mulP (x :: a) b).getD 0 0 = x * b.getD 0 0 := by
  rw [mulP, getD_addP, getD_map, getD_cons0]; omega
theorem mulP_lS (x : Int) (a b : List Int) (e : Nat) : (mulP (x :: a) b).getD (e + 1) 0 = x * b.getD (e + 1) 0 + (mulP a b).getD e 0 := by
  rw [mulP, getD_addP, getD_map, getD_consS]
theorem mulP_r0 (x : Int) (a : List Int) : ∀ b : List Int, (mulP b (x :: a)).getD 0 0 = x * b.getD 0 0
  | [] => by simp [mulP]
  | y :: b => by rw [mulP_l0, getD_cons0, getD_cons0, Int.mul_comm]
theorem mulP_rS (x : Int) (a : List Int) : ∀ (b : List Int) (e : Nat), (mulP b (x :: a)).getD (e + 1) 0 = x * b.getD (e + 1) 0 + (mulP b a).getD e 0
  | [], e => by simp [mulP]
  | y :: b, 0 => by
    rw [mulP_lS, mulP_l0, mulP_r0, getD_consS, getD_consS]
    omega
  | y :: b, e + 1 => by
    rw [mulP_lS, mulP_lS, mulP_rS x a b e, getD_consS, getD_consS]
    omega
theorem mulP_comm (b : List Int) : ∀ (a : List Int) (e : Nat), (mulP a b).getD e 0 = (mulP b a).getD e 0
  | [], e => by
    have h : ∀ (b : List Int) (e : Nat), (mulP b []).getD e 0 = 0 := by
      intro b
      induction b with
      | nil => intro e; simp [mulP]
      | cons y b ih =>
        intro e
        cases e with
        | zero => rw [mulP_l0]; simp
        | succ e => rw [mulP_lS, ih]; simp
    rw [h]
    simp [mulP]
  | x :: a, 0 => by rw [mulP_l0, mulP_r0]
  | x :: a, e + 1 => by rw [mulP_lS, mulP_rS, mulP_comm b a e]
theorem addP_len : ∀ a b : List Int, (addP a b).length = max a.length b.length
  | [], b => by simp [addP]
  | x :: a, [] => by simp [addP]
  | x :: a, y :: b => by
    simp only [addP, List.length_cons, addP_len a b]
    omega
theorem mulP_len : ∀ a b : List Int, 1 ≤ a.length → 1 ≤ b.length → (mulP a b).length = a.length + b.length - 1
  | [], b, h, _ => by simp at h
  | [x], b, _, hb => by
    simp only [mulP, addP_len, List.length_map, List.length_cons, List.length_nil]
    omega
  | x :: x2 :: a, b, _, hb => by
    have ih := mulP_len (x2 :: a) b (by simp) hb
    rw [mulP, addP_len, List.length_map, List.length_cons, ih]
    simp only [List.length_cons]
    omega
def degS : List Nat → Nat
  | [] => 0
  | m :: r => cycD m + degS r
theorem prodP_len : ∀ l : List Nat, l ≠ [] → (prodP l).length = degS l + 1
  | [], h => absurd rfl h
  | [m], _ => by show (cycL m).length = _; rw [cycL_len]; rfl
  | m :: m2 :: r, _ => by
    have ih := prodP_len (m2 :: r) (by simp)
    show (mulP (cycL m) (prodP (m2 :: r))).length = _
    rw [mulP_len _ _ (by rw [cycL_len]; omega) (by omega), cycL_len, ih]
    show _ = cycD m + degS (m2 :: r) + 1
    omega
theorem cyc_deg_c : cycAll.all (fun m => Nat.beq (degS (dvs m)) m) = true := by decide +kernel
theorem cyc_at {m : Nat} (h : cycAll.contains m = true) : prodV (dvs m) = xmV m ∧ 2 * prodM (dvs m) + 2 ≤ cB ∧ cyc m (cycD m) = 1 ∧ cycD m ≤ 220 ∧ degS (dvs m) = m := by
  have hm : m ∈ cycAll := List.contains_iff_mem.mp h
  have h1 := List.all_eq_true.mp cyc_c m hm
  have h2 := List.all_eq_true.mp cyc_deg_c m hm
  unfold cycChk at h1
  simp only [Bool.and_eq_true, decide_eq_true_eq] at h1
  exact ⟨h1.1, h1.2.1, h1.2.2.1, Nat.le_of_ble_eq_true h1.2.2.2, Nat.eq_of_beq_eq_true h2⟩
theorem val_top : ∀ k : Nat, valP (List.replicate k 0 ++ [1]) = cB ^ k
  | 0 => by simp [valP]
  | k + 1 => by
    rw [List.replicate_succ, List.cons_append, valP, val_top k, Int.pow_succ]
    rw [Int.mul_comm]
    omega
theorem val_xm1 {m : Nat} (h : 1 ≤ m) : valP (xm1 m) = xmV m := by
  unfold xm1 xmV
  rw [valP, val_top, Int.mul_comm, ← Int.pow_succ, show (m - 1).succ = m by omega]
theorem bnd_mono {M M' : Int} {a : List Int} (h : M ≤ M') (hb : bndP M a) : bndP M' a := fun x hx => by
  have := hb x hx
  omega
theorem xm1_bnd {m : Nat} {M : Int} (h : 1 ≤ M) : bndP M (xm1 m) := by
  intro x hx
  unfold xm1 at hx
  rcases List.mem_cons.mp hx with rfl | hx
  · omega
  · rcases List.mem_append.mp hx with hx | hx
    · have := List.eq_of_mem_replicate hx
      subst this
      omega
    · simp at hx
      subst hx
      omega
theorem cyc_start {m : Nat} (h1 : 1 ≤ m) (h : cycAll.contains m = true) : ∀ e, (xm1 m).getD e 0 = (prodP (dvs m)).getD e 0 := by
  obtain ⟨a, b, -⟩ := cyc_at h
  refine val_inj (M := (cB - 2) / 2) ?_ _ _ (xm1_bnd ?_) (bnd_mono ?_ (prod_bnd _)) ?_
  · unfold cB; omega
  · unfold cB; omega
  · unfold cB at *; omega
  · rw [prod_val, a, val_xm1 h1]
theorem xm1_get {m e : Nat} (h1 : 1 ≤ m) (he : e ≤ m) : (xm1 m).getD e 0 = if e = 0 then -1 else if e = m then 1 else 0 := by
  unfold xm1
  cases e with
  | zero => rfl
  | succ e =>
    rw [getD_consS, if_neg (by omega), List.getD_eq_getElem?_getD, List.getElem?_append]
    by_cases q : e + 1 = m
    · rw [if_pos q, List.length_replicate, if_neg (by omega), show e - (m - 1) = 0 by omega]
      rfl
    · rw [if_neg q, List.length_replicate, if_pos (by omega), List.getElem?_replicate, if_pos (by omega)]
      rfl
/-- divisors of n up to m -/
def dl (n m : Nat) : List Nat := (List.range (m + 1)).filter (fun k => Nat.blt 0 k && Nat.beq (n % k) 0)
theorem dl_s (n m : Nat) : dl n (m + 1) = dl n m ++ (if n % (m + 1) = 0 then [m + 1] else []) := by
  unfold dl
  rw [List.range_succ (n := m + 1), List.filter_append]
  congr 1
  have h0 : Nat.blt 0 (m + 1) = true := rfl
  by_cases q : n % (m + 1) = 0
  · rw [if_pos q, List.filter_cons, if_pos (by rw [h0, q]; rfl)]
    rfl
  · rw [if_neg q, List.filter_cons, if_neg (by
      rw [h0]
      intro hh
      exact q (Nat.eq_of_beq_eq_true (by simpa using hh)))]
    rfl
theorem dl_len {n : Nat} : ∀ (a b : Nat), a ≤ b → (dl n a).length ≤ (dl n b).length
  | a, 0, h => by
    have : a = 0 := by omega
    rw [this]
    exact Nat.le_refl _
  | a, b + 1, h => by
    by_cases q : a = b + 1
    · rw [q]; exact Nat.le_refl _
    · have ih := dl_len (n := n) a b (by omega)
      rw [dl_s, List.length_append]
      omega
theorem dl_mem {n m k : Nat} (h : k ∈ dl n m) : 1 ≤ k ∧ k ≤ m ∧ n % k = 0 := by
  unfold dl at h
  obtain ⟨h1, h2⟩ := List.mem_filter.mp h
  have := List.mem_range.mp h1
  simp only [Bool.and_eq_true] at h2
  have h3 := mm_blt_t h2.1
  exact ⟨h3, by omega, Nat.eq_of_beq_eq_true h2.2⟩
theorem dvs_dl (n : Nat) : dvs n = dl n n := rfl
/-- what divides m, of the divisors before it -/
def rst (n m its : Nat) : List Nat := ((dl n (m - 1)).drop its).filter (fun k => Nat.beq (m % k) 0) ++ [m]
theorem rst_0 {n m : Nat} (h1 : 1 ≤ m) (h : n % m = 0) : rst n m 0 = dvs m := by
  unfold rst
  rw [List.drop_zero, dvs_dl]
  obtain ⟨k, rfl⟩ : ∃ k, m = k + 1 := ⟨m - 1, by omega⟩
  rw [dl_s (k + 1) k, if_pos (by simp), show k + 1 - 1 = k by omega]
  congr 1
  unfold dl
  rw [List.filter_filter]
  refine List.filter_congr (fun x hx => ?_)
  by_cases q : (k + 1) % x = 0
  · have hd : x ∣ k + 1 := Nat.dvd_of_mod_eq_zero q
    have hn : n % x = 0 := Nat.mod_eq_zero_of_dvd (Nat.dvd_trans hd (Nat.dvd_of_mod_eq_zero h))
    rw [q, hn]
    cases Nat.blt 0 x <;> rfl
  · have hq : Nat.beq ((k + 1) % x) 0 = false := by
      cases hz : Nat.beq ((k + 1) % x) 0 with
      | true => exact absurd (Nat.eq_of_beq_eq_true hz) q
      | false => rfl
    rw [hq]
    simp
theorem rst_end {n m its : Nat} (h : (dl n (m - 1)).length ≤ its) : rst n m its = [m] := by
  unfold rst
  rw [List.drop_eq_nil_of_le h]
  rfl
theorem rst_s {n m its : Nat} (h : its < (dl n (m - 1)).length) : rst n m its = (if m % (dl n (m - 1)).getD its 0 = 0 then [(dl n (m - 1)).getD its 0] else []) ++ rst n m (its + 1) := by
  unfold rst
  rw [List.drop_eq_getElem_cons h, List.filter_cons, List.getD_eq_getElem?_getD, List.getElem?_eq_getElem h]
  show (if Nat.beq (m % (dl n (m - 1))[its]) 0 = true then _ else _) ++ [m] = (if m % (dl n (m - 1))[its] = 0 then _ else _) ++ _
  by_cases q : m % (dl n (m - 1))[its] = 0
  · rw [if_pos q, q]
    rfl
  · rw [if_neg q, if_neg (fun hz => q (Nat.eq_of_beq_eq_true hz))]
    rfl
theorem rst_ne (n m its : Nat) : rst n m its ≠ [] := by unfold rst; simp
theorem cyc_hi {m j : Nat} (h : cycD m < j) : (cycL m).getD j 0 = 0 := by
  rw [List.getD_eq_getElem?_getD, List.getElem?_eq_none (by rw [cycL_len]; omega)]
  rfl
theorem cyc_lo {m j : Nat} (h : j ≤ cycD m) : (cycL m).getD j 0 = cyc m j := by
  unfold cycL
  rw [List.getD_eq_getElem?_getD, List.getElem?_map, List.getElem?_range (by omega)]
  rfl
/-- dividing takes a factor away: the product as sums over the rest -/
theorem prod_step {d : Nat} {r : List Nat} (hr : r ≠ []) (e : Nat) : (prodP (d :: r)).getD e 0 = cnv (fun i => (prodP r).getD i 0) (fun i => (cycL d).getD i 0) e (degS r + 1) := by
  cases r with
  | nil => exact absurd rfl hr
  | cons m2 r =>
    show (mulP (cycL d) (prodP (m2 :: r))).getD e 0 = _
    rw [mulP_comm, getD_mulP, prodP_len _ hr]
theorem cnv_top {Q K : Nat → Int} {d : Nat} (h1 : K d = 1) (h0 : ∀ j, d < j → K j = 0) : ∀ n, cnv Q K (n + d) (n + 1) = Q n := by
  intro n
  have hz : ∀ k, k ≤ n → cnv Q K (n + d) k = 0 := by
    intro k
    induction k with
    | zero => intro _; rfl
    | succ k ih =>
      intro hk
      rw [cnv, ih (by omega), if_pos (by omega), h0 _ (by omega)]
      simp
  rw [cnv, hz n (Nat.le_refl _), if_pos (by omega), show n + d - n = d by omega, h1]
  simp
