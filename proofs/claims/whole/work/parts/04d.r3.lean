/-! the reference: a product as polynomials, made less -/
def LOK (p : Nat) (L : List Nat) : Prop := L.length = 16 ∧ ∀ m, L.getD m 0 < p
def AR (L : List Nat) (a : Int → Int) : Prop := ∀ m : Nat, m < 16 → a (m : Int) = ((L.getD m 0 : Nat) : Int)
theorem rep0 (m : Nat) : (List.replicate 16 0 : List Nat).getD m 0 = 0 := by
  rw [List.getD_eq_getElem?_getD, List.getElem?_replicate]
  split <;> rfl
theorem getD_set {L : List Nat} {m j v : Nat} (hm : m < L.length) : (L.set m v).getD j 0 = if j = m then v else L.getD j 0 := by
  simp only [List.getD_eq_getElem?_getD, List.getElem?_set]
  by_cases h : m = j
  · subst h
    simp [hm]
  · rw [if_neg h, if_neg (fun q => h q.symm)]
theorem LOK_set {p : Nat} {L : List Nat} {m v : Nat} (h : LOK p L) (hm : m < 16) (hv : v < p) : LOK p (L.set m v) := by
  refine ⟨by rw [List.length_set]; exact h.1, fun j => ?_⟩
  rw [getD_set (by rw [h.1]; exact hm)]
  split
  · exact hv
  · exact h.2 j
theorem AR_set {L : List Nat} {a : Int → Int} {m v : Nat} (hl : L.length = 16) (h : AR L a) (hm : m < 16) : AR (L.set m v) (mm_upd a m v) := by
  intro j hj
  rw [getD_set (by omega)]
  unfold mm_upd
  by_cases q : j = m
  · rw [if_pos (by omega), if_pos q]
  · rw [if_neg (by omega), if_neg q]
    exact h j hj
theorem LOK_J {p x y i : Nat} (hp : 0 < p) : ∀ (n j : Nat) (L : List Nat), LOK p L → i + j + n ≤ 16 → LOK p (rmJ p x y i n j L)
  | 0, _, _, h, _ => h
  | n + 1, j, L, h, hn => LOK_J hp n (j + 1) _ (LOK_set h (by omega) (Nat.mod_lt _ hp)) (by omega)
theorem LOK_R {p its i k top : Nat} (hp : 0 < p) : ∀ (n j : Nat) (L : List Nat), LOK p L → i - k + j + n ≤ 16 → LOK p (rmR p its i k top n j L)
  | 0, _, _, h, _ => h
  | n + 1, j, L, h, hn => LOK_R hp n (j + 1) _ (LOK_set h (by omega) (Nat.mod_lt _ hp)) (by omega)
def T_X10_multiplyBy : Tr := fun av h N _ => ∃ (w : FW) (s : RS) (p k x y its : Nat), av = [mR 1000, mI x, mI y, mI its] ∧ h = hR w s ∧ s.1 2 = p ∧ s.1 3 = k ∧ 2 ≤ p ∧ p ≤ 23 ∧ 1 ≤ k ∧ k ≤ 4 ∧ x < 27 ∧ y < 27 ∧ its < 27 ∧ ∀ L : Int → Int, N (some (mI (rmul p k x y its : Nat))) (hR w (sA s 13 L))
abbrev e_X10_multiplyBy : NE := (ftX10, [(116, (3, 0, 0, false, (0, 10), T_X10_digit))], ltX10, [], [], false, 1, (0, 0), [], [], [], false)
set_option maxHeartbeats 4000000 in
theorem s_X10_multiplyBy : mm_Spec e_X10_multiplyBy kX10_multiplyBy 7 T_X10_multiplyBy := by
  rintro N X K av h hK ⟨w, s, p, k, x, y, its, rfl, rfl, hp, hk, hp2, hp23, hk1, hk4, hx, hy, hits, h2⟩
  -- the figures from the highest on
  have loopV : ∀ (n v : Nat) (L : List Nat) (a : Int → Int) (o : Option MV), n ≤ k → v < p ^ (k - n) → LOK p L → AR L a → rmV p n L v = rmul p k x y its → ∀ i : Int, i = (n : Int) - 1 → K 226 [some (mR 1000), some (mI x), some (mI y), some (mI its), some (mI v), some (mI i), o] [] (hR w (sA s 13 a)) 0 0 := by
    intro n
    induction n with
    | zero =>
      intro v L a o hn hv hL hA hr i hi
      refine hK [226] _ _ _ _ _ _ ?_
      refine And.intro (fun _ => ?_) (fun q => absurd q (by omega))
      rw [← hr] at h2
      exact h2 a
    | succ n ih =>
      intro v L a o hn hv hL hA hr i hi
      have ei : i = (n : Int) := by omega
      subst ei
      refine hK [226] _ _ _ _ _ _ ?_
      refine And.intro (fun q => absurd q (by omega)) (fun _ => ?_)
      have hlim : p ^ (k - n) ≤ 387420489 := pow_le_lim (by omega) (by omega)
      have hd := hL.2 n
      have hv2 : v * p + L.getD n 0 < p ^ (k - n) := by
        rw [show k - n = (k - (n + 1)) + 1 by omega]
        exact step_le hv hd
      conv => whnf
      rw [show (sA s 13 a).1 2 = (p : Int) from hp, cmul]
      refine And.intro (rng_nat (by omega)) ?_
      refine And.intro (by omega) ?_
      conv => whnf
      rw [show (sA s 13 a).2.1 13 (n : Int) = _ from hA n (by omega), cadd]
      refine And.intro (rng_nat (by omega)) ?_
      refine And.intro (rng_of (by omega) (by omega)) ?_
      exact ih _ L a o (by omega) hv2 hL hA hr _ (by omega)
  -- made less by the modulus
  have loopD : ∀ (n : Nat) (L : List Nat) (a : Int → Int) (o5 o6 : Option MV), n ≤ k - 1 → LOK p L → AR L a → rmV p k (rmD p k its n L) 0 = rmul p k x y its → ∀ i : Int, i = (k : Int) + n - 1 → K 114 [some (mR 1000), some (mI x), some (mI y), some (mI its), some (mI i), o5, o6] [] (hR w (sA s 13 a)) 0 0 := by
    intro n
    induction n with
    | zero =>
      intro L a o5 o6 hn hL hA hr i hi
      refine hK [114, 226] _ _ _ _ _ _ ?_
      conv => whnf
      rw [show (sA s 13 a).1 3 = (k : Int) from hk]
      refine And.intro (fun _ => ?_) (fun q => absurd q (by omega))
      conv => whnf
      rw [show (sA s 13 a).1 3 = (k : Int) from hk]
      refine And.intro (rng_of (by omega) (by omega)) ?_
      exact loopV k 0 L a o6 (Nat.le_refl _) (by rw [Nat.sub_self]; simp) hL hA hr _ rfl
    | succ n ih =>
      intro L a o5 o6 hn hL hA hr i hi
      have ei : i = ((k + n : Nat) : Int) := by omega
      subst ei
      have loopR : ∀ j, j ≤ k → ∀ (L2 : List Nat) (a2 : Int → Int), LOK p L2 → AR L2 a2 → rmV p k (rmD p k its n (rmR p its (k + n) k (L.getD (k + n) 0) (k - j) j L2)) 0 = rmul p k x y its → K 143 [some (mR 1000), some (mI x), some (mI y), some (mI its), some (mI ((k + n : Nat) : Int)), some (mI ((L.getD (k + n) 0 : Nat) : Int)), some (mI j)] [] (hR w (sA s 13 a2)) 0 0 := by
        refine mm_for k (fun L2 a2 hL2 hA2 hr2 => ?_) (fun j hj ihj L2 a2 hL2 hA2 hr2 => ?_)
        · refine hK [114, 143] _ _ _ _ _ _ ?_
          conv => whnf
          rw [show (sA s 13 a2).1 3 = (k : Int) from hk]
          refine And.intro (fun _ => ?_) (fun q => absurd q (by omega))
          refine And.intro (rng_of (by omega) (by omega)) ?_
          rw [Nat.sub_self] at hr2
          exact ih L2 a2 _ _ (by omega) hL2 hA2 hr2 _ (by omega)
        · refine hK [114, 143] _ _ _ _ _ _ ?_
          conv => whnf
          rw [show (sA s 13 a2).1 3 = (k : Int) from hk]
          refine And.intro (fun q => absurd q (by omega)) (fun _ => ?_)
          conv => whnf
          rw [show (sA s 13 a2).1 3 = (k : Int) from hk]
          rw [csub (by omega), show k + n - k = n by omega]
          refine And.intro (rng_nat (by omega)) ?_
          conv => whnf
          rw [cadd]
          refine And.intro (rng_nat (by omega)) ?_
          conv => whnf
          rw [show (sA s 13 a2).1 3 = (k : Int) from hk]
          rw [csub (by omega), show k + n - k = n by omega]
          refine And.intro (rng_nat (by omega)) ?_
          conv => whnf
          rw [cadd]
          refine And.intro (rng_nat (by omega)) ?_
          refine And.intro (by omega) ?_
          conv => whnf
          rw [show (sA s 13 a2).1 2 = (p : Int) from hp, show (sA s 13 a2).2.1 13 ((n + j : Nat) : Int) = _ from hA2 (n + j) (by omega)]
          have ht := hL.2 (k + n)
          have hd := hL2.2 (n + j)
          rw [csub (by omega)]
          refine And.intro (rng_nat (by omega)) ?_
          refine ⟨w, sA s 13 a2, p, its, j, rfl, rfl, hp, by omega, by omega, by omega, by omega, ?_⟩
          have hd2 := rdg_lt (p := p) (x := its) (i := j) (by omega)
          have hm : (p - L.getD (k + n) 0) * rdg p its j ≤ 23 * 23 := Nat.mul_le_mul (by omega) (by omega)
          conv => whnf
          rw [cmul]
          refine And.intro (rng_nat (by omega)) ?_
          conv => whnf
          rw [cadd]
          refine And.intro (rng_nat (by omega)) ?_
          conv => whnf
          rw [show (sA s 13 a2).1 2 = (p : Int) from hp]
          refine And.intro (dv_ok (by omega) (by omega)) ?_
          rw [tmn]
          refine And.intro (by omega) ?_
          refine And.intro (rng_of (by omega) (by omega)) ?_
          refine ihj (L2.set (n + j) ((L2.getD (n + j) 0 + (p - L.getD (k + n) 0) * rdg p its j) % p)) _ (LOK_set hL2 (by omega) (Nat.mod_lt _ (by omega))) (AR_set hL2.1 hA2 (by omega)) ?_
          rw [← hr2, show k - j = (k - (j + 1)) + 1 by omega]
          show _ = rmV p k (rmD p k its n (rmR p its (k + n) k (L.getD (k + n) 0) (k - (j + 1)) (j + 1) (L2.set (k + n - k + j) ((L2.getD (k + n - k + j) 0 + (p - L.getD (k + n) 0) * rdg p its j) % p)))) 0
          rw [show k + n - k + j = n + j by omega]
      refine hK [143] _ _ _ _ _ _ ?_
      conv => whnf
      rw [show (sA s 13 a).1 3 = (k : Int) from hk]
      refine And.intro (fun q => absurd q (by omega)) (fun _ => ?_)
      refine And.intro (by omega) ?_
      conv => whnf
      rw [show (sA s 13 a).2.1 13 ((k + n : Nat) : Int) = _ from hA (k + n) (by omega)]
      refine And.intro (by omega) ?_
      refine loopR 0 (by omega) (L.set (k + n) 0) _ (LOK_set hL (by omega) (by omega)) (AR_set (v := 0) hL.1 hA (by omega)) ?_
      rw [Nat.sub_zero]
      exact hr
  -- the products of figures
  have loopI : ∀ i, i ≤ k → ∀ (L : List Nat) (a : Int → Int) (o5 o6 : Option MV), LOK p L → AR L a → rmV p k (rmD p k its (k - 1) (rmI p k x y (k - i) i L)) 0 = rmul p k x y its → K 30 [some (mR 1000), some (mI x), some (mI y), some (mI its), some (mI i), o5, o6] [] (hR w (sA s 13 a)) 0 0 := by
    refine mm_for k (fun L a o5 o6 hL hA hr => ?_) (fun i hi ih L a o5 o6 hL hA hr => ?_)
    · refine hK [30, 114] _ _ _ _ _ _ ?_
      conv => whnf
      rw [show (sA s 13 a).1 3 = (k : Int) from hk]
      refine And.intro (fun _ => ?_) (fun q => absurd q (by omega))
      conv => whnf
      rw [show (sA s 13 a).1 3 = (k : Int) from hk]
      refine And.intro (rng_of (by omega) (by omega)) ?_
      refine And.intro (rng_of (by omega) (by omega)) ?_
      rw [Nat.sub_self] at hr
      exact loopD (k - 1) L a _ _ (Nat.le_refl _) hL hA hr _ (by omega)
    · have loopJ : ∀ j, j ≤ k → ∀ (L2 : List Nat) (a2 : Int → Int), LOK p L2 → AR L2 a2 → rmV p k (rmD p k its (k - 1) (rmI p k x y (k - (i + 1)) (i + 1) (rmJ p x y i (k - j) j L2))) 0 = rmul p k x y its → K 42 [some (mR 1000), some (mI x), some (mI y), some (mI its), some (mI i), some (mI j), o6] [] (hR w (sA s 13 a2)) 0 0 := by
        refine mm_for k (fun L2 a2 hL2 hA2 hr2 => ?_) (fun j hj ihj L2 a2 hL2 hA2 hr2 => ?_)
        · refine hK [30, 42] _ _ _ _ _ _ ?_
          conv => whnf
          rw [show (sA s 13 a2).1 3 = (k : Int) from hk]
          refine And.intro (fun _ => ?_) (fun q => absurd q (by omega))
          refine And.intro (rng_of (by omega) (by omega)) ?_
          rw [Nat.sub_self] at hr2
          exact ih L2 a2 _ _ hL2 hA2 hr2
        · refine hK [30, 42] _ _ _ _ _ _ ?_
          conv => whnf
          rw [show (sA s 13 a2).1 3 = (k : Int) from hk]
          refine And.intro (fun q => absurd q (by omega)) (fun _ => ?_)
          conv => whnf
          rw [cadd]
          refine And.intro (rng_nat (by omega)) ?_
          conv => whnf
          rw [cadd]
          refine And.intro (rng_nat (by omega)) ?_
          refine And.intro (by omega) ?_
          refine ⟨w, sA s 13 a2, p, x, i, rfl, rfl, hp, by omega, by omega, by omega, by omega, ?_⟩
          refine ⟨w, sA s 13 a2, p, y, j, rfl, rfl, hp, by omega, by omega, by omega, by omega, ?_⟩
          have hd := hL2.2 (i + j)
          have hd1 := rdg_lt (p := p) (x := x) (i := i) (by omega)
          have hd2 := rdg_lt (p := p) (x := y) (i := j) (by omega)
          have hm : rdg p x i * rdg p y j ≤ 23 * 23 := Nat.mul_le_mul (by omega) (by omega)
          conv => whnf
          rw [cmul]
          refine And.intro (rng_nat (by omega)) ?_
          conv => whnf
          rw [show (sA s 13 a2).2.1 13 ((i + j : Nat) : Int) = _ from hA2 (i + j) (by omega), cadd]
          refine And.intro (rng_nat (by omega)) ?_
          conv => whnf
          rw [show (sA s 13 a2).1 2 = (p : Int) from hp]
          refine And.intro (dv_ok (by omega) (by omega)) ?_
          rw [tmn]
          refine And.intro (by omega) ?_
          refine And.intro (rng_of (by omega) (by omega)) ?_
          refine ihj (L2.set (i + j) ((L2.getD (i + j) 0 + rdg p x i * rdg p y j) % p)) _ (LOK_set hL2 (by omega) (Nat.mod_lt _ (by omega))) (AR_set hL2.1 hA2 (by omega)) ?_
          rw [← hr2, show k - j = (k - (j + 1)) + 1 by omega]
          rfl
      refine hK [42] _ _ _ _ _ _ ?_
      conv => whnf
      rw [show (sA s 13 a).1 3 = (k : Int) from hk]
      refine And.intro (fun q => absurd q (by omega)) (fun _ => ?_)
      refine loopJ 0 (by omega) L a hL hA ?_
      rw [← hr, show k - i = (k - (i + 1)) + 1 by omega]
      rfl
  -- nothing yet
  have loopZ : ∀ i, i ≤ 16 → ∀ (a : Int → Int), (∀ m : Nat, m < i → a m = 0) → K 3 [some (mR 1000), some (mI x), some (mI y), some (mI its), some (mI i), none, none] [] (hR w (sA s 13 a)) 0 0 := by
    refine mm_for 16 (fun a ha => ?_) (fun i hi ih a ha => ?_)
    · refine hK [3, 30] _ _ _ _ _ _ ?_
      refine And.intro (fun _ => ?_) (fun q => absurd q (by omega))
      refine loopI 0 (by omega) (List.replicate 16 0) a none none ⟨by simp, fun m => ?_⟩ (fun m hm => ?_) ?_
      · rw [rep0]; omega
      · rw [ha m hm, rep0]; rfl
      · rfl
    · refine hK [3, 30] _ _ _ _ _ _ ?_
      refine And.intro (fun q => absurd q (by omega)) (fun _ => ?_)
      refine And.intro (by omega) ?_
      refine And.intro (rng_of (by omega) (by omega)) ?_
      refine ih (mm_upd a i 0) (fun m hm => ?_)
      unfold mm_upd
      split
      · rfl
      · exact ha m (by omega)
  refine ⟨rfl, hK [3] _ _ _ _ _ _ ?_⟩
  exact loopZ 0 (by omega) (s.2.1 13) (fun m hm => by omega)
theorem m_X10_multiplyBy (l : Launch) : mm_Met l yX10_multiplyBy cX10_multiplyBy 7 (some .int) 2 0 0 T_X10_multiplyBy := mm_met (E := e_X10_multiplyBy) (cd := kX10_multiplyBy) s_X10_multiplyBy (by decide) kX10_multiplyBy_ok (by decide +kernel) (by decide +kernel) (Or.inr (Or.inl ⟨rfl, rfl⟩)) rfl (mm_eok_X10 _) (mm_calls_cons (mm_cbv wi_X10_digit (tb5 (i := 197) rfl rfl) (m_X10_digit l) (by decide) (by decide) rfl) (mm_calls_nil))
