/-! the reference: the smallest methods -/
def T_X10_isIn : Tr := fun av h N _ => ∃ x y z : Int64, av = [mL x, mL y, mL z] ∧ N (some (mI (bi (y.toInt ≤ x.toInt ∧ x.toInt ≤ z.toInt)))) h
abbrev e_X10_isIn : NE := (ftX10, [], ltX10, [], [], false, 2, (0, 0), [], [], [], false)
theorem s_X10_isIn : mm_Spec e_X10_isIn kX10_isIn 6 T_X10_isIn := by
  rintro N X K av h hK ⟨x, y, z, rfl, h2⟩
  refine ⟨rfl, hK [] _ _ _ _ _ _ ?_⟩
  refine And.intro (fun q => ?_) (fun q => ?_)
  · have h1 := (cmp_lt x y).mp q
    rw [bi_f (by omega)] at h2
    exact And.intro (Or.inl rfl) h2
  · have h1 : ¬ x.toInt < y.toInt := fun z => absurd ((cmp_lt x y).mpr z) (by omega)
    refine And.intro (fun q2 => ?_) (fun q2 => ?_)
    · have h3 : ¬ x.toInt ≤ z.toInt := fun z => absurd ((cmp_le _ _).mpr z) (by omega)
      rw [bi_f (by omega)] at h2
      exact And.intro (Or.inl rfl) h2
    · have h3 := (cmp_le x z).mp q2
      rw [bi_t (by omega)] at h2
      exact And.intro (Or.inr rfl) h2
theorem m_X10_isIn (l : Launch) : mm_Met l yX10_isIn cX10_isIn 6 (some .boolean) 0 0 0 T_X10_isIn := mm_met (E := e_X10_isIn) (cd := kX10_isIn) s_X10_isIn (by decide) kX10_isIn_ok (by decide +kernel) (by decide +kernel) (Or.inr (Or.inr (Or.inl ⟨rfl, rfl⟩))) rfl (mm_eok_X10 _) (mm_calls_nil)
def T_X10_common : Tr := fun av h N _ => ∃ a b : Nat, av = [mI a, mI b] ∧ a < 2147483648 ∧ b < 2147483648 ∧ N (some (mI (Nat.gcd a b : Nat))) h
abbrev e_X10_common : NE := (ftX10, [], ltX10, [], [], false, 1, (0, 0), [], [], [], false)
theorem s_X10_common : mm_Spec e_X10_common kX10_common 5 T_X10_common := by
  rintro N X K av h hK ⟨a, b, rfl, ha, hb, h2⟩
  have loop : ∀ (n x y : Nat) (o : Option MV), y ≤ n → x < 2147483648 → y < 2147483648 → Nat.gcd x y = Nat.gcd a b → K 4 [some (mI a), some (mI b), some (mI x), some (mI y), o] [] h 0 0 := by
    intro n
    induction n with
    | zero =>
      intro x y o hn hx hy hg
      refine hK [4] _ _ _ _ _ _ ?_
      have e : y = 0 := by omega
      subst e
      refine And.intro (fun _ => ?_) (fun q => absurd rfl q)
      rw [Nat.gcd_zero_right] at hg
      rw [hg]
      exact h2
    | succ n ih =>
      intro x y o hn hx hy hg
      refine hK [4] _ _ _ _ _ _ ?_
      refine And.intro (fun q => ?_) (fun q => ?_)
      · have e : y = 0 := by omega
        subst e
        rw [Nat.gcd_zero_right] at hg
        rw [hg]
        exact h2
      · have hy0 : 0 < y := by omega
        have h1 : ((x : Int)).tdiv (y : Int) = ((x / y : Nat) : Int) := by rw [td_eq (by omega)]; rfl
        have h3 : ((x : Int)).tmod (y : Int) = ((x % y : Nat) : Int) := by rw [tm_eq (by omega)]; rfl
        have hd : x / y ≤ x := Nat.div_le_self x y
        have hd0 : 0 ≤ (x : Int) / (y : Int) := Int.ediv_nonneg (by omega) (by omega)
        have hm : x % y < y := Nat.mod_lt x hy0
        refine And.intro ⟨by omega, by rw [h1]; exact rng_of (by omega) (by omega)⟩ ?_
        rw [h3]
        exact ih y (x % y) _ (by omega) hy (by omega) (by rw [← hg, Nat.gcd_comm x y, Nat.gcd_rec y x, Nat.gcd_comm])
  refine ⟨rfl, hK [4] _ _ _ _ _ _ ?_⟩
  exact loop b a b none (Nat.le_refl _) ha hb rfl
theorem m_X10_common (l : Launch) : mm_Met l yX10_common cX10_common 5 (some .int) 0 0 0 T_X10_common := mm_met (E := e_X10_common) (cd := kX10_common) s_X10_common (by decide) kX10_common_ok (by decide +kernel) (by decide +kernel) (Or.inr (Or.inl ⟨rfl, rfl⟩)) rfl (mm_eok_X10 _) (mm_calls_nil)
theorem pow_le_lim {a i : Nat} (h1 : a ≤ 27) (hi : i ≤ 6) : a ^ i ≤ 387420489 := by
  have h2 : a ^ i ≤ 27 ^ i := Nat.pow_le_pow_left h1 i
  have h3 : 27 ^ i ≤ 27 ^ 6 := Nat.pow_le_pow_right (by omega) hi
  have h4 : 27 ^ 6 = 387420489 := by decide
  omega
def T_X10_powerOf : Tr := fun av h N _ => ∃ a n : Nat, av = [mI a, mI n] ∧ a ≤ 27 ∧ n ≤ 6 ∧ N (some (mI (a ^ n : Nat))) h
abbrev e_X10_powerOf : NE := (ftX10, [], ltX10, [], [], false, 1, (0, 0), [], [], [], false)
theorem s_X10_powerOf : mm_Spec e_X10_powerOf kX10_powerOf 4 T_X10_powerOf := by
  rintro N X K av h hK ⟨a, n, rfl, h1, hn, h2⟩
  have loop : ∀ i, i ≤ n → ∀ v : Nat, v = a ^ i → K 4 [some (mI a), some (mI n), some (mI v), some (mI i)] [] h 0 0 := by
    refine mm_for n (fun v hv => ?_) (fun i hi ih v hv => ?_)
    · refine hK [4] _ _ _ _ _ _ ?_
      refine And.intro (fun _ => ?_) (fun q => absurd q (by omega))
      rw [← hv] at h2
      exact h2
    · refine hK [4] _ _ _ _ _ _ ?_
      refine And.intro (fun q => absurd q (by omega)) (fun q => ?_)
      have e : v * a = a ^ (i + 1) := by rw [hv, Nat.pow_succ]
      have e2 : (v : Int) * (a : Int) = ((v * a : Nat) : Int) := by push_cast; rfl
      have hp := pow_le_lim (a := a) (i := i + 1) h1 (by omega)
      refine And.intro (by rw [e2, e]; exact rng_of (by omega) (by omega)) ?_
      refine And.intro (rng_of (by omega) (by omega)) ?_
      rw [e2]
      exact ih (v * a) e
  refine ⟨rfl, hK [4] _ _ _ _ _ _ ?_⟩
  exact loop 0 (by omega) 1 (Nat.pow_zero a).symm
theorem m_X10_powerOf (l : Launch) : mm_Met l yX10_powerOf cX10_powerOf 4 (some .int) 0 0 0 T_X10_powerOf := mm_met (E := e_X10_powerOf) (cd := kX10_powerOf) s_X10_powerOf (by decide) kX10_powerOf_ok (by decide +kernel) (by decide +kernel) (Or.inr (Or.inl ⟨rfl, rfl⟩)) rfl (mm_eok_X10 _) (mm_calls_nil)
def T_X10_sumOf : Tr := fun av h N _ => ∃ (w : FW) (s : RS) (x y : Int), av = [mR 1000, mI x, mI y] ∧ h = hR w s ∧ (0 ≤ x ∧ x < 27 ∧ 0 ≤ y ∧ y < 27) ∧ N (some (mI (s.2.1 7 (27 * x + y)))) h
abbrev e_X10_sumOf : NE := (ftX10, [], ltX10, [], [], false, 1, (0, 0), [], [], [], false)
theorem s_X10_sumOf : mm_Spec e_X10_sumOf kX10_sumOf 3 T_X10_sumOf := by
  rintro N X K av h hK ⟨w, s, x, y, rfl, rfl, h1, h2⟩
  refine ⟨rfl, hK [] _ _ _ _ _ _ ?_⟩
  exact And.intro (rng_of (by omega) (by omega)) (And.intro (rng_of (by omega) (by omega)) (And.intro (by omega) h2))
theorem m_X10_sumOf (l : Launch) : mm_Met l yX10_sumOf cX10_sumOf 3 (some .int) 0 0 0 T_X10_sumOf := mm_met (E := e_X10_sumOf) (cd := kX10_sumOf) s_X10_sumOf (by decide) kX10_sumOf_ok (by decide +kernel) (by decide +kernel) (Or.inr (Or.inl ⟨rfl, rfl⟩)) rfl (mm_eok_X10 _) (mm_calls_nil)
def T_X10_productOf : Tr := fun av h N _ => ∃ (w : FW) (s : RS) (x y : Int), av = [mR 1000, mI x, mI y] ∧ h = hR w s ∧ (0 ≤ x ∧ x < 27 ∧ 0 ≤ y ∧ y < 27) ∧ N (some (mI (s.2.1 8 (27 * x + y)))) h
abbrev e_X10_productOf : NE := (ftX10, [], ltX10, [], [], false, 1, (0, 0), [], [], [], false)
theorem s_X10_productOf : mm_Spec e_X10_productOf kX10_productOf 3 T_X10_productOf := by
  rintro N X K av h hK ⟨w, s, x, y, rfl, rfl, h1, h2⟩
  refine ⟨rfl, hK [] _ _ _ _ _ _ ?_⟩
  exact And.intro (rng_of (by omega) (by omega)) (And.intro (rng_of (by omega) (by omega)) (And.intro (by omega) h2))
theorem m_X10_productOf (l : Launch) : mm_Met l yX10_productOf cX10_productOf 3 (some .int) 0 0 0 T_X10_productOf := mm_met (E := e_X10_productOf) (cd := kX10_productOf) s_X10_productOf (by decide) kX10_productOf_ok (by decide +kernel) (by decide +kernel) (Or.inr (Or.inl ⟨rfl, rfl⟩)) rfl (mm_eok_X10 _) (mm_calls_nil)
