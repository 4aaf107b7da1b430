/-! the reference: figures, products as polynomials -/
def T_X10_digit : Tr := fun av h N _ => ∃ (w : FW) (s : RS) (p x i : Nat), av = [mR 1000, mI x, mI i] ∧ h = hR w s ∧ s.1 2 = p ∧ 2 ≤ p ∧ p ≤ 27 ∧ x < 1000 ∧ i ≤ 6 ∧ N (some (mI (rdg p x i : Nat))) h
abbrev e_X10_digit : NE := (ftX10, [(110, (2, 0, 0, false, (1, 0), T_X10_powerOf))], ltX10, [], [], false, 1, (0, 0), [], [], [], false)
theorem s_X10_digit : mm_Spec e_X10_digit kX10_digit 3 T_X10_digit := by
  rintro N X K av h hK ⟨w, s, p, x, i, rfl, rfl, hp, hp2, hp27, hx, hi, h2⟩
  refine ⟨rfl, hK [] _ _ _ _ _ _ ?_⟩
  refine ⟨p, i, by show [mI (s.1 2), mI (i : Int)] = _; rw [hp], hp27, hi, ?_⟩
  have hpos : 0 < p ^ i := Nat.pow_pos (by omega)
  refine And.intro (dv_ok hpos (by omega)) ?_
  rw [tdn]
  conv => whnf
  rw [hp]
  refine And.intro (dv_ok (by omega) (Nat.lt_of_le_of_lt (Nat.div_le_self _ _) (by omega))) ?_
  rw [tmn]
  exact h2
theorem m_X10_digit (l : Launch) : mm_Met l yX10_digit cX10_digit 3 (some .int) 1 0 0 T_X10_digit := mm_met (E := e_X10_digit) (cd := kX10_digit) s_X10_digit (by decide) kX10_digit_ok (by decide +kernel) (by decide +kernel) (Or.inr (Or.inl ⟨rfl, rfl⟩)) rfl (mm_eok_X10 _) (mm_calls_cons (mm_cbs wi_X10_powerOf (tb5 (i := 186) rfl rfl) (m_X10_powerOf l) (by decide) (by decide) rfl) (mm_calls_nil))
def T_X10_addDigits : Tr := fun av h N _ => ∃ (w : FW) (s : RS) (f x y : Nat), av = [mR 1000, mI x, mI y] ∧ h = hR w s ∧ f < 15 ∧ s.1 2 = (fP f : Nat) ∧ s.1 3 = (fK f : Nat) ∧ x < fQ f ∧ y < fQ f ∧ N (some (mI (fsum f x y : Nat))) h
abbrev e_X10_addDigits : NE := (ftX10, [(116, (3, 0, 0, false, (0, 10), T_X10_digit))], ltX10, [], [], false, 1, (0, 0), [], [], [], false)
theorem s_X10_addDigits : mm_Spec e_X10_addDigits kX10_addDigits 5 T_X10_addDigits := by
  rintro N X K av h hK ⟨w, s, f, x, y, rfl, rfl, hf, hp, hk, hx, hy, h2⟩
  obtain ⟨b1, b2, b3, b4, b5, b6, b7, -⟩ := fbase hf
  rw [← radd_sum hf hx hy] at h2
  have loop : ∀ (n v : Nat), n ≤ fK f → v < fP f ^ (fK f - n) → radd (fP f) x y n v = radd (fP f) x y (fK f) 0 → ∀ i : Int, i = (n : Int) - 1 → K 10 [some (mR 1000), some (mI x), some (mI y), some (mI v), some (mI i)] [] (hR w s) 0 0 := by
    intro n
    induction n with
    | zero =>
      intro v hn hv hr i hi
      refine hK [10] _ _ _ _ _ _ ?_
      refine And.intro (fun _ => ?_) (fun q => absurd q (by omega))
      rw [← hr] at h2
      exact h2
    | succ n ih =>
      intro v hn hv hr i hi
      have ei : i = (n : Int) := by omega
      subst ei
      refine hK [10] _ _ _ _ _ _ ?_
      refine And.intro (fun q => absurd q (by omega)) (fun _ => ?_)
      have hlim : fP f ^ (fK f - n) ≤ 387420489 := pow_le_lim (by omega) (by omega)
      have hv2 : v * fP f + (rdg (fP f) x n + rdg (fP f) y n) % fP f < fP f ^ (fK f - n) := by
        rw [show fK f - n = (fK f - (n + 1)) + 1 by omega]
        exact step_le hv (Nat.mod_lt _ (by omega))
      conv => whnf
      rw [hp, cmul]
      refine And.intro (rng_nat (by omega)) ?_
      refine ⟨w, s, fP f, x, n, rfl, rfl, hp, by omega, by omega, by omega, by omega, ?_⟩
      refine ⟨w, s, fP f, y, n, rfl, rfl, hp, by omega, by omega, by omega, by omega, ?_⟩
      have d1 := rdg_lt (p := fP f) (x := x) (i := n) (by omega)
      have d2 := rdg_lt (p := fP f) (x := y) (i := n) (by omega)
      conv => whnf
      rw [cadd]
      refine And.intro (rng_nat (by omega)) ?_
      conv => whnf
      rw [hp]
      refine And.intro (dv_ok (by omega) (by omega)) ?_
      rw [tmn]
      conv => whnf
      rw [cadd]
      refine And.intro (rng_nat (by omega)) ?_
      refine And.intro (rng_of (by omega) (by omega)) ?_
      exact ih _ (by omega) hv2 hr _ (by omega)
  refine ⟨rfl, hK [10] _ _ _ _ _ _ ?_⟩
  refine And.intro (by rw [hk]; exact rng_of (by omega) (by omega)) ?_
  refine loop (fK f) 0 (Nat.le_refl _) ?_ rfl _ (by rw [hk])
  rw [Nat.sub_self]
  simp
theorem m_X10_addDigits (l : Launch) : mm_Met l yX10_addDigits cX10_addDigits 5 (some .int) 2 0 0 T_X10_addDigits := mm_met (E := e_X10_addDigits) (cd := kX10_addDigits) s_X10_addDigits (by decide) kX10_addDigits_ok (by decide +kernel) (by decide +kernel) (Or.inr (Or.inl ⟨rfl, rfl⟩)) rfl (mm_eok_X10 _) (mm_calls_cons (mm_cbv wi_X10_digit (tb5 (i := 197) rfl rfl) (m_X10_digit l) (by decide) (by decide) rfl) (mm_calls_nil))
