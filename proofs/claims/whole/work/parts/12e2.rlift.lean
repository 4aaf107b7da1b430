/-! the reference: 1 less -/
def T_X10_lessLarge : Tr := fun av h N _ => ∃ (w : FW) (s : RS) (p dg v : Nat), av = [mR 1000, mI v] ∧ h = hR w s ∧ LGr p dg s ∧ v < p ^ dg ∧ N (some (mI (lsL p dg v : Nat))) h
abbrev e_X10_lessLarge : NE := (ftX10, [], ltX10, [], [], false, 1, (0, 0), [], [], [], false)
set_option maxHeartbeats 4000000 in
theorem s_X10_lessLarge : mm_Spec e_X10_lessLarge kX10_lessLarge 6 T_X10_lessLarge := by
  rintro N X K av h hK ⟨w, s, p, dg, v, rfl, rfl, ⟨e2, e47, e48, hp1, hp2, hd, hz⟩, hv, h2⟩
  have hpw : ∀ i, 0 < p ^ i := fun i => Nat.pow_pos (by omega)
  have hple : ∀ i, i ≤ dg → p ^ i ≤ 4096 := fun i hi => Nat.le_trans (Nat.pow_le_pow_right (by omega) hi) hz
  have hdl : dg < p ^ dg := Nat.lt_pow_self (by omega)
  have hB : lsS p dg v < p ^ dg := dz_lt (by omega) (fun r b _ _ => Nat.mod_lt _ (by omega)) _ _ _
  obtain ⟨B, hBd⟩ : ∃ B, B = lsS p dg v := ⟨_, rfl⟩
  unfold lsL at h2
  rw [← hBd] at h2 hB
  have loop : ∀ (k i S : Nat) (o : Option MV), i + k = dg → S + p ^ i * dz (fun r _ => (p - r) % p) p k (v / p ^ i) (0 / p ^ i) = B → K 7 [some (mR 1000), some (mI v), some (mI S), some (mI (p ^ i : Nat)), some (mI i), o] [] (hR w s) 0 0 := by
    intro k
    induction k with
    | zero =>
      intro i S o hi2 hS
      have : S = B := by rw [← hS]; show S = S + p ^ i * 0; omega
      subst this
      have m1 : S % p < p := Nat.mod_lt _ (by omega)
      have m2 : S % p ≤ S := Nat.mod_le _ _
      have m3 : (S % p + 1) % p < p := Nat.mod_lt _ (by omega)
      refine hK [7] _ _ _ _ _ _ ?_
      conv => whnf
      rw [e48]
      refine And.intro (fun _ => ?_) (fun q => absurd q (by omega))
      conv => whnf
      rw [e2]
      refine And.intro (dv_ok (by omega) (by omega)) ?_
      rw [tmn]
      conv => whnf
      rw [show (((S % p : Nat) : Int) + 1) = ((S % p + 1 : Nat) : Int) by omega]
      refine And.intro (rng_nat (by omega)) ?_
      conv => whnf
      rw [e2]
      refine And.intro (dv_ok (by omega) (by omega)) ?_
      rw [tmn]
      conv => whnf
      rw [e2]
      refine And.intro (dv_ok (by omega) (by omega)) ?_
      rw [tmn]
      conv => whnf
      rw [csub m2]
      refine And.intro (rng_nat (by omega)) ?_
      conv => whnf
      rw [cadd]
      refine And.intro (rng_nat (by omega)) ?_
      exact h2
    | succ k ih =>
      intro i S o hi2 hS
      obtain ⟨g1, g2⟩ := dz_le hS
      have hpi := hple i (by omega)
      have hpi2 := hple (i + 1) (by omega)
      have hpi0 := hpw i
      have m2 : v / p ^ i % p < p := Nat.mod_lt _ (by omega)
      have m4 : (p - v / p ^ i % p) % p < p := Nat.mod_lt _ (by omega)
      have d1 := Nat.div_le_self v (p ^ i)
      refine hK [7] _ _ _ _ _ _ ?_
      conv => whnf
      rw [e48]
      refine And.intro (fun q => absurd q (by omega)) (fun _ => ?_)
      refine And.intro (dv_ok hpi0 (by omega)) ?_
      conv => whnf
      rw [tdn, e2]
      refine And.intro (dv_ok (by omega) (by omega)) ?_
      rw [tmn]
      conv => whnf
      rw [e2, csub (show v / p ^ i % p ≤ p by omega)]
      refine And.intro (rng_nat (by omega)) ?_
      conv => whnf
      rw [e2]
      refine And.intro (dv_ok (by omega) (by omega)) ?_
      rw [tmn]
      conv => whnf
      rw [cmul]
      refine And.intro (rng_nat (by omega)) ?_
      conv => whnf
      rw [cadd]
      refine And.intro (rng_nat (by omega)) ?_
      conv => whnf
      rw [e2, cmul, show p ^ i * p = p ^ (i + 1) from rfl]
      refine And.intro (rng_nat (by omega)) ?_
      refine And.intro (rng_of (by omega) (by omega)) ?_
      exact ih (i + 1) _ _ (by omega) g2
  refine ⟨rfl, hK [7] _ _ _ _ _ _ ?_⟩
  exact loop dg 0 0 none (by omega) (by rw [Nat.pow_zero, Nat.div_one, Nat.div_one, Nat.one_mul, Nat.zero_add, hBd]; rfl)
theorem m_X10_lessLarge (l : Launch) : mm_Met l yX10_lessLarge cX10_lessLarge 6 (some .int) 0 0 0 T_X10_lessLarge := mm_met (E := e_X10_lessLarge) (cd := kX10_lessLarge) s_X10_lessLarge (by decide) kX10_lessLarge_ok (by decide +kernel) (by decide +kernel) (Or.inr (Or.inl ⟨rfl, rfl⟩)) rfl (mm_eok_X10 _) (mm_calls_nil)
