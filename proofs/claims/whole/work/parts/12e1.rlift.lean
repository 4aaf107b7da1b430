/-! the reference: large fields -/
theorem pow_dv {p i r : Nat} : r / p ^ i / p = r / p ^ (i + 1) := by rw [Nat.div_div_eq_div_mul, Nat.pow_succ]
theorem dz_le {g : Nat → Nat → Nat} {p i k S B r b : Nat} (h : S + p ^ i * dz g p (k + 1) (r / p ^ i) (b / p ^ i) = B) : S + g (r / p ^ i % p) (b / p ^ i % p) * p ^ i ≤ B ∧ (S + g (r / p ^ i % p) (b / p ^ i % p) * p ^ i) + p ^ (i + 1) * dz g p k (r / p ^ (i + 1)) (b / p ^ (i + 1)) = B := by
  rw [dz_s, pow_dv, pow_dv, Nat.mul_add, ← Nat.mul_assoc, show p ^ i * p = p ^ (i + 1) from rfl, Nat.mul_comm (p ^ i) (g _ _)] at h
  omega
def LGr (p dg : Nat) (s : RS) : Prop := s.1 2 = (p : Int) ∧ s.1 47 = ((p ^ dg : Nat) : Int) ∧ s.1 48 = (dg : Int) ∧ 2 ≤ p ∧ p ≤ 23 ∧ 1 ≤ dg ∧ p ^ dg ≤ 4096
theorem onB_lt {p dg its v : Nat} (hp : 2 ≤ p) (hd : 1 ≤ dg) : onB p dg its v < p ^ dg := by
  unfold onB
  split
  · rename_i q
    rw [Nat.eq_of_beq_eq_true q, Nat.pow_one]
    exact Nat.mod_lt _ (by omega)
  · exact dz_lt (by omega) (fun r b _ _ => Nat.mod_lt _ (by omega)) _ _ _
def T_X10_onByOne : Tr := fun av h N _ => ∃ (w : FW) (s : RS) (p dg its v : Nat), av = [mR 1000, mI v, mI its] ∧ h = hR w s ∧ LGr p dg s ∧ v < p ^ dg ∧ its < p ^ dg ∧ N (some (mI (onB p dg its v : Nat))) h
abbrev e_X10_onByOne : NE := (ftX10, [], ltX10, [], [], false, 1, (0, 0), [], [], [], false)
set_option maxHeartbeats 4000000 in
theorem s_X10_onByOne : mm_Spec e_X10_onByOne kX10_onByOne 11 T_X10_onByOne := by
  rintro N X K av h hK ⟨w, s, p, dg, its, v, rfl, rfl, ⟨e2, e47, e48, hp1, hp2, hd, hz⟩, hv, hi, h2⟩
  have hpw : ∀ i, 0 < p ^ i := fun i => Nat.pow_pos (by omega)
  have hple : ∀ i, i ≤ dg → p ^ i ≤ 4096 := fun i hi => Nat.le_trans (Nat.pow_le_pow_right (by omega) hi) hz
  have hB := onB_lt (its := its) (v := v) hp1 hd
  have hdl : dg < p ^ dg := Nat.lt_pow_self (by omega)
  refine ⟨rfl, hK [51] _ _ _ _ _ _ ?_⟩
  conv => whnf
  rw [e48]
  refine And.intro (fun q => ?_) (fun q => ?_)
  · have hd2 : 2 ≤ dg := by omega
    obtain ⟨n, rfl⟩ : ∃ n, dg = n + 1 := ⟨dg - 1, by omega⟩
    have eo : onB p (n + 1) its v = dz (fun r b => (r + (p - v / p ^ n) * b) % p) p (n + 1) (v % p ^ n * p) its := by
      unfold onB
      rw [beq_f (by omega)]
      rfl
    rw [eo] at h2 hB
    have ht : v / p ^ n < p := (Nat.div_lt_iff_lt_mul (hpw n)).mpr (by rw [Nat.pow_succ] at hv; rw [Nat.mul_comm]; exact hv)
    have hr : v % p ^ n * p < p ^ (n + 1) := by rw [Nat.pow_succ]; exact Nat.mul_lt_mul_of_pos_right (Nat.mod_lt _ (hpw n)) (by omega)
    obtain ⟨top, hto⟩ : ∃ t, t = v / p ^ n := ⟨_, rfl⟩
    obtain ⟨R, hRd⟩ : ∃ t, t = v % p ^ n * p := ⟨_, rfl⟩
    rw [← hto] at ht h2 hB
    rw [← hRd] at hr h2 hB
    obtain ⟨B, hBd⟩ : ∃ B, B = dz (fun r b => (r + (p - top) * b) % p) p (n + 1) R its := ⟨_, rfl⟩
    rw [← hBd] at h2 hB
    have loop : ∀ (k i S : Nat) (o9 o10 : Option MV), i + k = n + 1 → S + p ^ i * dz (fun r b => (r + (p - top) * b) % p) p k (R / p ^ i) (its / p ^ i) = B → K 51 [some (mR 1000), some (mI v), some (mI its), some (mI (p ^ n : Nat)), some (mI top), some (mI R), some (mI S), some (mI (p ^ i : Nat)), some (mI i), o9, o10] [] (hR w s) 0 0 := by
      intro k
      induction k with
      | zero =>
        intro i S o9 o10 hi2 hS
        refine hK [51] _ _ _ _ _ _ ?_
        conv => whnf
        rw [e48]
        refine And.intro (fun _ => ?_) (fun q => absurd q (by omega))
        have : S = B := by rw [← hS]; show S = S + p ^ i * 0; omega
        rw [this]
        exact h2
      | succ k ih =>
        intro i S o9 o10 hi2 hS
        obtain ⟨g1, g2⟩ := dz_le hS
        have hpi := hple i (by omega)
        have hpi2 := hple (i + 1) (by omega)
        have hpi0 := hpw i
        have m1 : its / p ^ i % p < p := Nat.mod_lt _ (by omega)
        have m2 : R / p ^ i % p < p := Nat.mod_lt _ (by omega)
        have m3 : (p - top) * (its / p ^ i % p) ≤ 23 * 23 := Nat.mul_le_mul (by omega) (by omega)
        have m4 : ((R / p ^ i % p + (p - top) * (its / p ^ i % p)) % p) < p := Nat.mod_lt _ (by omega)
        have d1 := Nat.div_le_self its (p ^ i)
        have d2 := Nat.div_le_self R (p ^ i)
        refine hK [51] _ _ _ _ _ _ ?_
        conv => whnf
        rw [e48]
        refine And.intro (fun q => absurd q (by omega)) (fun _ => ?_)
        refine And.intro (dv_ok hpi0 (by omega)) ?_
        conv => whnf
        rw [tdn, e2]
        refine And.intro (dv_ok (by omega) (by omega)) ?_
        rw [tmn]
        refine And.intro (dv_ok hpi0 (by omega)) ?_
        conv => whnf
        rw [tdn, e2]
        refine And.intro (dv_ok (by omega) (by omega)) ?_
        rw [tmn]
        conv => whnf
        rw [e2, csub (show top ≤ p by omega)]
        refine And.intro (rng_nat (by omega)) ?_
        conv => whnf
        rw [cmul]
        refine And.intro (rng_nat (by omega)) ?_
        conv => whnf
        rw [cadd]
        refine And.intro (rng_nat (by omega)) ?_
        conv => whnf
        rw [e2]
        refine And.intro (dv_ok (by omega) (by omega)) ?_
        rw [tmn]
        conv => whnf
        rw [cmul]
        refine And.intro (rng_nat (by omega)) ?_
        conv => whnf
        rw [cadd]
        refine And.intro (rng_nat (by omega)) ?_
        conv => whnf
        rw [e2, cmul, show p ^ i * p = p ^ (i + 1) from rfl]
        refine And.intro (rng_nat (by omega)) ?_
        refine And.intro (rng_of (by omega) (by omega)) ?_
        exact ih (i + 1) _ _ _ (by omega) g2
    have e1 : p ^ (n + 1) / p = p ^ n := by rw [Nat.pow_succ, Nat.mul_div_cancel _ (by omega)]
    have hpn := hple n (by omega)
    have hpn0 := hpw n
    conv => whnf
    rw [e47, e2]
    refine And.intro (dv_ok (by omega) (by omega)) ?_
    rw [tdn]
    conv => whnf
    rw [e1]
    refine And.intro (dv_ok hpn0 (by omega)) ?_
    rw [tdn]
    refine And.intro (dv_ok hpn0 (by omega)) ?_
    conv => whnf
    rw [tmn, e2, cmul, ← hto, ← hRd]
    refine And.intro (rng_nat (by omega)) ?_
    have h0 := loop (n + 1) 0 0 none none (by omega) (by rw [Nat.pow_zero, Nat.div_one, Nat.div_one, Nat.one_mul, Nat.zero_add, hBd])
    exact h0
  · have e1 : dg = 1 := by omega
    subst e1
    have hvi : v * its ≤ 4096 * 4096 := Nat.mul_le_mul (by omega) (by omega)
    have eo : onB p 1 its v = v * its % p := rfl
    rw [eo] at h2
    conv => whnf
    rw [cmul]
    refine And.intro (rng_nat (by omega)) ?_
    conv => whnf
    rw [e2]
    refine And.intro (dv_ok (by omega) (by omega)) ?_
    rw [tmn]
    exact h2
theorem m_X10_onByOne (l : Launch) : mm_Met l yX10_onByOne cX10_onByOne 11 (some .int) 0 0 0 T_X10_onByOne := mm_met (E := e_X10_onByOne) (cd := kX10_onByOne) s_X10_onByOne (by decide) kX10_onByOne_ok (by decide +kernel) (by decide +kernel) (Or.inr (Or.inl ⟨rfl, rfl⟩)) rfl (mm_eok_X10 _) (mm_calls_nil)
