/-! the component: fields above the field -/
def szT (f : Nat) (s : Int) : Int := if 1 ≤ s ∧ fQ f ^ s.toNat ≤ 4096 then ((fQ f ^ s.toNat : Nat) : Int) else -1
def T_X7_sizeOf : Tr := fun av h N _ => ∃ (w : CW) (c : CS) (f : Nat) (s : Int), av = [mR 23, mI s] ∧ h = hC w c ∧ CF0 f c ∧ N (some (mI (szT f s))) h
abbrev e_X7_sizeOf : NE := (ftX7, [], ltX7, [], [], false, 1, (0, 0), [], [], [], true)
set_option maxHeartbeats 4000000 in
theorem s_X7_sizeOf : mm_Spec e_X7_sizeOf kX7_sizeOf 4 T_X7_sizeOf := by
  rintro N X K av h hK ⟨w, c, f, s, rfl, rfl, h0, h2⟩
  have hb := fbase h0.1
  refine ⟨rfl, hK [11] _ _ _ _ _ _ ?_⟩
  refine And.intro (fun q => ?_) (fun q => ?_)
  · obtain ⟨n, rfl⟩ := Int.eq_ofNat_of_zero_le (show 0 ≤ s by omega)
    have e0 : szT f n = if 1 ≤ (n : Int) ∧ fQ f ^ n ≤ 4096 then ((fQ f ^ n : Nat) : Int) else -1 := rfl
    rw [e0] at h2
    have fin : ∀ i : Nat, i ≤ n → (i = n ∨ 4096 < fQ f ^ i) → fQ f ^ i ≤ 110592 → K 39 [some (mR 23), some (mI n), some (mI (fQ f ^ i : Nat)), some (mI i)] [] (hC w c) 0 0 := by
      intro i hi hh hle
      refine hK [] _ _ _ _ _ _ ?_
      refine And.intro (fun q2 => ?_) (fun q2 => ?_)
      · have : fQ f ^ i ≤ fQ f ^ n := Nat.pow_le_pow_right (by omega) hi
        rw [if_neg (by omega)] at h2
        exact h2
      · have : i = n := by omega
        subst this
        rw [if_pos ⟨by omega, by omega⟩] at h2
        exact h2
    have loop : ∀ (k i : Nat), i + k = 13 → i ≤ n → fQ f ^ i ≤ 110592 → K 11 [some (mR 23), some (mI n), some (mI (fQ f ^ i : Nat)), some (mI i)] [] (hC w c) 0 0 := by
      intro k
      induction k with
      | zero =>
        intro i hk hi hle
        have h13 : 2 ^ i ≤ fQ f ^ i := Nat.pow_le_pow_left hb.2.1 i
        have hi13 : i = 13 := by omega
        have e13 : (2 : Nat) ^ 13 = 8192 := by decide
        rw [hi13, e13] at h13
        rw [← hi13] at h13
        refine hK [39] _ _ _ _ _ _ ?_
        refine And.intro (fun q2 => ?_) (fun q2 => ?_)
        · exact fin i hi (by omega) hle
        · refine And.intro (fun _ => ?_) (fun q => absurd q (by omega))
          exact fin i hi (by omega) hle
      | succ k ih =>
        intro i hk hi hle
        refine hK [11, 39] _ _ _ _ _ _ ?_
        refine And.intro (fun q2 => ?_) (fun q2 => ?_)
        · exact fin i hi (by omega) hle
        · refine And.intro (fun q3 => ?_) (fun q3 => ?_)
          · exact fin i hi (by omega) hle
          · have hm : fQ f ^ i * fQ f ≤ 4096 * 27 := Nat.mul_le_mul (by omega) hb.1
            conv => whnf
            rw [h0.2.2.2, cmul, show fQ f ^ i * fQ f = fQ f ^ (i + 1) from rfl]
            rw [show fQ f ^ i * fQ f = fQ f ^ (i + 1) from rfl] at hm
            refine And.intro (rng_nat (by omega)) ?_
            refine And.intro (rng_of (by omega) (by omega)) ?_
            exact ih (i + 1) (by omega) (by omega) hm
    exact loop 13 0 (by omega) (by omega) (by rw [Nat.pow_zero]; omega)
  · have e0 : szT f s = -1 := if_neg (by omega)
    rw [e0] at h2
    exact h2
theorem m_X7_sizeOf (l : Launch) : mm_Met l yX7_sizeOf cX7_sizeOf 4 (some .int) 0 0 0 T_X7_sizeOf := mm_met (E := e_X7_sizeOf) (cd := kX7_sizeOf) s_X7_sizeOf (by decide) kX7_sizeOf_ok (by decide +kernel) (by decide +kernel) (Or.inr (Or.inl ⟨rfl, rfl⟩)) rfl (mm_eok_X7 _) (mm_calls_nil)
def T_X7_roots : Tr := fun av h N _ => ∃ (w : CW) (c : CS) (L x d : Nat), av = [mR 23, mI x, mI d] ∧ h = hC w c ∧ x < 4096 ∧ 1 ≤ d ∧ d ≤ 26 ∧ (1 ≤ x → c.2.1 24 (x : Int) = (gt L x : Nat) ∧ gt L x < 4096) ∧ N (some (mI (rt L d x : Nat))) h
abbrev e_X7_roots : NE := (ftX7, [], ltX7, [], [], false, 1, (0, 0), [], [], [], true)
theorem s_X7_roots : mm_Spec e_X7_roots kX7_roots 3 T_X7_roots := by
  rintro N X K av h hK ⟨w, c, L, x, d, rfl, rfl, hx, hd, hd2, hl, h2⟩
  unfold rt at h2
  refine ⟨rfl, hK [] _ _ _ _ _ _ ?_⟩
  refine And.intro (fun q => ?_) (fun q => ?_)
  · have hl := hl (by omega)
    rw [if_neg (by omega)] at h2
    refine And.intro (by omega) ?_
    conv => whnf
    rw [hl.1]
    refine And.intro (dv_ok (by omega) (by omega)) ?_
    rw [tmn]
    refine And.intro (fun q2 => ?_) (fun q2 => ?_)
    · rw [if_neg (by omega)] at h2
      exact h2
    · rw [if_pos (by omega)] at h2
      exact h2
  · rw [if_pos (by omega)] at h2
    exact h2
theorem m_X7_roots (l : Launch) : mm_Met l yX7_roots cX7_roots 3 (some .int) 0 0 0 T_X7_roots := mm_met (E := e_X7_roots) (cd := kX7_roots) s_X7_roots (by decide) kX7_roots_ok (by decide +kernel) (by decide +kernel) (Or.inr (Or.inl ⟨rfl, rfl⟩)) rfl (mm_eok_X7 _) (mm_calls_nil)
def LGc (f s : Nat) (c : CS) : Prop := CF f c ∧ c.1 10 = ((fQ f ^ s : Nat) : Int) ∧ 1 ≤ s ∧ fQ f ^ s ≤ 4096
def T_X7_oneLess : Tr := fun av h N _ => ∃ (w : CW) (c : CS) (f s x : Nat), av = [mR 23, mI x] ∧ h = hC w c ∧ LGc f s c ∧ x < fQ f ^ s ∧ N (some (mI (oLs f s x : Nat))) h
abbrev e_X7_oneLess : NE := (ftX7, [(39, (3, 0, 0, false, (0, 1), T_X1_minus))], ltX7, [], [], false, 1, (0, 0), [], [], [], true)
theorem oLs_lt {f s x : Nat} (hf : f < 15) (h1 : 1 ≤ s) : oLs f s x < fQ f ^ s := by
  have hb := fbase hf
  obtain ⟨n, rfl⟩ : ∃ n, s = n + 1 := ⟨s - 1, by omega⟩
  have h1 := fsum_lt hf (show 1 < fQ f by omega) (fneg_lt hf (Nat.mod_lt x (show 0 < fQ f by omega)))
  have h2 := dz_lt (g := fun r _ => fsum f 0 (fneg f r)) (p := fQ f) (by omega) (fun r b hr _ => fsum_lt hf (by omega) (fneg_lt hf hr)) n (x / fQ f) 0
  have h3 : fQ f * (dz (fun r _ => fsum f 0 (fneg f r)) (fQ f) n (x / fQ f) 0 + 1) ≤ fQ f * fQ f ^ n := Nat.mul_le_mul_left _ h2
  unfold oLs
  rw [Nat.add_sub_cancel, Nat.pow_succ, Nat.mul_comm (fQ f ^ n) (fQ f)]
  rw [Nat.mul_add] at h3
  omega
set_option maxHeartbeats 4000000 in
theorem s_X7_oneLess : mm_Spec e_X7_oneLess kX7_oneLess 4 T_X7_oneLess := by
  rintro N X K av h hK ⟨w, c, f, s, x, rfl, rfl, ⟨hF, h10, hs1, hle⟩, hx, h2⟩
  have hf := hF.1.1
  have hb := fbase hf
  have h0 := hF.1
  have hq := h0.2.2.2
  have hpw : ∀ i, 0 < fQ f ^ i := fun i => Nat.pow_pos (by omega)
  have hple : ∀ i, i ≤ s → fQ f ^ i ≤ 4096 := fun i hi => Nat.le_trans (Nat.pow_le_pow_right (by omega) hi) hle
  have hB := oLs_lt (x := x) hf hs1
  obtain ⟨B, hBd⟩ : ∃ B, B = oLs f s x := ⟨_, rfl⟩
  rw [← hBd] at h2 hB
  have loop : ∀ (k i S : Nat), i + k = s → 1 ≤ i → S + fQ f ^ i * dz (fun r _ => fsum f 0 (fneg f r)) (fQ f) k (x / fQ f ^ i) (0 / fQ f ^ i) = B → K 26 [some (mR 23), some (mI x), some (mI S), some (mI (fQ f ^ i : Nat))] [] (hC w c) 0 0 := by
    intro k
    induction k with
    | zero =>
      intro i S hk hi hS
      have e1 : S = B := by rw [← hS]; show S = S + fQ f ^ i * 0; omega
      have e2 : i = s := by omega
      subst e1 e2
      refine hK [26] _ _ _ _ _ _ ?_
      conv => whnf
      rw [h10]
      refine And.intro (fun _ => ?_) (fun q => absurd q (by omega))
      exact h2
    | succ k ih =>
      intro i S hk hi hS
      obtain ⟨g1, g2⟩ := dz_le hS
      have hlt : fQ f ^ i < fQ f ^ s := Nat.pow_lt_pow_right (by omega) (by omega)
      have hpi := hple i (by omega)
      have hpi2 := hple (i + 1) (by omega)
      have hpi0 := hpw i
      have m2 : x / fQ f ^ i % fQ f < fQ f := Nat.mod_lt _ (by omega)
      have d1 := Nat.div_le_self x (fQ f ^ i)
      have m3 := fsum_lt hf (show 0 < fQ f by omega) (fneg_lt hf m2)
      refine hK [26] _ _ _ _ _ _ ?_
      conv => whnf
      rw [h10]
      refine And.intro (fun q => absurd q (by omega)) (fun _ => ?_)
      refine And.intro (dv_ok hpi0 (by omega)) ?_
      conv => whnf
      rw [tdn, hq]
      refine And.intro (dv_ok (by omega) (by omega)) ?_
      rw [tmn]
      refine ⟨w, c, f, 0, x / fQ f ^ i % fQ f, rfl, rfl, h0, hF.2.1, hF.2.2.1, by omega, m2, ?_⟩
      conv => whnf
      rw [cmul]
      refine And.intro (rng_nat (by omega)) ?_
      conv => whnf
      rw [cadd]
      refine And.intro (rng_nat (by omega)) ?_
      conv => whnf
      rw [hq, cmul, show fQ f ^ i * fQ f = fQ f ^ (i + 1) from rfl]
      refine And.intro (rng_nat (by omega)) ?_
      exact ih (i + 1) _ (by omega) (by omega) g2
  have m1 : x % fQ f < fQ f := Nat.mod_lt _ (by omega)
  refine ⟨rfl, hK [26] _ _ _ _ _ _ ?_⟩
  conv => whnf
  rw [hq]
  refine And.intro (dv_ok (by omega) (by omega)) ?_
  rw [tmn]
  refine ⟨w, c, f, 1, x % fQ f, rfl, rfl, h0, hF.2.1, hF.2.2.1, by omega, m1, ?_⟩
  have h3 := loop (s - 1) 1 (fsum f 1 (fneg f (x % fQ f))) (by omega) (by omega) (by rw [Nat.pow_one, Nat.zero_div, hBd]; rfl)
  conv => whnf
  rw [hq]
  rw [Nat.pow_one] at h3
  exact h3
theorem m_X7_oneLess (l : Launch) : mm_Met l yX7_oneLess cX7_oneLess 4 (some .int) 2 0 0 T_X7_oneLess := mm_met (E := e_X7_oneLess) (cd := kX7_oneLess) s_X7_oneLess (by decide) kX7_oneLess_ok (by decide +kernel) (by decide +kernel) (Or.inr (Or.inl ⟨rfl, rfl⟩)) rfl (mm_eok_X7 _) (mm_calls_cons (mm_cbv wi_X1_minus (tb5 (i := 56) rfl rfl) (m_X1_minus l) (by decide) (by decide) rfl) (mm_calls_nil))
theorem tT_lt {f s low x : Nat} (hf : f < 15) (hx : x < fQ f ^ s) (h1 : 1 ≤ s) : tT f s low x < fQ f ^ s := by
  have hb := fbase hf
  obtain ⟨n, rfl⟩ : ∃ n, s = n + 1 := ⟨s - 1, by omega⟩
  have ht : x / fQ f ^ n < fQ f := (Nat.div_lt_iff_lt_mul (Nat.pow_pos (by omega))).mpr (by rw [Nat.pow_succ] at hx; rw [Nat.mul_comm]; exact hx)
  exact dz_lt (by omega) (fun r b hr hb2 => fsum_lt hf hr (fprd_lt hf ht hb2)) _ _ _
def T_X7_timesT : Tr := fun av h N _ => ∃ (w : CW) (c : CS) (f s low x : Nat), av = [mR 23, mI x, mI low] ∧ h = hC w c ∧ LGc f s c ∧ x < fQ f ^ s ∧ low < fQ f ^ s ∧ N (some (mI (tT f s low x : Nat))) h
abbrev e_X7_timesT : NE := (ftX7, [(55, (3, 0, 0, false, (0, 1), T_X1_times)), (58, (3, 0, 0, false, (0, 1), T_X1_plus))], ltX7, [], [], false, 1, (0, 0), [], [], [], true)
set_option maxHeartbeats 4000000 in
theorem s_X7_timesT : mm_Spec e_X7_timesT kX7_timesT 9 T_X7_timesT := by
  rintro N X K av h hK ⟨w, c, f, s, low, x, rfl, rfl, ⟨hF, h10, hs1, hle⟩, hx, hlow, h2⟩
  have hf := hF.1.1
  have hb := fbase hf
  have h0 := hF.1
  have hq := h0.2.2.2
  have hpw : ∀ i, 0 < fQ f ^ i := fun i => Nat.pow_pos (by omega)
  have hple : ∀ i, i ≤ s → fQ f ^ i ≤ 4096 := fun i hi => Nat.le_trans (Nat.pow_le_pow_right (by omega) hi) hle
  have hB := tT_lt (low := low) hf hx hs1
  obtain ⟨n, rfl⟩ : ∃ n, s = n + 1 := ⟨s - 1, by omega⟩
  have ht : x / fQ f ^ n < fQ f := (Nat.div_lt_iff_lt_mul (hpw n)).mpr (by rw [Nat.pow_succ] at hx; rw [Nat.mul_comm]; exact hx)
  have hr : x % fQ f ^ n * fQ f < fQ f ^ (n + 1) := by rw [Nat.pow_succ]; exact Nat.mul_lt_mul_of_pos_right (Nat.mod_lt _ (hpw n)) (by omega)
  have eo : tT f (n + 1) low x = dz (fun r b => fsum f r (fprd f (x / fQ f ^ n) b)) (fQ f) (n + 1) (x % fQ f ^ n * fQ f) low := rfl
  rw [eo] at h2 hB
  obtain ⟨top, hto⟩ : ∃ t, t = x / fQ f ^ n := ⟨_, rfl⟩
  obtain ⟨R, hRd⟩ : ∃ t, t = x % fQ f ^ n * fQ f := ⟨_, rfl⟩
  rw [← hto] at ht h2 hB
  rw [← hRd] at hr h2 hB
  obtain ⟨B, hBd⟩ : ∃ B, B = dz (fun r b => fsum f r (fprd f top b)) (fQ f) (n + 1) R low := ⟨_, rfl⟩
  rw [← hBd] at h2 hB
  have loop : ∀ (k i S : Nat) (o8 : Option MV), i + k = n + 1 → S + fQ f ^ i * dz (fun r b => fsum f r (fprd f top b)) (fQ f) k (R / fQ f ^ i) (low / fQ f ^ i) = B → K 37 [some (mR 23), some (mI x), some (mI low), some (mI (fQ f ^ n : Nat)), some (mI top), some (mI R), some (mI S), some (mI (fQ f ^ i : Nat)), o8] [] (hC w c) 0 0 := by
    intro k
    induction k with
    | zero =>
      intro i S o8 hk hS
      have e1 : S = B := by rw [← hS]; show S = S + fQ f ^ i * 0; omega
      have e2 : i = n + 1 := by omega
      subst e1 e2
      refine hK [37] _ _ _ _ _ _ ?_
      conv => whnf
      rw [h10]
      refine And.intro (fun _ => ?_) (fun q => absurd q (by omega))
      exact h2
    | succ k ih =>
      intro i S o8 hk hS
      obtain ⟨g1, g2⟩ := dz_le hS
      have hlt : fQ f ^ i < fQ f ^ (n + 1) := Nat.pow_lt_pow_right (by omega) (by omega)
      have hpi := hple i (by omega)
      have hpi2 := hple (i + 1) (by omega)
      have hpi0 := hpw i
      have m1 : low / fQ f ^ i % fQ f < fQ f := Nat.mod_lt _ (by omega)
      have m2 : R / fQ f ^ i % fQ f < fQ f := Nat.mod_lt _ (by omega)
      have d1 := Nat.div_le_self low (fQ f ^ i)
      have d2 := Nat.div_le_self R (fQ f ^ i)
      have m3 := fprd_lt hf ht m1
      refine hK [37] _ _ _ _ _ _ ?_
      conv => whnf
      rw [h10]
      refine And.intro (fun q => absurd q (by omega)) (fun _ => ?_)
      refine And.intro (dv_ok hpi0 (by omega)) ?_
      conv => whnf
      rw [tdn, hq]
      refine And.intro (dv_ok (by omega) (by omega)) ?_
      rw [tmn]
      refine ⟨w, c, f, top, low / fQ f ^ i % fQ f, rfl, rfl, h0, hF.2.2.2.1, ht, m1, ?_⟩
      refine And.intro (dv_ok hpi0 (by omega)) ?_
      conv => whnf
      rw [tdn, hq]
      refine And.intro (dv_ok (by omega) (by omega)) ?_
      rw [tmn]
      refine ⟨w, c, f, R / fQ f ^ i % fQ f, fprd f top (low / fQ f ^ i % fQ f), rfl, rfl, h0, hF.2.1, m2, m3, ?_⟩
      conv => whnf
      rw [cmul]
      refine And.intro (rng_nat (by omega)) ?_
      conv => whnf
      rw [cadd]
      refine And.intro (rng_nat (by omega)) ?_
      conv => whnf
      rw [hq, cmul, show fQ f ^ i * fQ f = fQ f ^ (i + 1) from rfl]
      refine And.intro (rng_nat (by omega)) ?_
      exact ih (i + 1) _ _ (by omega) g2
  have e1 : fQ f ^ (n + 1) / fQ f = fQ f ^ n := by rw [Nat.pow_succ, Nat.mul_div_cancel _ (by omega)]
  have hpn := hple n (by omega)
  have hpn0 := hpw n
  refine ⟨rfl, hK [37] _ _ _ _ _ _ ?_⟩
  conv => whnf
  rw [h10, hq]
  refine And.intro (dv_ok (by omega) (by omega)) ?_
  rw [tdn]
  conv => whnf
  rw [e1]
  refine And.intro (dv_ok hpn0 (by omega)) ?_
  rw [tdn]
  refine And.intro (dv_ok hpn0 (by omega)) ?_
  conv => whnf
  rw [tmn, hq, cmul, ← hto, ← hRd]
  refine And.intro (rng_nat (by omega)) ?_
  have h3 := loop (n + 1) 0 0 none (by omega) (by rw [Nat.pow_zero, Nat.div_one, Nat.div_one, Nat.one_mul, Nat.zero_add, hBd])
  exact h3
theorem m_X7_timesT (l : Launch) : mm_Met l yX7_timesT cX7_timesT 9 (some .int) 1 0 0 T_X7_timesT := mm_met (E := e_X7_timesT) (cd := kX7_timesT) s_X7_timesT (by decide) kX7_timesT_ok (by decide +kernel) (by decide +kernel) (Or.inr (Or.inl ⟨rfl, rfl⟩)) rfl (mm_eok_X7 _) (mm_calls_cons (mm_cbv wi_X1_times (tb5 (i := 46) rfl rfl) (m_X1_times l) (by decide) (by decide) rfl) (mm_calls_cons (mm_cbv wi_X1_plus (tb5 (i := 47) rfl rfl) (m_X1_plus l) (by decide) (by decide) rfl) (mm_calls_nil)))
theorem cit_lt {f s low : Nat} (hf : f < 15) (hs : 1 ≤ s) : ∀ n, itr (tT f s low) n 1 < fQ f ^ s
  | 0 => Nat.one_lt_pow (by omega) (by have := fbase hf; omega)
  | n + 1 => tT_lt hf (cit_lt hf hs n) hs
def T_X7_walkPowers : Tr := fun av h N _ => ∃ (w : CW) (c : CS) (f s low : Nat), av = [mR 23, mI low] ∧ h = hC w c ∧ LGc f s c ∧ low < fQ f ^ s ∧ (gcW (tT f s low) (fQ f ^ s - 1) → ∀ i j, i < fQ f ^ s - 1 → j < fQ f ^ s - 1 → itr (tT f s low) i 1 = itr (tT f s low) j 1 → i = j) ∧ ∀ A : Int → Int, (gcW (tT f s low) (fQ f ^ s - 1) → (∀ n : Nat, n < fQ f ^ s - 1 → A (itr (tT f s low) n 1 : Nat) = (n : Int)) → N (some (mI 1)) (hC w (kA c 24 A))) ∧ (¬ gcW (tT f s low) (fQ f ^ s - 1) → N (some (mI 0)) (hC w (kA c 24 A)))
abbrev e_X7_walkPowers : NE := (ftX7, [(52, (3, 0, 0, false, (0, 7), T_X7_timesT))], ltX7, [], [], false, 2, (0, 0), [], [], [], true)
set_option maxHeartbeats 4000000 in
theorem s_X7_walkPowers : mm_Spec e_X7_walkPowers kX7_walkPowers 4 T_X7_walkPowers := by
  rintro N X K av h hK ⟨w, c, f, s, low, rfl, rfl, ⟨hF, h10, hs1, hle⟩, hlow, hinj, h2⟩
  have hf := hF.1.1
  have hb := fbase hf
  obtain ⟨st, hst⟩ : ∃ st, st = tT f s low := ⟨_, rfl⟩
  have hlt : ∀ n, itr st n 1 < fQ f ^ s := fun n => by rw [hst]; exact cit_lt hf hs1 n
  have h1p : 1 < fQ f ^ s := Nat.one_lt_pow (by omega) (by omega)
  obtain ⟨m, hm⟩ : ∃ m, m = fQ f ^ s - 1 := ⟨_, rfl⟩
  rw [← hst, ← hm] at h2 hinj
  have e10 : ∀ A : Int → Int, (kA c 24 A).1 10 = ((fQ f ^ s : Nat) : Int) := fun _ => h10
  have loop : ∀ i : Nat, i ≤ m → ∀ A : Int → Int, (∀ j, 0 < j → j ≤ i → itr st j 1 ≠ 1) → (gcW st m → ∀ n : Nat, n < i → A (itr st n 1 : Nat) = (n : Int)) → K 4 [some (mR 23), some (mI low), some (mI (itr st i 1 : Nat)), some (mI i)] [] (hC w (kA c 24 A)) 0 0 := by
    refine mm_for m (fun A hA1 hA2 => ?_) (fun i hi ih A hA1 hA2 => ?_)
    · refine hK [4] _ _ _ _ _ _ ?_
      conv => whnf
      rw [e10]
      refine And.intro (rng_of (by omega) (by omega)) ?_
      refine And.intro (fun _ => ?_) (fun q => absurd q (by omega))
      refine And.intro (Or.inl rfl) ?_
      exact (h2 A).2 (fun z => hA1 m (by omega) (by omega) z.1)
    · have := hlt i
      have hA3 : gcW st m → ∀ n : Nat, n < i + 1 → mm_upd A ((itr st i 1 : Nat) : Int) (i : Int) (itr st n 1 : Nat) = (n : Int) := fun hg n hn => by
        unfold mm_upd
        by_cases q : n = i
        · rw [q, if_pos rfl]
        · rw [if_neg (fun z => q (hinj hg n i (by omega) hi (by omega)))]
          exact hA2 hg n (by omega)
      refine hK [4] _ _ _ _ _ _ ?_
      conv => whnf
      rw [e10]
      refine And.intro (rng_of (by omega) (by omega)) ?_
      refine And.intro (fun q => absurd q (by omega)) (fun _ => ?_)
      refine And.intro (by omega) ?_
      refine ⟨w, kA c 24 (mm_upd A ((itr st i 1 : Nat) : Int) (i : Int)), f, s, low, itr st i 1, rfl, rfl, ⟨CF_fr hF (FC_A (I := []) (A := [24]) (L := []) (FC_rf c) rfl) rfl rfl, h10, hs1, hle⟩, hlt i, hlow, ?_⟩
      rw [← hst]
      refine And.intro (fun q => ?_) (fun q => ?_)
      · refine And.intro (rng_of (by omega) (by omega)) ?_
        refine ih (mm_upd A ((itr st i 1 : Nat) : Int) (i : Int)) (fun j h3 h4 => ?_) hA3
        by_cases e : j = i + 1
        · rw [e]
          intro z
          exact q (by show ((itr st (i + 1) 1 : Nat) : Int) = 1; rw [z]; rfl)
        · exact hA1 j h3 (by omega)
      · have q1 : itr st (i + 1) 1 = 1 := by
          have : ((itr st (i + 1) 1 : Nat) : Int) = 1 := q
          omega
        conv => whnf
        rw [e10]
        refine And.intro (rng_of (by omega) (by omega)) ?_
        refine And.intro (fun q2 => ?_) (fun q2 => ?_)
        · refine And.intro (Or.inl rfl) ?_
          exact (h2 (mm_upd A ((itr st i 1 : Nat) : Int) (i : Int))).2 (fun z => z.2 (i + 1) (by omega) (by omega) q1)
        · refine And.intro (Or.inr rfl) ?_
          have e : i + 1 = m := by omega
          have hg : gcW st m := ⟨by rw [← e]; exact q1, fun j h3 h4 => hA1 j h3 (by omega)⟩
          exact (h2 (mm_upd A ((itr st i 1 : Nat) : Int) (i : Int))).1 hg (fun n hn => hA3 hg n (by omega))
  refine ⟨rfl, hK [4] _ _ _ _ _ _ ?_⟩
  exact loop 0 (by omega) (c.2.1 24) (fun j h3 h4 => by omega) (fun _ n hn => by omega)
theorem m_X7_walkPowers (l : Launch) : mm_Met l yX7_walkPowers cX7_walkPowers 4 (some .boolean) 2 0 0 T_X7_walkPowers := mm_met (E := e_X7_walkPowers) (cd := kX7_walkPowers) s_X7_walkPowers (by decide) kX7_walkPowers_ok (by decide +kernel) (by decide +kernel) (Or.inr (Or.inr (Or.inl ⟨rfl, rfl⟩))) rfl (mm_eok_X7 _) (mm_calls_cons (mm_cbv wi_X7_timesT (tb5 (i := 42) rfl rfl) (m_X7_timesT l) (by decide) (by decide) rfl) (mm_calls_nil))
theorem lo_c : (List.range 15).all (fun f => (List.range 13).all (fun s => Nat.beq s 0 || (!(Nat.ble (fQ f ^ s) 4096) || (Nat.blt (cLo f s) (fQ f ^ s) && (Nat.blt 0 (cLo f s) && !(Nat.beq (cLo f s % fQ f) 0)))))) = true := by decide +kernel
theorem lo_lt {f s : Nat} (hf : f < 15) (h1 : 1 ≤ s) (hq : fQ f ^ s ≤ 4096) : cLo f s < fQ f ^ s ∧ 0 < cLo f s ∧ cLo f s % fQ f ≠ 0 := by
  have h12 := s_12 hf hq
  have h := List.all_eq_true.mp (List.all_eq_true.mp lo_c f (List.mem_range.mpr hf)) s (List.mem_range.mpr (by omega))
  rw [beq_f (by omega), Nat.ble_eq_true_of_le hq] at h
  have h : (Nat.blt (cLo f s) (fQ f ^ s) && (Nat.blt 0 (cLo f s) && !(Nat.beq (cLo f s % fQ f) 0))) = true := h
  rw [Bool.and_eq_true, Bool.and_eq_true] at h
  refine ⟨mm_blt_t h.1, mm_blt_t h.2.1, fun z => ?_⟩
  rw [z] at h
  exact absurd h.2.2 (by decide)
theorem fQ_c : (List.range 15).all (fun f => (List.range 15).all (fun g => Nat.beq f g || !(Nat.beq (fQ f) (fQ g)))) = true := by decide +kernel
theorem fQ_inj {f g : Nat} (hf : f < 15) (hg : g < 15) (h : fQ f = fQ g) : f = g := by
  have h2 := List.all_eq_true.mp (List.all_eq_true.mp fQ_c f (List.mem_range.mpr hf)) g (List.mem_range.mpr hg)
  rw [h, Nat.beq_refl, Bool.or_eq_true] at h2
  rcases h2 with h2 | h2
  · exact Nat.eq_of_beq_eq_true h2
  · cases h2
theorem WL_inj {st : Nat → Nat} {P L m : Nat} (h : WL st P L m) : ∀ i j, i < m → j < m → itr st i 1 = itr st j 1 → i = j := fun i j hi hj e => by
  rw [h.1 i (by omega), h.1 j (by omega)] at e
  rw [← (h.2.2.1 i hi).1, ← (h.2.2.1 j hj).1, e]
theorem gd_gc {st : Nat → Nat} {m : Nat} (h : gdW st m) : gcW st m := ⟨h.1, fun i h1 h2 => by have := h.2 i h1 h2; omega⟩
def T_X7_fillLogs : Tr := fun av h N _ => ∃ (w : CW) (c : CS) (f s : Nat), av = [mR 23] ∧ h = hC w c ∧ LGc f s c ∧ 1 ≤ f ∧ TW c ∧ ∀ c' : CS, FC [11, 12] [24] [] c c' → c'.1 11 = (fQ f : Nat) → c'.1 12 = ((fQ f ^ s : Nat) : Int) → (∀ n : Nat, n < fQ f ^ s - 1 → c'.2.1 24 (cw f s (cLo f s) n : Nat) = (n : Int)) → N none (hC w c')
abbrev e_X7_fillLogs : NE := (ftX7, [(48, (2, 0, 0, false, (0, 7), T_X7_walkPowers))], ltX7, [], [], false, 0, (0, 0), [], [], [], true)
set_option maxHeartbeats 4000000 in
theorem s_X7_fillLogs : mm_Spec e_X7_fillLogs kX7_fillLogs 2 T_X7_fillLogs := by
  rintro N X K av h hK ⟨w, c, f, s, rfl, rfl, ⟨hF, h10, hs1, hle⟩, hf1, hTW, h2⟩
  have hf := hF.1.1
  have hb := fbase hf
  have hq := hF.1.2.2.2
  obtain ⟨v1, v2, -⟩ := lc_all hf hf1 hs1 hle
  have hlo := lo_lt hf hs1 hle
  have h1p : 1 < fQ f ^ s := Nat.one_lt_pow (by omega) (by omega)
  obtain ⟨c1, hc1⟩ : ∃ c1, c1 = kI (kI c 11 (fQ f : Nat)) 12 ((fQ f ^ s : Nat) : Int) := ⟨_, rfl⟩
  have hFc : FC [11, 12] [24] [] c c1 := by rw [hc1]; exact FC_I (FC_I (FC_rf c) rfl) rfl
  have c10 : ∀ A : Int → Int, (kA c1 24 A).1 10 = ((fQ f ^ s : Nat) : Int) := fun A => by rw [hc1]; exact h10
  have cq : ∀ A : Int → Int, (kA c1 24 A).1 3 = (fQ f : Nat) := fun A => by rw [hc1]; exact hq
  have loop : ∀ (k low : Nat) (A : Int → Int), low + k = cLo f s → 1 ≤ low → K 47 [some (mR 23), some (mI low)] [] (hC w (kA c1 24 A)) 0 0 := by
    intro k
    induction k with
    | zero =>
      intro low A hk h1
      have : low = cLo f s := by omega
      subst this
      have gg := gd_gc (WL_gd v1 (by omega))
      refine hK [] _ _ _ _ _ _ ?_
      conv => whnf
      rw [c10]
      refine And.intro (fun q => absurd q (by omega)) (fun _ => ?_)
      conv => whnf
      rw [cq]
      refine And.intro (dv_ok (by omega) (by omega)) ?_
      rw [tmn]
      refine And.intro (fun q => absurd q (by omega)) (fun _ => ?_)
      refine ⟨w, kA c1 24 A, f, s, cLo f s, rfl, rfl, ⟨CF_fr hF (FC_A (c' := c1) hFc rfl) rfl rfl, c10 A, hs1, hle⟩, hlo.1, fun _ => WL_inj v1, fun A' => ⟨fun hg hA => ?_, fun hn => absurd gg hn⟩⟩
      refine And.intro (fun q => absurd q (by omega)) (fun _ => ?_)
      refine h2 (kA c1 24 A') (FC_A hFc rfl) (by rw [hc1]; rfl) (by rw [hc1]; rfl) (fun n hn => ?_)
      rw [cw_itr]
      exact hA n hn
    | succ k ih =>
      intro low A hk h1
      refine hK [47] _ _ _ _ _ _ ?_
      conv => whnf
      rw [c10]
      refine And.intro (fun q => absurd q (by omega)) (fun _ => ?_)
      conv => whnf
      rw [cq]
      refine And.intro (dv_ok (by omega) (by omega)) ?_
      rw [tmn]
      refine And.intro (fun q => ?_) (fun q => ?_)
      · refine And.intro (rng_of (by omega) (by omega)) ?_
        exact ih (low + 1) A (by omega) (by omega)
      · have hn := v2 low h1 (by omega) (by omega)
        refine ⟨w, kA c1 24 A, f, s, low, rfl, rfl, ⟨CF_fr hF (FC_A (c' := c1) hFc rfl) rfl rfl, c10 A, hs1, hle⟩, by omega, fun hg => absurd hg hn, fun A' => ⟨fun hg => absurd hg hn, fun _ => ?_⟩⟩
        refine And.intro (fun _ => ?_) (fun q => absurd q (by omega))
        refine And.intro (rng_of (by omega) (by omega)) ?_
        exact ih (low + 1) A' (by omega) (by omega)
  have start : ∀ o : Option MV, K 26 [some (mR 23), o] [] (hC w c) 0 0 := by
    intro o
    refine hK [47] _ _ _ _ _ _ ?_
    conv => whnf
    have h3 := loop (cLo f s - 1) 1 (c1.2.1 24) (by omega) (by omega)
    rw [hc1] at h3
    rw [← hq, ← h10] at h3
    exact h3
  refine ⟨rfl, hK [26] _ _ _ _ _ _ ?_⟩
  conv => whnf
  rw [hq]
  refine And.intro (fun q => start none) (fun q => ?_)
  conv => whnf
  rw [h10]
  refine And.intro (fun q2 => start none) (fun q2 => ?_)
  rcases hTW with z | ⟨g, t, hg, ht, hle2, e1, e2, e3⟩
  · omega
  · have eg : g = f := fQ_inj hg hf (by omega)
    subst eg
    have e4 : fQ g ^ t = fQ g ^ s := by omega
    have et : t = s := Nat.le_antisymm ((Nat.pow_le_pow_iff_right (show 1 < fQ g by omega)).mp (Nat.le_of_eq e4)) ((Nat.pow_le_pow_iff_right (show 1 < fQ g by omega)).mp (Nat.le_of_eq e4.symm))
    subst et
    exact h2 c (FC_rf c) (by omega) (by omega) e3
theorem m_X7_fillLogs (l : Launch) : mm_Met l yX7_fillLogs cX7_fillLogs 2 none 3 0 0 T_X7_fillLogs := mm_met (E := e_X7_fillLogs) (cd := kX7_fillLogs) s_X7_fillLogs (by decide) kX7_fillLogs_ok (by decide +kernel) (by decide +kernel) (Or.inl ⟨rfl, rfl⟩) rfl (mm_eok_X7 _) (mm_calls_cons (mm_cbv wi_X7_walkPowers (tb5 (i := 38) rfl rfl) (m_X7_walkPowers l) (by decide) (by decide) rfl) (mm_calls_nil))
def T_X7_ways : Tr := fun av h N _ => ∃ (w : CW) (c : CS) (f s d e : Nat), av = [mR 23, mI d, mI e, mI (fQ f ^ s : Nat)] ∧ h = hC w c ∧ CF f c ∧ TW c ∧ 1 ≤ s ∧ fQ f ^ s ≤ 4096 ∧ 1 ≤ d ∧ (fQ f - 1) % d = 0 ∧ 1 ≤ e ∧ (fQ f - 1) % e = 0 ∧ ∀ c' : CS, FC [10, 11, 12] [24] [] c c' → TW c' → N (some (mI (liX f s d e : Nat))) (hC w c')
abbrev e_X7_ways : NE := (ftX7, [(28, (1, 0, 0, false, (0, 7), T_X7_fillLogs)), (31, (3, 0, 0, false, (0, 7), T_X7_roots)), (35, (2, 0, 0, false, (0, 7), T_X7_oneLess))], ltX7, [], [], false, 1, (0, 0), [], [], [], true)
set_option maxHeartbeats 8000000 in
theorem s_X7_ways : mm_Spec e_X7_ways kX7_ways 6 T_X7_ways := by
  rintro N X K av h hK ⟨w, c, f, s, d, e, rfl, rfl, hF, hTW, hs1, hle, hd, hd2, he, he2, h2⟩
  have hf := hF.1.1
  have hb := fbase hf
  obtain ⟨l1, l2⟩ := li_cmp hf hs1 hle hd hd2 he he2
  have h1p : 1 < fQ f ^ s := Nat.one_lt_pow (by omega) (by omega)
  have dle : d ≤ 26 := Nat.le_trans (Nat.le_of_dvd (by omega) (Nat.dvd_of_mod_eq_zero hd2)) (by omega)
  have ele : e ≤ 26 := Nat.le_trans (Nat.le_of_dvd (by omega) (Nat.dvd_of_mod_eq_zero he2)) (by omega)
  obtain ⟨c1, hc1⟩ : ∃ c1, c1 = kI c 10 ((fQ f ^ s : Nat) : Int) := ⟨_, rfl⟩
  have hFc : FC [10, 11, 12] [24] [] c c1 := by rw [hc1]; exact FC_I (FC_rf c) rfl
  have hF10 : FC [10] [] [] c c1 := by rw [hc1]; exact FC_I (FC_rf c) rfl
  have hT1 : TW c1 := TW_fr hTW hF10 rfl rfl rfl
  have g10 : c1.1 10 = ((fQ f ^ s : Nat) : Int) := by rw [hc1]; rfl
  have short : d = 1 ∨ e = 1 → K 15 [some (mR 23), some (mI d), some (mI e), some (mI (fQ f ^ s : Nat)), none, none] [] (hC w c1) 0 0 := by
    intro hh
    refine hK [] _ _ _ _ _ _ ?_
    conv => whnf
    rw [g10]
    have h3 := h2 c1 hFc hT1
    rw [l1 hh] at h3
    exact h3
  have long : ¬ (d = 1 ∨ e = 1) → K 20 [some (mR 23), some (mI d), some (mI e), some (mI (fQ f ^ s : Nat)), none, none] [] (hC w c1) 0 0 := by
    intro hh
    obtain ⟨hf1, l2⟩ := l2 hh
    obtain ⟨v1, v2, -⟩ := lc_all hf hf1 hs1 hle
    obtain ⟨m, hm⟩ : ∃ m, m = fQ f ^ s - 1 := ⟨_, rfl⟩
    have hmq : fQ f ^ s = m + 1 := by omega
    rw [← hm] at v1 l2
    refine hK [30] _ _ _ _ _ _ ?_
    refine ⟨w, c1, f, s, rfl, rfl, ⟨CF_fr hF hF10 rfl rfl, g10, hs1, hle⟩, hf1, hT1, fun c2 hF2 e11 e12 e24 => ?_⟩
    have k10 : c2.1 10 = ((m + 1 : Nat) : Int) := by rw [hF2.1 10 rfl, g10, hmq]
    have hFc2 : FC [10, 11, 12] [24] [] c c2 := FC_tr hFc hF2 rfl rfl rfl
    have hT2 : TW c2 := Or.inr ⟨f, s, hf, hs1, hle, e11, e12, e24⟩
    have hG2 : LGc f s c2 := ⟨CF_fr hF hFc2 rfl rfl, by rw [k10, hmq], hs1, hle⟩
    have hlg : ∀ x : Nat, x ≤ m → 1 ≤ x → c2.2.1 24 (x : Int) = (gt (cLg f s) x : Nat) ∧ gt (cLg f s) x < 4096 := fun x hx h1 => by
      obtain ⟨u1, u2⟩ := v1.2.2.2 x h1 hx
      have h3 := e24 (gt (cLg f s) x) (by omega)
      rw [cw_itr, v1.1 _ (by omega), u2] at h3
      exact ⟨h3, by omega⟩
    have loop : ∀ i : Nat, i ≤ m + 1 → K 30 [some (mR 23), some (mI d), some (mI e), some (mI (fQ f ^ s : Nat)), some (mI (sumN (fun v => rt (cLg f s) d v * rt (cLg f s) e (oLs f s v)) i : Nat)), some (mI i)] [] (hC w c2) 0 0 := by
      refine mm_for (m + 1) ?_ (fun i hi ih => ?_)
      · refine hK [30] _ _ _ _ _ _ ?_
        conv => whnf
        rw [k10]
        refine And.intro (fun _ => ?_) (fun q => absurd q (by omega))
        have h3 := h2 c2 hFc2 hT2
        rw [l2] at h3
        exact h3
      · have r1 : rt (cLg f s) d i ≤ 26 := Nat.le_trans (rt_le (by omega)) dle
        have r2 : rt (cLg f s) e (oLs f s i) ≤ 26 := Nat.le_trans (rt_le (by omega)) ele
        have r3 : rt (cLg f s) d i * rt (cLg f s) e (oLs f s i) ≤ 26 * 26 := Nat.mul_le_mul r1 r2
        have r4 : sumN (fun v => rt (cLg f s) d v * rt (cLg f s) e (oLs f s v)) i ≤ i * (26 * 26) := sumN_le (fun v => Nat.mul_le_mul (Nat.le_trans (rt_le (by omega)) dle) (Nat.le_trans (rt_le (by omega)) ele)) i
        have ol := oLs_lt (x := i) hf hs1
        rw [sumN_s] at ih
        refine hK [30] _ _ _ _ _ _ ?_
        conv => whnf
        rw [k10]
        refine And.intro (fun q => absurd q (by omega)) (fun _ => ?_)
        refine ⟨w, c2, cLg f s, i, d, rfl, rfl, by omega, hd, dle, fun h1 => hlg i (by omega) h1, ?_⟩
        refine ⟨w, c2, f, s, i, rfl, rfl, hG2, by omega, ?_⟩
        refine ⟨w, c2, cLg f s, oLs f s i, e, rfl, rfl, by omega, he, ele, fun h1 => hlg _ (by omega) h1, ?_⟩
        conv => whnf
        rw [cmul]
        refine And.intro (rng_nat (by omega)) ?_
        conv => whnf
        rw [cadd]
        refine And.intro (rng_nat (by omega)) ?_
        refine And.intro (rng_of (by omega) (by omega)) ?_
        exact ih
    exact loop 0 (by omega)
  refine ⟨rfl, hK [15, 20] _ _ _ _ _ _ ?_⟩
  refine And.intro (fun q => ?_) (fun q => ?_)
  · rw [hc1] at short
    exact short (by omega)
  · refine And.intro (fun q2 => ?_) (fun q2 => ?_)
    · rw [hc1] at long
      exact long (by omega)
    · rw [hc1] at short
      exact short (by omega)
theorem m_X7_ways (l : Launch) : mm_Met l yX7_ways cX7_ways 6 (some .int) 4 0 0 T_X7_ways := mm_met (E := e_X7_ways) (cd := kX7_ways) s_X7_ways (by decide) kX7_ways_ok (by decide +kernel) (by decide +kernel) (Or.inr (Or.inl ⟨rfl, rfl⟩)) rfl (mm_eok_X7 _) (mm_calls_cons (mm_cbv wi_X7_fillLogs (tb5 (i := 34) rfl rfl) (m_X7_fillLogs l) (by decide) (by decide) rfl) (mm_calls_cons (mm_cbv wi_X7_roots (tb5 (i := 48) rfl rfl) (m_X7_roots l) (by decide) (by decide) rfl) (mm_calls_cons (mm_cbv wi_X7_oneLess (tb5 (i := 52) rfl rfl) (m_X7_oneLess l) (by decide) (by decide) rfl) (mm_calls_nil))))
def T_X9_lifted : Tr := fun av h N X => ∃ (M : List ME) (c : CS) (a : AS) (d e s : Int), av = [mR 0, mI d, mI e, mI s] ∧ h = hC (none, M) c ∧ CR a c ∧ CPi M a (xLifted (aF a) d e s) N X
theorem CR_tw {a : AS} {c c' : CS} (h : CR a c) (hF : FC [10, 11, 12] [24] [] c c') (hT : TW c') : CR a c' := by
  obtain ⟨g1, ⟨g2, g3⟩, g4, g6, g7, g8, g10, g11, g12⟩ := h
  refine ⟨g1, ⟨CF_fr g2 hF rfl rfl, CG_fr g3 hF rfl rfl⟩, ⟨?_, ?_, hT⟩, ?_, ?_, ⟨?_, ?_⟩, ?_, ?_, ?_⟩
  · rw [hF.1 4 rfl]; exact g4.1
  · rw [hF.1 5 rfl]; exact g4.2.1
  · intro i t hi ht
    rw [hF.2.2.2]; exact g6 i t hi ht
  · intro x hx
    rw [hF.2.1 16 rfl]; exact g7 x hx
  · rw [hF.1 24 rfl]; exact g8.1
  · intro i hi
    rw [hF.2.1 17 rfl]; exact g8.2 i hi
  · rw [hF.1 25 rfl]; exact g10
  · rw [hF.1 23 rfl]; exact g11
  · intro i hi
    rw [hF.2.1 34 rfl]; exact g12 i hi
abbrev e_X9_lifted : NE := (ftX9, [(276, (2, 0, 0, false, (0, 7), T_X7_sizeOf)), (278, (2, 0, 0, false, (0, 1), T_X1_hasClasses)), (283, (4, 0, 0, false, (0, 7), T_X7_ways))], ltX9, [], [], false, 1, (1, 6), [], [], [(38, xI)], true)
theorem s_X9_lifted : mm_Spec e_X9_lifted kX9_lifted 5 T_X9_lifted := by
  rintro N X K av h hK ⟨M, c, a, d, e, s, rfl, rfl, hc, h2⟩
  have hf := hc.1.1
  have hb := fbase hf
  have h0 := CR_0 hc
  have bad : ¬ ((1 ≤ d ∧ 1 ≤ e ∧ 1 ≤ s ∧ s ≤ 12 ∧ ((fQ (aF a) : Int) - 1) % d = 0 ∧ ((fQ (aF a) : Int) - 1) % e = 0) ∧ fQ (aF a) ^ s.toNat ≤ 4096) → X xI (hC (none, M) c) := fun q => by
    rw [show xLifted (aF a) d e s = (1, 0) from if_neg q] at h2
    exact h2.2 rfl c hc
  refine ⟨rfl, hK [] _ _ _ _ _ _ ?_⟩
  refine ⟨(none, M), c, aF a, s, rfl, rfl, h0, ?_⟩
  by_cases hs : 1 ≤ s ∧ fQ (aF a) ^ s.toNat ≤ 4096
  · rw [show szT (aF a) s = _ from if_pos hs]
    obtain ⟨n, rfl⟩ := Int.eq_ofNat_of_zero_le (show 0 ≤ s by omega)
    have hle : fQ (aF a) ^ n ≤ 4096 := hs.2
    have h12 := s_12 hf hle
    refine And.intro (fun q => absurd q (by omega)) (fun _ => ?_)
    refine ⟨(none, M), c, aF a, d, rfl, rfl, h0, ?_⟩
    refine And.intro (fun q => bad (fun z => bi_c0 q ⟨z.1.1, z.1.2.2.2.2.1⟩)) (fun q => ?_)
    have qd := bi_c1 q
    refine ⟨(none, M), c, aF a, e, rfl, rfl, h0, ?_⟩
    refine And.intro (fun q => ?_) (fun q => bad (fun z => bi_c0 q ⟨z.1.2.1, z.1.2.2.2.2.2⟩))
    have qe := bi_c1 q
    obtain ⟨dn, rfl⟩ := Int.eq_ofNat_of_zero_le (show 0 ≤ d by have := qd.1; omega)
    obtain ⟨en, rfl⟩ := Int.eq_ofNat_of_zero_le (show 0 ≤ e by have := qe.1; omega)
    have y5 : (fQ (aF a) - 1) % dn = 0 := by
      have : (((fQ (aF a) - 1 : Nat) : Int)) % (dn : Int) = 0 := by rw [show ((fQ (aF a) - 1 : Nat) : Int) = (fQ (aF a) : Int) - 1 by omega]; exact qd.2
      omega
    have y6 : (fQ (aF a) - 1) % en = 0 := by
      have : (((fQ (aF a) - 1 : Nat) : Int)) % (en : Int) = 0 := by rw [show ((fQ (aF a) - 1 : Nat) : Int) = (fQ (aF a) : Int) - 1 by omega]; exact qe.2
      omega
    refine ⟨(none, M), c, aF a, n, dn, en, rfl, rfl, hc.2.1.1, hc.2.2.1.2.2, by omega, hle, by have := qd.1; omega, y5, by have := qe.1; omega, y6, fun c' hF' hT' => ?_⟩
    rw [show xLifted (aF a) dn en n = (0, (liX (aF a) n dn en : Int)) from if_pos ⟨⟨qd.1, qe.1, by omega, by omega, qd.2, qe.2⟩, hle⟩] at h2
    exact h2.1 rfl c' (CR_tw hc hF' hT')
  · rw [show szT (aF a) s = _ from if_neg hs]
    refine And.intro (fun _ => ?_) (fun q => absurd q (by omega))
    exact bad (fun z => hs ⟨by omega, z.2⟩)
theorem m_X9_lifted (l : Launch) (hl : l.stackTraces = false) : mm_MetX l yX9_lifted cX9_lifted 5 (some .int) 6 1 6 T_X9_lifted := mm_metX (E := e_X9_lifted) (cd := kX9_lifted) s_X9_lifted (by decide) kX9_lifted_ok (by decide +kernel) (by decide +kernel) (Or.inr (Or.inl ⟨rfl, rfl⟩)) rfl hl (by decide) (by decide +kernel) (mm_eokt (mm_eok_X9 _)) (mm_cz_cons (Or.inl (mm_CQ_of (mm_cbv wi_X7_sizeOf (tb5 (i := 24) rfl rfl) (m_X7_sizeOf l) (by decide) (by decide) rfl))) (mm_cz_cons (Or.inl (mm_CQ_of (mm_cbv wi_X1_hasClasses (tb5 (i := 28) rfl rfl) (m_X1_hasClasses l) (by decide) (by decide) rfl))) (mm_cz_cons (Or.inl (mm_CQ_of (mm_cbv wi_X7_ways (tb5 (i := 30) rfl rfl) (m_X7_ways l) (by decide) (by decide) rfl))) (mm_cz_nil))))
