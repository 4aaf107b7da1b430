/-! the component's field: what it asks, sums of figures -/
def T_X1_has : Tr := fun av h N _ => ∃ (w : CW) (c : CS) (f : Nat) (x : Int), av = [mR 1, mI x] ∧ h = hC w c ∧ CF0 f c ∧ N (some (mI (bi (okE f x)))) h
abbrev e_X1_has : NE := (ftX1, [], ltX1, [], [], false, 2, (0, 0), [], [], [], true)
theorem s_X1_has : mm_Spec e_X1_has kX1_has 2 T_X1_has := by
  rintro N X K av h hK ⟨w, c, f, x, rfl, rfl, h0, h2⟩
  refine ⟨rfl, hK [] _ _ _ _ _ _ ?_⟩
  refine And.intro (fun q => ?_) (fun q => ?_)
  · rw [bi_f (by omega)] at h2
    exact And.intro (Or.inl rfl) h2
  conv => whnf
  rw [h0.2.2.2]
  refine And.intro (fun q2 => ?_) (fun q2 => ?_)
  · rw [bi_f (by omega)] at h2
    exact And.intro (Or.inl rfl) h2
  · rw [bi_t (by omega)] at h2
    exact And.intro (Or.inr rfl) h2
theorem m_X1_has (l : Launch) : mm_Met l yX1_has cX1_has 2 (some .boolean) 0 0 0 T_X1_has := mm_met (E := e_X1_has) (cd := kX1_has) s_X1_has (by decide) kX1_has_ok (by decide +kernel) (by decide +kernel) (Or.inr (Or.inr (Or.inl ⟨rfl, rfl⟩))) rfl (mm_eok_X1 _) (mm_calls_nil)
def T_X1_hasCharacter : Tr := fun av h N _ => ∃ (w : CW) (c : CS) (f : Nat) (x : Int), av = [mR 1, mI x] ∧ h = hC w c ∧ CF0 f c ∧ N (some (mI (bi (okC f x)))) h
abbrev e_X1_hasCharacter : NE := (ftX1, [], ltX1, [], [], false, 2, (0, 0), [], [], [], true)
theorem s_X1_hasCharacter : mm_Spec e_X1_hasCharacter kX1_hasCharacter 2 T_X1_hasCharacter := by
  rintro N X K av h hK ⟨w, c, f, x, rfl, rfl, h0, h2⟩
  have hb := fbase h0.1
  refine ⟨rfl, hK [] _ _ _ _ _ _ ?_⟩
  refine And.intro (fun q => ?_) (fun q => ?_)
  · rw [bi_f (by omega)] at h2
    exact And.intro (Or.inl rfl) h2
  conv => whnf
  rw [h0.2.2.2]
  refine And.intro (rng_of (by omega) (by omega)) ?_
  refine And.intro (fun q2 => ?_) (fun q2 => ?_)
  · rw [bi_f (by omega)] at h2
    exact And.intro (Or.inl rfl) h2
  · rw [bi_t (by omega)] at h2
    exact And.intro (Or.inr rfl) h2
theorem m_X1_hasCharacter (l : Launch) : mm_Met l yX1_hasCharacter cX1_hasCharacter 2 (some .boolean) 0 0 0 T_X1_hasCharacter := mm_met (E := e_X1_hasCharacter) (cd := kX1_hasCharacter) s_X1_hasCharacter (by decide) kX1_hasCharacter_ok (by decide +kernel) (by decide +kernel) (Or.inr (Or.inr (Or.inl ⟨rfl, rfl⟩))) rfl (mm_eok_X1 _) (mm_calls_nil)
abbrev okK1 (f : Nat) (e : Int) : Prop := 1 ≤ e ∧ ((fQ f : Int) - 1) % e = 0
def T_X1_hasClasses : Tr := fun av h N _ => ∃ (w : CW) (c : CS) (f : Nat) (e : Int), av = [mR 1, mI e] ∧ h = hC w c ∧ CF0 f c ∧ N (some (mI (bi (okK1 f e)))) h
abbrev e_X1_hasClasses : NE := (ftX1, [], ltX1, [], [], false, 2, (0, 0), [], [], [], true)
theorem s_X1_hasClasses : mm_Spec e_X1_hasClasses kX1_hasClasses 2 T_X1_hasClasses := by
  rintro N X K av h hK ⟨w, c, f, e, rfl, rfl, h0, h2⟩
  have hb := fbase h0.1
  refine ⟨rfl, hK [] _ _ _ _ _ _ ?_⟩
  refine And.intro (fun q => ?_) (fun q => ?_)
  · rw [bi_f (fun z => by omega)] at h2
    exact And.intro (Or.inl rfl) h2
  obtain ⟨m, rfl⟩ := Int.eq_ofNat_of_zero_le (show 0 ≤ e by omega)
  conv => whnf
  rw [h0.2.2.2, show (fQ f : Int) - 1 = ((fQ f - 1 : Nat) : Int) by omega]
  refine And.intro (rng_nat (by omega)) ?_
  refine And.intro (dv_ok (by omega) (by omega)) ?_
  rw [tmn]
  have em : ((fQ f : Int) - 1) % (m : Int) = (((fQ f - 1) % m : Nat) : Int) := by rw [show (fQ f : Int) - 1 = ((fQ f - 1 : Nat) : Int) by omega]; rfl
  refine And.intro (fun q2 => ?_) (fun q2 => ?_)
  · rw [bi_f (fun z => q2 (by rw [← em]; exact z.2))] at h2
    exact And.intro (Or.inl rfl) h2
  · rw [bi_t ⟨q, by rw [em]; exact q2⟩] at h2
    exact And.intro (Or.inr rfl) h2
theorem m_X1_hasClasses (l : Launch) : mm_Met l yX1_hasClasses cX1_hasClasses 2 (some .boolean) 0 0 0 T_X1_hasClasses := mm_met (E := e_X1_hasClasses) (cd := kX1_hasClasses) s_X1_hasClasses (by decide) kX1_hasClasses_ok (by decide +kernel) (by decide +kernel) (Or.inr (Or.inr (Or.inl ⟨rfl, rfl⟩))) rfl (mm_eok_X1 _) (mm_calls_nil)
def T_X1_hasClass : Tr := fun av h N _ => ∃ (w : CW) (c : CS) (f : Nat) (e i : Int), av = [mR 1, mI e, mI i] ∧ h = hC w c ∧ CF0 f c ∧ N (some (mI (bi (okK f e i)))) h
abbrev e_X1_hasClass : NE := (ftX1, [(64, (2, 0, 0, false, (0, 1), T_X1_hasClasses))], ltX1, [], [], false, 2, (0, 0), [], [], [], true)
theorem s_X1_hasClass : mm_Spec e_X1_hasClass kX1_hasClass 3 T_X1_hasClass := by
  rintro N X K av h hK ⟨w, c, f, e, i, rfl, rfl, h0, h2⟩
  refine ⟨rfl, hK [] _ _ _ _ _ _ ?_⟩
  refine ⟨w, c, f, e, rfl, rfl, h0, ?_⟩
  refine And.intro (fun q => ?_) (fun q => ?_)
  · rw [bi_f (fun z => bi_c0 q ⟨z.1, z.2.1⟩)] at h2
    exact And.intro (Or.inl rfl) h2
  have q := bi_c1 q
  refine And.intro (fun q2 => ?_) (fun q2 => ?_)
  · rw [bi_f (fun z => absurd z.2.2.1 (by omega))] at h2
    exact And.intro (Or.inl rfl) h2
  refine And.intro (fun q3 => ?_) (fun q3 => ?_)
  · rw [bi_f (fun z => absurd z.2.2.2 (by omega))] at h2
    exact And.intro (Or.inl rfl) h2
  · rw [bi_t ⟨q.1, q.2, q2, q3⟩] at h2
    exact And.intro (Or.inr rfl) h2
theorem m_X1_hasClass (l : Launch) : mm_Met l yX1_hasClass cX1_hasClass 3 (some .boolean) 1 0 0 T_X1_hasClass := mm_met (E := e_X1_hasClass) (cd := kX1_hasClass) s_X1_hasClass (by decide) kX1_hasClass_ok (by decide +kernel) (by decide +kernel) (Or.inr (Or.inr (Or.inl ⟨rfl, rfl⟩))) rfl (mm_eok_X1 _) (mm_calls_cons (mm_cbv wi_X1_hasClasses (tb2 (i := 232) rfl rfl) (m_X1_hasClasses l) (by decide) (by decide) rfl) (mm_calls_nil))
def T_X1_logOf : Tr := fun av h N _ => ∃ (w : CW) (c : CS) (f x : Nat), av = [mR 1, mI x] ∧ h = hC w c ∧ CF0 f c ∧ CFw f c ∧ 1 ≤ x ∧ x < fQ f ∧ N (some (mI (flog f x : Nat))) h
abbrev e_X1_logOf : NE := (ftX1, [], ltX1, [], [], false, 1, (0, 0), [], [], [], true)
theorem s_X1_logOf : mm_Spec e_X1_logOf kX1_logOf 2 T_X1_logOf := by
  rintro N X K av h hK ⟨w, c, f, x, rfl, rfl, h0, hw, hx1, hx, h2⟩
  have hb := fbase h0.1
  rw [← hw.2 x hx1 hx] at h2
  refine ⟨rfl, hK [] _ _ _ _ _ _ ?_⟩
  refine And.intro (by omega) ?_
  exact h2
theorem m_X1_logOf (l : Launch) : mm_Met l yX1_logOf cX1_logOf 2 (some .int) 0 0 0 T_X1_logOf := mm_met (E := e_X1_logOf) (cd := kX1_logOf) s_X1_logOf (by decide) kX1_logOf_ok (by decide +kernel) (by decide +kernel) (Or.inr (Or.inl ⟨rfl, rfl⟩)) rfl (mm_eok_X1 _) (mm_calls_nil)
def T_X1_traceOf : Tr := fun av h N _ => ∃ (w : CW) (c : CS) (f x : Nat), av = [mR 1, mI x] ∧ h = hC w c ∧ CF0 f c ∧ CFt f c ∧ x < fQ f ∧ N (some (mI (ftr f x : Nat))) h
abbrev e_X1_traceOf : NE := (ftX1, [], ltX1, [], [], false, 1, (0, 0), [], [], [], true)
theorem s_X1_traceOf : mm_Spec e_X1_traceOf kX1_traceOf 2 T_X1_traceOf := by
  rintro N X K av h hK ⟨w, c, f, x, rfl, rfl, h0, ht, hx, h2⟩
  have hb := fbase h0.1
  rw [← ht x hx] at h2
  refine ⟨rfl, hK [] _ _ _ _ _ _ ?_⟩
  refine And.intro (by omega) ?_
  exact h2
theorem m_X1_traceOf (l : Launch) : mm_Met l yX1_traceOf cX1_traceOf 2 (some .int) 0 0 0 T_X1_traceOf := mm_met (E := e_X1_traceOf) (cd := kX1_traceOf) s_X1_traceOf (by decide) kX1_traceOf_ok (by decide +kernel) (by decide +kernel) (Or.inr (Or.inl ⟨rfl, rfl⟩)) rfl (mm_eok_X1 _) (mm_calls_nil)
theorem nrm_c : fevery (fun f => fall f (fun x => Nat.beq (pw f x ((fQ f - 1) / (fP f - 1))) (nrmX f x)) && (Nat.ble 1 ((fQ f - 1) / (fP f - 1)) && Nat.ble ((fQ f - 1) / (fP f - 1)) 30)) = true := by decide +kernel
def T_X1_normOf : Tr := fun av h N _ => ∃ (w : CW) (c : CS) (f x : Nat), av = [mR 1, mI x] ∧ h = hC w c ∧ CF0 f c ∧ CFw f c ∧ x < fQ f ∧ N (some (mI (nrmX f x : Nat))) h
abbrev e_X1_normOf : NE := (ftX1, [(75, (3, 0, 0, false, (0, 1), T_X1_raised))], ltX1, [], [], false, 1, (0, 0), [], [], [], true)
theorem s_X1_normOf : mm_Spec e_X1_normOf kX1_normOf 2 T_X1_normOf := by
  rintro N X K av h hK ⟨w, c, f, x, rfl, rfl, h0, hw, hx, h2⟩
  have hb := fbase h0.1
  have hn := fevery_at nrm_c h0.1
  rw [Bool.and_eq_true, Bool.and_eq_true] at hn
  rw [← Nat.eq_of_beq_eq_true (fall_at hn.1 hx)] at h2
  refine ⟨rfl, hK [] _ _ _ _ _ _ ?_⟩
  conv => whnf
  rw [h0.2.2.2, show (fQ f : Int) - 1 = ((fQ f - 1 : Nat) : Int) by omega]
  refine And.intro (rng_nat (by omega)) ?_
  conv => whnf
  rw [h0.2.1, show (fP f : Int) - 1 = ((fP f - 1 : Nat) : Int) by omega]
  refine And.intro (rng_nat (by omega)) ?_
  refine And.intro (dv_ok (by omega) (by omega)) ?_
  rw [tdn]
  exact ⟨w, c, f, x, _, rfl, rfl, h0, hw, hx, Nat.le_of_ble_eq_true hn.2.1, Nat.le_trans (Nat.le_of_ble_eq_true hn.2.2) (by omega), h2⟩
theorem m_X1_normOf (l : Launch) : mm_Met l yX1_normOf cX1_normOf 2 (some .int) 1 0 0 T_X1_normOf := mm_met (E := e_X1_normOf) (cd := kX1_normOf) s_X1_normOf (by decide) kX1_normOf_ok (by decide +kernel) (by decide +kernel) (Or.inr (Or.inl ⟨rfl, rfl⟩)) rfl (mm_eok_X1 _) (mm_calls_cons (mm_cbv wi_X1_raised (tb2 (i := 114) rfl rfl) (m_X1_raised l) (by decide) (by decide) rfl) (mm_calls_nil))
def T_X1_inClass : Tr := fun av h N _ => ∃ (w : CW) (c : CS) (f x e i : Nat), av = [mR 1, mI x, mI e, mI i] ∧ h = hC w c ∧ CF0 f c ∧ CFw f c ∧ x < fQ f ∧ 1 ≤ e ∧ N (some (mI (bi (x ≠ 0 ∧ flog f x % e = i)))) h
abbrev e_X1_inClass : NE := (ftX1, [], ltX1, [], [], false, 2, (0, 0), [], [], [], true)
theorem s_X1_inClass : mm_Spec e_X1_inClass kX1_inClass 4 T_X1_inClass := by
  rintro N X K av h hK ⟨w, c, f, x, e, i, rfl, rfl, h0, hw, hx, he, h2⟩
  have hb := fbase h0.1
  have hl := flog_lt h0.1 hx
  refine ⟨rfl, hK [] _ _ _ _ _ _ ?_⟩
  refine And.intro (fun q => ?_) (fun q => ?_)
  · rw [bi_f (fun z => z.1 (by omega))] at h2
    exact And.intro (Or.inl rfl) h2
  refine And.intro (by omega) ?_
  conv => whnf
  rw [hw.2 x (by omega) hx]
  refine And.intro (dv_ok (by omega) (by omega)) ?_
  rw [tmn]
  refine And.intro (fun q2 => ?_) (fun q2 => ?_)
  · rw [bi_f (fun z => q2 (by rw [z.2]))] at h2
    exact And.intro (Or.inl rfl) h2
  · rw [bi_t ⟨by omega, by omega⟩] at h2
    exact And.intro (Or.inr rfl) h2
theorem m_X1_inClass (l : Launch) : mm_Met l yX1_inClass cX1_inClass 4 (some .boolean) 0 0 0 T_X1_inClass := mm_met (E := e_X1_inClass) (cd := kX1_inClass) s_X1_inClass (by decide) kX1_inClass_ok (by decide +kernel) (by decide +kernel) (Or.inr (Or.inr (Or.inl ⟨rfl, rfl⟩))) rfl (mm_eok_X1 _) (mm_calls_nil)
def T_X1_leastAt : Tr := fun av h N _ => ∃ (w : CW) (c : CS) (i : Int), av = [mR 1, mI i] ∧ h = hC w c ∧ 0 ≤ i ∧ i < 5 ∧ N (some (mI (c.2.1 9 i))) h
abbrev e_X1_leastAt : NE := (ftX1, [], ltX1, [], [], false, 1, (0, 0), [], [], [], true)
theorem s_X1_leastAt : mm_Spec e_X1_leastAt kX1_leastAt 2 T_X1_leastAt := by
  rintro N X K av h hK ⟨w, c, i, rfl, rfl, h0, h1, h2⟩
  refine ⟨rfl, hK [] _ _ _ _ _ _ ?_⟩
  refine And.intro (by omega) ?_
  exact h2
theorem m_X1_leastAt (l : Launch) : mm_Met l yX1_leastAt cX1_leastAt 2 (some .int) 0 0 0 T_X1_leastAt := mm_met (E := e_X1_leastAt) (cd := kX1_leastAt) s_X1_leastAt (by decide) kX1_leastAt_ok (by decide +kernel) (by decide +kernel) (Or.inr (Or.inl ⟨rfl, rfl⟩)) rfl (mm_eok_X1 _) (mm_calls_nil)
/-! figures added -/
def adS (p x y : Nat) : Nat → Nat
  | 0 => 0
  | n + 1 => adS p x y n + (x / p ^ n + y / p ^ n) % p * p ^ n
theorem adS_c : fevery (fun f => fall f (fun x => fall f (fun y => Nat.beq (adS (fP f) x y (fK f)) (fsum f x y)))) = true := by decide +kernel
theorem adS_lt {p x y : Nat} (hp : 0 < p) : ∀ n, adS p x y n < p ^ n
  | 0 => by show 0 < 1; omega
  | n + 1 => by
    have ih := adS_lt (x := x) (y := y) hp n
    have hm := Nat.mod_lt (x / p ^ n + y / p ^ n) hp
    have h1 : ((x / p ^ n + y / p ^ n) % p + 1) * p ^ n ≤ p * p ^ n := Nat.mul_le_mul_right _ hm
    rw [Nat.add_mul, Nat.mul_comm p] at h1
    show adS p x y n + (x / p ^ n + y / p ^ n) % p * p ^ n < p ^ (n + 1)
    rw [Nat.pow_succ]
    omega
def T_X1_addedDigits : Tr := fun av h N _ => ∃ (w : CW) (c : CS) (f x y : Nat), av = [mR 1, mI x, mI y] ∧ h = hC w c ∧ CF0 f c ∧ x < fQ f ∧ y < fQ f ∧ N (some (mI (fsum f x y : Nat))) h
abbrev e_X1_addedDigits : NE := (ftX1, [], ltX1, [], [], false, 1, (0, 0), [], [], [], true)
theorem s_X1_addedDigits : mm_Spec e_X1_addedDigits kX1_addedDigits 5 T_X1_addedDigits := by
  rintro N X K av h hK ⟨w, c, f, x, y, rfl, rfl, h0, hx, hy, h2⟩
  obtain ⟨b1, b2, b3, b4, b5, b6, b7, -⟩ := fbase h0.1
  rw [← Nat.eq_of_beq_eq_true (fall_at (fall_at (fevery_at adS_c h0.1) hx) hy)] at h2
  have loop : ∀ i : Nat, i ≤ fK f → K 5 [some (mR 1), some (mI x), some (mI y), some (mI (adS (fP f) x y i : Nat)), some (mI (fP f ^ i : Nat))] [] (hC w c) 0 0 := by
    refine mm_for (fK f) ?_ (fun i hi ih => ?_)
    · refine hK [5] _ _ _ _ _ _ ?_
      conv => whnf
      rw [h0.2.2.2, b7]
      refine And.intro (fun _ => ?_) (fun q => absurd q (by omega))
      exact h2
    · have hlt : fP f ^ i < fQ f := by rw [← b7]; exact Nat.pow_lt_pow_right (by omega) hi
      have hpos : 0 < fP f ^ i := Nat.pow_pos (by omega)
      have hle : fP f ^ (i + 1) ≤ fQ f := by rw [← b7]; exact Nat.pow_le_pow_right (by omega) hi
      have hs := adS_lt (x := x) (y := y) (show 0 < fP f by omega) i
      have hs1 := adS_lt (x := x) (y := y) (show 0 < fP f by omega) (i + 1)
      have hs1' : adS (fP f) x y i + (x / fP f ^ i + y / fP f ^ i) % fP f * fP f ^ i < fP f ^ (i + 1) := hs1
      have d1 := Nat.div_le_self x (fP f ^ i)
      have d2 := Nat.div_le_self y (fP f ^ i)
      refine hK [5] _ _ _ _ _ _ ?_
      conv => whnf
      rw [h0.2.2.2]
      refine And.intro (fun q => absurd q (by omega)) (fun _ => ?_)
      refine And.intro (dv_ok hpos (by omega)) ?_
      rw [tdn]
      refine And.intro (dv_ok hpos (by omega)) ?_
      rw [tdn]
      conv => whnf
      rw [cadd]
      refine And.intro (rng_nat (by omega)) ?_
      conv => whnf
      rw [h0.2.1]
      refine And.intro (dv_ok (by omega) (by omega)) ?_
      rw [tmn]
      conv => whnf
      rw [cmul]
      refine And.intro (rng_nat (by omega)) ?_
      conv => whnf
      rw [cadd]
      refine And.intro (rng_nat (by omega)) ?_
      conv => whnf
      rw [h0.2.1, cmul, show fP f ^ i * fP f = fP f ^ (i + 1) from rfl]
      refine And.intro (rng_nat (by omega)) ?_
      exact ih
  refine ⟨rfl, hK [5] _ _ _ _ _ _ ?_⟩
  exact loop 0 (by omega)
theorem m_X1_addedDigits (l : Launch) : mm_Met l yX1_addedDigits cX1_addedDigits 5 (some .int) 0 0 0 T_X1_addedDigits := mm_met (E := e_X1_addedDigits) (cd := kX1_addedDigits) s_X1_addedDigits (by decide) kX1_addedDigits_ok (by decide +kernel) (by decide +kernel) (Or.inr (Or.inl ⟨rfl, rfl⟩)) rfl (mm_eok_X1 _) (mm_calls_nil)
theorem xy_inj {q x y x' y' : Nat} (hy : y < q) (hy' : y' < q) (h : (x : Int) * (q : Int) + (y : Int) = (x' : Int) * (q : Int) + (y' : Int)) : x = x' ∧ y = y' := by
  have h1 : x * q + y = x' * q + y' := by
    have h2 : ((x * q + y : Nat) : Int) = ((x' * q + y' : Nat) : Int) := by push_cast; exact h
    omega
  have e1 : (x * q + y) / q = x := by rw [Nat.mul_comm, Nat.mul_add_div (by omega), Nat.div_eq_of_lt hy, Nat.add_zero]
  have e2 : (x' * q + y') / q = x' := by rw [Nat.mul_comm, Nat.mul_add_div (by omega), Nat.div_eq_of_lt hy', Nat.add_zero]
  have e3 : x = x' := by rw [← e1, ← e2, h1]
  subst e3
  omega
theorem neg_c : fevery (fun f => fall f (fun x => fall f (fun y => (Nat.beq (fsum f x y) 0) == (Nat.beq y (fneg f x))))) = true := by decide +kernel
theorem neg_iff {f x y : Nat} (hf : f < 15) (hx : x < fQ f) (hy : y < fQ f) : fsum f x y = 0 ↔ y = fneg f x := by
  have h := fall_at (fall_at (fevery_at neg_c hf) hx) hy
  have h := eq_of_beq h
  constructor
  · intro e
    rw [e] at h
    exact Nat.eq_of_beq_eq_true h.symm
  · intro e
    rw [← e, Nat.beq_refl] at h
    exact Nat.eq_of_beq_eq_true h
/-- a table, as far as it is filled -/
def tabX (q x y : Nat) (g : Nat → Nat → Nat) (A : Int → Int) : Prop := ∀ u v : Nat, u < q → v < q → (u < x ∨ (u = x ∧ v < y)) → A ((u : Int) * (q : Int) + (v : Int)) = (g u v : Nat)
theorem tabX_next {q x y : Nat} {g : Nat → Nat → Nat} {A : Int → Int} (h : tabX q x y g A) (hy : y < q) : tabX q x (y + 1) g (mm_upd A ((x : Int) * (q : Int) + (y : Int)) (g x y : Nat)) := by
  intro u v hu hv hh
  unfold mm_upd
  by_cases q1 : u = x ∧ v = y
  · rw [if_pos (by rw [q1.1, q1.2]), q1.1, q1.2]
  · rw [if_neg (fun z => q1 (xy_inj hv hy z))]
    exact h u v hu hv (by omega)
theorem tabX_row {q x : Nat} {g : Nat → Nat → Nat} {A : Int → Int} (h : tabX q x q g A) : tabX q (x + 1) 0 g A := fun u v hu hv hh => h u v hu hv (by omega)
def T_X1_fillSums : Tr := fun av h N _ => ∃ (w : CW) (c : CS) (f : Nat), av = [mR 1] ∧ h = hC w c ∧ CF0 f c ∧ ∀ c' : CS, FC [] [2, 3] [] c c' → CFs f c' → CFn f c' → N none (hC w c')
abbrev e_X1_fillSums : NE := (ftX1, [(87, (3, 0, 0, false, (0, 1), T_X1_addedDigits))], ltX1, [], [], false, 0, (0, 0), [], [], [], true)
set_option maxHeartbeats 4000000 in
theorem s_X1_fillSums : mm_Spec e_X1_fillSums kX1_fillSums 4 T_X1_fillSums := by
  rintro N X K av h hK ⟨w, c, f, rfl, rfl, h0, h2⟩
  have hb := fbase h0.1
  have hq : ∀ A B : Int → Int, (kA (kA c 2 A) 3 B).1 3 = (fQ f : Int) := fun _ _ => h0.2.2.2
  have rows : ∀ x : Nat, x ≤ fQ f → ∀ (A B : Int → Int) (o1 o2 : Option MV), tabX (fQ f) x 0 (fsum f) A → (∀ u : Nat, u < x → B (u : Int) = (fneg f u : Nat)) → K 2 [some (mR 1), some (mI x), o1, o2] [] (hC w (kA (kA c 2 A) 3 B)) 0 0 := by
    refine mm_for (fQ f) (fun A B o1 o2 hA hB => ?_) (fun x hx ih A B o1 o2 hA hB => ?_)
    · refine hK [] _ _ _ _ _ _ ?_
      conv => whnf
      rw [hq]
      refine And.intro (fun _ => ?_) (fun q => absurd q (by omega))
      refine h2 _ (FC_A (FC_A (FC_rf c) rfl) rfl) (fun u v hu hv => hA u v hu hv (Or.inl hu)) hB
    · have cols : ∀ y : Nat, y ≤ fQ f → ∀ (A B : Int → Int) (o2 : Option MV), tabX (fQ f) x y (fsum f) A → (∀ u : Nat, u < x → B (u : Int) = (fneg f u : Nat)) → (fneg f x < y → B (x : Int) = (fneg f x : Nat)) → K 12 [some (mR 1), some (mI x), some (mI y), o2] [] (hC w (kA (kA c 2 A) 3 B)) 0 0 := by
        refine mm_for (fQ f) (fun A B o2 hA hB hBx => ?_) (fun y hy ihy A B o2 hA hB hBx => ?_)
        · refine hK [2] _ _ _ _ _ _ ?_
          conv => whnf
          rw [hq]
          refine And.intro (fun _ => ?_) (fun q => absurd q (by omega))
          refine And.intro (rng_of (by omega) (by omega)) ?_
          refine ih A B _ _ (tabX_row hA) (fun u hu => ?_)
          by_cases q : u = x
          · rw [q]; exact hBx (fneg_lt h0.1 hx)
          · exact hB u (by omega)
        · have hl := xy_lt hb.1 hx hy
          have hc : (x : Int) * (fQ f : Int) = ((x * fQ f : Nat) : Int) := by push_cast; rfl
          have hni := neg_iff h0.1 hx hy
          refine hK [12] _ _ _ _ _ _ ?_
          conv => whnf
          rw [hq]
          refine And.intro (fun q => absurd q (by omega)) (fun _ => ?_)
          refine ⟨w, kA (kA c 2 A) 3 B, f, x, y, rfl, rfl, h0, hx, hy, ?_⟩
          conv => whnf
          rw [hq]
          refine And.intro (by rw [hc]; exact rng_nat (by omega)) ?_
          refine And.intro (by rw [hc]; exact rng_of (by omega) (by omega)) ?_
          refine And.intro (by rw [hc]; omega) ?_
          refine And.intro (fun q => ?_) (fun q => ?_)
          · refine And.intro (rng_of (by omega) (by omega)) ?_
            refine ihy _ B _ (tabX_next hA hy) hB (fun z => hBx ?_)
            have : y ≠ fneg f x := fun e => q (by rw [hni.mpr e]; rfl)
            omega
          · have e : y = fneg f x := hni.mp (by omega)
            refine And.intro (by omega) ?_
            refine And.intro (rng_of (by omega) (by omega)) ?_
            refine ihy _ (mm_upd B (x : Int) (y : Int)) _ (tabX_next hA hy) (fun u hu => ?_) (fun _ => ?_)
            · unfold mm_upd
              rw [if_neg (by omega)]
              exact hB u hu
            · unfold mm_upd
              rw [if_pos rfl, ← e]
      refine hK [12] _ _ _ _ _ _ ?_
      conv => whnf
      rw [hq]
      refine And.intro (fun q => absurd q (by omega)) (fun _ => ?_)
      exact cols 0 (by omega) A B _ hA hB (fun z => absurd z (by omega))
  refine ⟨rfl, hK [2] _ _ _ _ _ _ ?_⟩
  exact rows 0 (by omega) (c.2.1 2) (c.2.1 3) _ _ (fun u v _ _ z => absurd z (by omega)) (fun u z => absurd z (by omega))
theorem m_X1_fillSums (l : Launch) : mm_Met l yX1_fillSums cX1_fillSums 4 none 1 0 0 T_X1_fillSums := mm_met (E := e_X1_fillSums) (cd := kX1_fillSums) s_X1_fillSums (by decide) kX1_fillSums_ok (by decide +kernel) (by decide +kernel) (Or.inl ⟨rfl, rfl⟩) rfl (mm_eok_X1 _) (mm_calls_cons (mm_cbv wi_X1_addedDigits (tb2 (i := 66) rfl rfl) (m_X1_addedDigits l) (by decide) (by decide) rfl) (mm_calls_nil))
